theorem so_callI {X : am_X} (cx : am_cx X) {pc : Nat} {ls : am_L} {st : List AV} {V : am_V} {R : am_T} {T cc cs d i : Nat} {aux : List Nat} {k : Option AV → am_V → am_T → Nat → Prop} (hd : decode (am_X.bytes X) pc = .ok (.invokespecial i, 3)) (hok : am_okc (am_X.own X) 2 i aux = true) (hrec : am_isr (am_nth aux 10) (st.drop (am_nth aux 1 - 1)) = true) (hcat : am_cats (st.drop (am_nth aux 1)) ≤ 8) (hB : cc + am_nth aux 3 ≤ (am_X.Rm X).cells ∧ cs + am_nth aux 4 ≤ (am_X.Rm X).slots) (hfr : d + 1 ≤ (am_X.Rm X).frames) (hlo : 36 * (d + 1) ≤ (am_X.Rm X).locals) (h : am_Calls (am_X.g X) d (am_nth aux 0) (st.take (am_nth aux 1)).reverse V R T k) (hk : ∀ v V' R' T', k v V' R' T' → am_W X (pc + 3) ls (am_push v (st.drop (am_nth aux 1))) V' R' T' (cc + am_nth aux 3) (cs + am_nth aux 4)) : am_W X pc ls st V R T cc cs := by
  obtain ⟨μ, hμ, hM⟩ := h
  have hok2 := hok
  unfold am_okc at hok2
  rw [hμ] at hok2
  obtain ⟨ow, y, by', nl, rt, bc, bs, cd⟩ := μ
  simp only [Bool.and_eq_true, am_wd, decide_eq_true_eq] at hok2
  obtain ⟨q1, q2, q3, q4, q5, q6, q7, q8, q9, q10, q12⟩ := hok2
  have q1 := Nat.eq_of_beq_eq_true q1
  have q2 := Nat.eq_of_beq_eq_true q2
  subst q10
  obtain ⟨na, hna⟩ : ∃ na, am_nth aux 1 = na + 1 := by
    cases hp : parseMethodDescriptor y.desc with
    | none => rw [hp] at q12; cases q12
    | some sg => rw [hp] at q12; exact ⟨_, (Option.some.inj q12).symm⟩
  have hnp : (parseMethodDescriptor y.desc).map (fun q => q.parameters.length) = some na := by
    cases hp : parseMethodDescriptor y.desc with
    | none => rw [hp] at q12; cases q12
    | some sg =>
      rw [hp, hna] at q12
      have := Option.some.inj q12
      exact congrArg some (Nat.succ.inj this)
  have hcb := am_callB cx hμ rfl hok hfr hlo hnp
  rw [hna] at hrec hcat hM hk
  rw [← q1, ← q2] at hB hk
  rw [Nat.add_sub_cancel] at hrec
  obtain ⟨o, rest, hdrop⟩ : ∃ o rest, st.drop na = .inr (.inr (some (.inl o))) :: rest := by
    match hq : st.drop na, hrec with
    | .inr (.inr (some (.inl a))) :: l, hr => exact ⟨a, l, rfl⟩
  have hlt : na < st.length := by
    rcases Nat.lt_or_ge na st.length with q | q
    · exact q
    · rw [List.drop_eq_nil_of_le q] at hdrop
      cases hdrop
  have hrest : st.drop (na + 1) = rest := by
    rw [← List.drop_drop, hdrop]
    rfl
  have htk : st.take (na + 1) = st.take na ++ [.inr (.inr (some (.inl o)))] := by
    have e1 : st = st.take na ++ (.inr (.inr (some (.inl o))) :: rest) := by rw [← hdrop, List.take_append_drop]
    have hl : (st.take na).length = na := by rw [List.length_take]; omega
    conv => lhs; rw [e1]
    rw [List.take_append, hl, show na + 1 - na = 1 by omega]
    congr 1
    · rw [List.take_of_length_le]
      omega
  have hsplit : st = (st.take na) ++ (.inr (.inr (some (.inl o))) :: rest) := by rw [← hdrop, List.take_append_drop]
  rw [hrest] at hk hcat
  rw [htk, List.reverse_append, List.reverse_singleton] at hM
  obtain ⟨p, e, Rm, s, m, args, below, meth, c, QQ, G, own, bytes, nL, Bc, Bs, V0, T0⟩ := X
  obtain ⟨hx, hb, hml, hown, hts, hK, hRc, hRs⟩ := cx
  intro la H locs hf
  refine am_back (st := rest) hf (fun v hv => by rw [hsplit]; exact List.mem_append_right _ (List.mem_cons_of_mem _ hv)) ⟨by rw [← hRc]; exact hB.1, by rw [← hRs]; exact hB.2⟩ (va_runI (As := ((st.take na).reverse).map (am_cv G)) (b := am_ad G o) (n := na) (nL := nL) ⟨hx, hb, hml, hown, am_hts hts⟩ hM ⟨hcb, q9, hts _ (List.mem_of_getElem? q8) rfl⟩ ⟨am_blind, am_pre hf hK (fun v hv => ?_)⟩ rfl (by rw [List.length_map, List.length_reverse, List.length_take]; omega) hf.oL.2.1.1 ?_ (lv_room (by rw [am_cats_sum]; exact hcat)) hd hB) hk
  · rcases List.mem_cons.mp hv with h | h
    · subst h
      rw [hsplit]
      exact List.mem_append_right _ List.mem_cons_self
    · exact List.mem_of_mem_take (List.mem_reverse.mp h)
  · show st.map (am_cv G) = _
    conv => lhs; rw [hsplit]
    rw [List.map_append, ← List.map_reverse, List.reverse_reverse]
    rfl
theorem so_callS {X : am_X} (cx : am_cx X) {pc : Nat} {ls : am_L} {st : List AV} {V : am_V} {R : am_T} {T cc cs d i : Nat} {aux : List Nat} {k : Option AV → am_V → am_T → Nat → Prop} (hd : decode (am_X.bytes X) pc = .ok (.invokestatic i, 3)) (hok : am_okc (am_X.own X) 1 i aux = true) (hlen : am_nth aux 1 ≤ st.length) (hcat : am_cats (st.drop (am_nth aux 1)) ≤ 8) (hB : cc + am_nth aux 3 ≤ (am_X.Rm X).cells ∧ cs + am_nth aux 4 ≤ (am_X.Rm X).slots) (hfr : d + 1 ≤ (am_X.Rm X).frames) (hlo : 36 * (d + 1) ≤ (am_X.Rm X).locals) (h : am_Calls (am_X.g X) d (am_nth aux 0) (st.take (am_nth aux 1)).reverse V R T k) (hk : ∀ v V' R' T', k v V' R' T' → am_W X (pc + 3) ls (am_push v (st.drop (am_nth aux 1))) V' R' T' (cc + am_nth aux 3) (cs + am_nth aux 4)) : am_W X pc ls st V R T cc cs := by
  obtain ⟨μ, hμ, hM⟩ := h
  have hok2 := hok
  unfold am_okc at hok2
  rw [hμ] at hok2
  obtain ⟨ow, y, by', nl, rt, bc, bs, cd⟩ := μ
  simp only [Bool.and_eq_true, am_wd, decide_eq_true_eq] at hok2
  obtain ⟨q1, q2, q3, q4, q5, q6, q7, q8, q12⟩ := hok2
  have q1 := Nat.eq_of_beq_eq_true q1
  have q2 := Nat.eq_of_beq_eq_true q2
  have hcb := am_callB cx hμ rfl hok hfr hlo q12
  generalize am_nth aux 1 = na at *
  rw [← q1, ← q2] at hB hk
  have hsplit : st = (st.take na) ++ st.drop na := (List.take_append_drop na st).symm
  obtain ⟨p, e, Rm, s, m, args, below, meth, c, QQ, G, own, bytes, nL, Bc, Bs, V0, T0⟩ := X
  obtain ⟨hx, hb, hml, hown, hts, hK, hRc, hRs⟩ := cx
  intro la H locs hf
  refine am_back (st := st.drop na) hf (fun v hv => List.mem_of_mem_drop hv) ⟨by rw [← hRc]; exact hB.1, by rw [← hRs]; exact hB.2⟩ (va_runS (As := ((st.take na).reverse).map (am_cv G)) (n := na) (nL := nL) ⟨hx, hb, hml, hown, am_hts hts⟩ hM ⟨hcb, hts _ (List.mem_of_getElem? q8) rfl⟩ ⟨am_blind, am_pre hf hK (fun v hv => ?_)⟩ rfl (by rw [List.length_map, List.length_reverse, List.length_take]; omega) hf.oL.2.1.1 ?_ (lv_room (by rw [am_cats_sum]; exact hcat)) hd hB) hk
  · exact List.mem_of_mem_take (List.mem_reverse.mp hv)
  · show st.map (am_cv G) = _
    conv => lhs; rw [hsplit]
    rw [List.map_append, ← List.map_reverse, List.reverse_reverse]
theorem am_room_of {b c cc cs Bc Bs : Nat} {P : Prop} (h : am_room b c cc cs Bc Bs P) (hc : cc ≤ Bc ∧ cs ≤ Bs) : (cc + b ≤ Bc ∧ cs + c ≤ Bs) ∧ P := by
  unfold am_room at h
  cases hb : Nat.beq (b + c) 0 with
  | true =>
    rw [hb] at h
    have := Nat.eq_of_beq_eq_true hb
    exact ⟨by omega, h⟩
  | false =>
    rw [hb] at h
    exact h
/-- the code from a place on: each row checked, one behind the other -/
def am_good (own : String) (init : Bool) (ret : Option FieldType) (bytes : ByteArray) (nL : Nat) (cd : List CI) : Prop := (∀ q ∈ cd, am_ok1 own init ret bytes nL q = true) ∧ am_lin cd = true
theorem am_good.tail {own : String} {init : Bool} {ret : Option FieldType} {bytes : ByteArray} {nL : Nat} {q : CI} {cd : List CI} (h : am_good own init ret bytes nL (q :: cd)) : am_good own init ret bytes nL cd := by
  refine ⟨fun x hx => h.1 x (List.mem_cons_of_mem _ hx), ?_⟩
  have := h.2
  unfold am_lin at this
  exact (Bool.and_eq_true _ _ ▸ this).2
theorem am_good.next {own : String} {init : Bool} {ret : Option FieldType} {bytes : ByteArray} {nL : Nat} {q q2 : CI} {cd : List CI} (h : am_good own init ret bytes nL (q :: q2 :: cd)) : q.2.1 + q.2.2.2.1 = q2.2.1 := by
  have := h.2
  unfold am_lin at this
  exact Nat.eq_of_beq_eq_true (Bool.and_eq_true _ _ ▸ this).1
theorem am_good.at {own : String} {init : Bool} {ret : Option FieldType} {bytes : ByteArray} {nL : Nat} : ∀ {C : List CI} (t : Nat), am_good own init ret bytes nL C → am_good own init ret bytes nL (am_at C t) ∧ ∀ q l, am_at C t = q :: l → q.2.1 = t
  | [], t, h => ⟨h, fun q l e => by cases e⟩
  | x :: C, t, h => by
    unfold am_at
    cases hb : Nat.beq x.2.1 t with
    | true => exact ⟨h, fun q l e => by cases e; exact Nat.eq_of_beq_eq_true hb⟩
    | false => exact am_good.at t h.tail
def am_pc (cd : List CI) : Nat := match cd with
  | [] => 0
  | q :: _ => q.2.1
