/-! our own methods' calls -/
theorem am_back {G : am_G} {p : Program} {e : Env} {Rm : Room} {s : State} {m : MethodId} {args : Array Value} {below : List Frame} {meth : Method} {c : Code} {QQ : State → Prop} {own : String} {bytes : ByteArray} {nL Bc Bs : Nat} {V0 : am_V} {T0 : Nat} {ls : am_L} {st0 st : List AV} {V : am_V} {R : am_T} {T cc cs bc bs pc : Nat} {la : Array Slot} {H : Heap} {locs : List Loc} {stv : List Value} {a : Array Value} {Q : Option AV → am_V → am_T → Nat → Prop} (hf : am_fr G s V0 T0 nL Bc Bs ls st0 V R T cc cs la H locs) (hst : ∀ v ∈ st, v ∈ st0) (hB : cc + bc ≤ Bc ∧ cs + bs ≤ Bs)
    (hr : va_Run p (am_G.l G) e Rm s m args below meth c H locs cc cs bc bs (F0 m pc la stv) (st.map (am_cv G)) (am_Qc G V T Q a) (fun q => am_G.b G ≤ q))
    (kk : ∀ v V' R' T', Q v V' R' T' → am_W (p, e, Rm, s, m, args, below, meth, c, QQ, G, own, bytes, nL, Bc, Bs, V0, T0) (pc + 3) ls (am_push v st) V' R' T' (cc + bc) (cs + bs)) : W p (am_G.l G) e Rm s m args below meth c H locs cc cs QQ (F0 m pc la stv) := by
  intro S hS X
  obtain ⟨v, st₀, t, S', L, h0, X', hL, e1, e2, ⟨⟨v', V', R', T', hv, hQ, hz, hTT, hP, hR, hV, hok⟩, hz2, hk2⟩, step⟩ := hr S hS X
  have hv : v = v'.map (am_cv G) := by cases hv; rfl
  subst hv
  rw [h0] at hz2 hk2
  have hfr : am_fr G s V0 T0 nL Bc Bs ls (am_push v' st) V' R' T' (cc + bc) (cs + bs) la S'.heap (locs ++ L) := by
    refine ⟨by rw [e1]; exact hz, hf.2.1, Nat.le_trans hf.2.2.1 hTT, by rw [e1]; exact hP, ⟨Nat.le_trans hf.oS.1 (by rw [e1]; exact hz2), fun q h1 h2 => ?_, fun q hq => ?_⟩, hR, fun x hx => (hV x hx).trans (hf.oV x hx), hf.oL.mono hTT, fun w hw => ?_, hB⟩
    · rw [e1, hk2 q (Nat.lt_of_lt_of_le h1 hf.oS.1) h2]
      exact hf.oS.2.1 q h1 h2
    · rcases List.mem_append.mp hq with h | h
      · exact hf.oS.2.2 q h
      · exact hL q h
    · cases v' with
      | none => exact (hf.ok w (hst w hw)).mono hTT
      | some y =>
        rcases List.mem_cons.mp hw with h | h
        · subst h
          exact hok _ rfl
        · exact (hf.ok w (hst w h)).mono hTT
  obtain ⟨t2, a1, b1⟩ := kk v' V' R' T' hQ la S'.heap _ hfr S' rfl X'
  refine ⟨t2, step t2 ?_, b1⟩
  have hpush : (am_push v' st).map (am_cv G) = (v'.map (am_cv G)).toList ++ st.map (am_cv G) := by cases v' <;> rfl
  rw [hpush] at a1
  exact a1
theorem am_pre {G : am_G} {s : State} {V0 : am_V} {T0 nL Bc Bs : Nat} {ls : am_L} {st0 : List AV} {V : am_V} {R : am_T} {T cc cs : Nat} {la : Array Slot} {H : Heap} {locs : List Loc} {as : List AV} (hf : am_fr G s V0 T0 nL Bc Bs ls st0 V R T cc cs la H locs) (hK : am_K G V0 s) (has : ∀ v ∈ as, v ∈ st0) : ∀ U : State, U.heap = H → s.WarmedH U.vm → am_Pc G as V R T (as.map (am_cv G)).toArray U := by
  intro U hU hW
  refine ⟨rfl, by rw [hU]; exact hf.sz, hf.T3, by rw [hU]; exact hf.oP, hf.oR, fun v hv => hf.ok v (has v hv), ?_⟩
  have h1 := am_K.moved (G := G) hW.alike (fun q h1 h2 => by rw [hU]; exact hf.oS.2.1 q h1 h2) hK
  obtain ⟨k1, k2, k3, k4, k5, k6, k7, k8, k9, k10⟩ := h1
  have e0 := hf.oV 0 (by decide)
  have e1 := hf.oV 1 (by decide)
  have e2 := hf.oV 2 (by decide)
  exact ⟨k1, k2, k3, k4, k5, k6, by rw [e0]; exact k7, by rw [e0]; exact k8, by rw [e1]; exact k9, by rw [e2]; exact k10⟩
theorem am_callB {X : am_X} (cx : am_cx X) {d ix i na : Nat} {aux : List Nat} {kd : Nat} {μ : am_M} (hμ : am_mt[ix]? = some μ) (hix : am_nth aux 0 = ix) (hok : am_okc (am_X.own X) kd i aux = true) (hfr : d + 1 ≤ (am_X.Rm X).frames) (hlo : 36 * (d + 1) ≤ (am_X.Rm X).locals) (hn : (parseMethodDescriptor (am_M.y μ).desc).map (fun q => q.parameters.length) = some na) :
    match X with
    | (p, e, Rm, s, m, args, below, meth, c, QQ, G, own, bytes, nL, Bc, Bs, V0, T0) => CallB Rm s args own i (am_M.y μ) (am_M.bytes μ) (am_M.nL μ) (am_M.ret μ) (am_words μ) (am_room0 d (am_M.bc μ) (am_M.bs μ)) (am_M.bc μ) (am_M.bs μ) na := by
  obtain ⟨p, e, Rm, s, m, args, below, meth, c, QQ, G, own, bytes, nL, Bc, Bs, V0, T0⟩ := X
  obtain ⟨hx, hb, hml, hown, hts, hK, hRc, hRs⟩ := cx
  obtain ⟨ow, y, by', nl, rt, bc, bs, cd⟩ := μ
  unfold am_okc at hok
  rw [hix, hμ] at hok
  simp only [Bool.and_eq_true, am_wd, decide_eq_true_eq] at hok
  obtain ⟨-, -, h3, h4, h5, h6, h7, -⟩ := hok
  have hfr : d + 1 ≤ Rm.frames := hfr
  have hlo : 36 * (d + 1) ≤ Rm.locals := hlo
  have hnl : nl ≤ 17 := Nat.le_of_ble_eq_true h6
  refine callB_of na (Ts := am_gw) (am_hts hts) (fun w hw => ?_) rfl rfl rfl (hts _ (List.mem_of_getElem? h5) rfl) (hts _ (List.mem_of_getElem? h3) rfl) ⟨h7.1, h7.2, hn⟩ ⟨hfr, ?_⟩
  · rcases List.mem_cons.mp hw with h | h
    · subst h
      exact ⟨am_gw_of (List.mem_of_getElem? h4) rfl, Or.inl rfl⟩
    · exact ⟨h, good_of_word (List.mem_filter.mp h).2⟩
  · show 8 + (nl + 11) + 36 * d ≤ Rm.locals
    omega
theorem so_callV {X : am_X} (cx : am_cx X) {pc : Nat} {ls : am_L} {st : List AV} {V : am_V} {R : am_T} {T cc cs d i : Nat} {aux : List Nat} {k : Option AV → am_V → am_T → Nat → Prop} (hd : decode (am_X.bytes X) pc = .ok (.invokevirtual i, 3)) (hok : am_okc (am_X.own X) 0 i aux = true) (hrec : am_isr (am_nth aux 10) (st.drop (am_nth aux 1 - 1)) = true) (hcat : am_cats (st.drop (am_nth aux 1)) ≤ 8) (hB : cc + am_nth aux 3 ≤ (am_X.Rm X).cells ∧ cs + am_nth aux 4 ≤ (am_X.Rm X).slots) (hfr : d + 1 ≤ (am_X.Rm X).frames) (hlo : 36 * (d + 1) ≤ (am_X.Rm X).locals) (h : am_Calls (am_X.g X) d (am_nth aux 0) (st.take (am_nth aux 1)).reverse V R T k) (hk : ∀ v V' R' T', k v V' R' T' → am_W X (pc + 3) ls (am_push v (st.drop (am_nth aux 1))) V' R' T' (cc + am_nth aux 3) (cs + am_nth aux 4)) : am_W X pc ls st V R T cc cs := by
  obtain ⟨μ, hμ, hM⟩ := h
  have hok2 := hok
  unfold am_okc at hok2
  rw [hμ] at hok2
  obtain ⟨ow, y, by', nl, rt, bc, bs, cd⟩ := μ
  simp only [Bool.and_eq_true, am_wd, decide_eq_true_eq] at hok2
  obtain ⟨q1, q2, q3, q4, q5, q6, q7, q8, q9, q10, q11, q12⟩ := hok2
  have q1 := Nat.eq_of_beq_eq_true q1
  have q2 := Nat.eq_of_beq_eq_true q2
  have q11 : am_nth aux 10 < 6 := Nat.le_of_ble_eq_true q11
  obtain ⟨na, hna⟩ : ∃ na, am_nth aux 1 = na + 1 := by
    cases hp : parseMethodDescriptor y.desc with
    | none => rw [hp] at q12; cases q12
    | some sg => rw [hp] at q12; exact ⟨_, (Option.some.inj q12).symm⟩
  have hnp : (parseMethodDescriptor y.desc).map (fun q => q.parameters.length) = some na := by
    cases hp : parseMethodDescriptor y.desc with
    | none => rw [hp] at q12; cases q12
    | some sg =>
      rw [hp, hna] at q12
      have := Option.some.inj q12
      exact congrArg some (Nat.succ.inj this)
  have hcb := am_callB cx hμ rfl hok hfr hlo hnp
  rw [hna] at hrec hcat hM hk
  rw [← q1, ← q2] at hB hk
  rw [Nat.add_sub_cancel] at hrec
  obtain ⟨o, rest, hdrop, hlay⟩ : ∃ o rest, st.drop na = .inr (.inr (some (.inl o))) :: rest ∧ (am_lay o).1 = 10 + am_nth aux 10 := by
    match hq : st.drop na, hrec with
    | .inr (.inr (some (.inl a))) :: l, hr => exact ⟨a, l, rfl, Nat.eq_of_beq_eq_true hr⟩
  have hlt : na < st.length := by
    rcases Nat.lt_or_ge na st.length with q | q
    · exact q
    · rw [List.drop_eq_nil_of_le q] at hdrop
      cases hdrop
  have hrest : st.drop (na + 1) = rest := by
    rw [← List.drop_drop, hdrop]
    rfl
  have htk : st.take (na + 1) = st.take na ++ [.inr (.inr (some (.inl o)))] := by
    have e1 : st = st.take na ++ (.inr (.inr (some (.inl o))) :: rest) := by rw [← hdrop, List.take_append_drop]
    have hl : (st.take na).length = na := by rw [List.length_take]; omega
    conv => lhs; rw [e1]
    rw [List.take_append, hl, show na + 1 - na = 1 by omega]
    congr 1
    · rw [List.take_of_length_le]
      omega
  have hsplit : st = (st.take na) ++ (.inr (.inr (some (.inl o))) :: rest) := by rw [← hdrop, List.take_append_drop]
  rw [hrest] at hk hcat
  rw [htk, List.reverse_append, List.reverse_singleton] at hM
  obtain ⟨p, e, Rm, s, m, args, below, meth, c, QQ, G, own, bytes, nL, Bc, Bs, V0, T0⟩ := X
  obtain ⟨hx, hb, hml, hown, hts, hK, hRc, hRs⟩ := cx
  intro la H locs hf
  have hoT : o < T := hf.ok (.inr (.inr (some (.inl o)))) (by rw [hsplit]; exact List.mem_append_right _ List.mem_cons_self)
  obtain ⟨⟨kd, n, w, z⟩, hl⟩ : ∃ q, am_lay o = q := ⟨_, rfl⟩
  rw [hl] at hlay
  have hlay : kd = 10 + am_nth aux 10 := hlay
  subst hlay
  obtain ⟨-, hn, h3⟩ := am_obj hl
  have hat := am_ws_at (G := G) (V := V) (R := R) (T := T) h3 hoT
  rw [am_eO hl] at hat
  have hrv := va_recv hK.1 hf.oP (am_cls_at _ q11) hat
  refine am_back (st := rest) hf (fun v hv => by rw [hsplit]; exact List.mem_append_right _ (List.mem_cons_of_mem _ hv)) ⟨by rw [← hRc]; exact hB.1, by rw [← hRs]; exact hB.2⟩ (va_runV (As := ((st.take na).reverse).map (am_cv G)) (b := am_ad G o) (n := na) (nL := nL) ⟨hx, hb, hml, hown, am_hts hts⟩ hM ⟨hcb, hts _ (List.mem_of_getElem? q8) rfl, hts _ (List.mem_of_getElem? q9) rfl⟩ ⟨am_blind, by rw [← q10]; exact hrv, am_pre hf hK (fun v hv => ?_)⟩ rfl (by rw [List.length_map, List.length_reverse, List.length_take]; omega) hf.oL.2.1.1 ?_ (lv_room (by rw [am_cats_sum]; exact hcat)) hd hB) hk
  · rcases List.mem_cons.mp hv with h | h
    · subst h
      rw [hsplit]
      exact List.mem_append_right _ List.mem_cons_self
    · exact List.mem_of_mem_take (List.mem_reverse.mp h)
  · show st.map (am_cv G) = _
    conv => lhs; rw [hsplit]
    rw [List.map_append, ← List.map_reverse, List.reverse_reverse]
    rfl
