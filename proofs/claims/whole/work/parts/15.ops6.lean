/-! new cells -/
theorem am_e_new {G : am_G} {V V' : am_V} {R R' : am_T} {T b : Nat} (hV : ∀ x, x ≠ T → V' x = V x) (hR : ∀ x, x ≠ T → R' x = R x) (hb : b < T) : am_e G V' R' b = am_e G V R b := by
  have e1 := hV b (by omega)
  have e2 := hR b (by omega)
  have key : ∀ k n o i, am_lay b = (k, n, o, i) → (k = 6 ∨ k = 7) → V' o = V o := by
    intro k n o i h hk
    apply hV
    have h1 := (am_row_of h hk).1
    omega
  have fe : ∀ c, am_fv G V' R' c b = am_fv G V R c b := by
    intro c
    funext j
    unfold am_fv
    rw [e1, e2]
  unfold am_e
  split <;> rename_i h
  · rw [e1]
  · rw [e1]
  · rw [e1]
  · rfl
  · rfl
  · rw [e2]
  · rw [key _ _ _ _ h (Or.inl rfl)]
  · rw [key _ _ _ _ h (Or.inr rfl)]
  · rw [fe]
theorem am_gr {G : am_G} {s : State} {V0 : am_V} {T0 nL Bc Bs : Nat} {ls : am_L} {st : List AV} {V V' : am_V} {R R' : am_T} {T cc cs cc' cs' : Nat} {la : Array Slot} {H H1 : Heap} {locs : List Loc} (hf : am_fr G s V0 T0 nL Bc Bs ls st V R T cc cs la H locs) (n : Nat) (z : H1.size = H.size + n) (o1 : ∀ q, q < H.size → H1[q]? = H[q]?) (e : ∀ j, j < n → va_at (am_G.D G) am_cls (am_ad G (T + j), am_e G V' R' (T + j)) H1) (ho : ∀ b, b < T → am_e G V' R' b = am_e G V R b) (hV : ∀ x, x < 3 → V' x = V x) (hR : am_okR R' (T + n)) (hB : cc' ≤ Bc ∧ cs' ≤ Bs) : am_fr G s V0 T0 nL Bc Bs ls st V' R' (T + n) cc' cs' la H1 locs := by
  have h3 := hf.T3
  have hsz := hf.sz
  refine ⟨by rw [z, hsz]; omega, hf.2.1, Nat.le_trans hf.2.2.1 (Nat.le_add_right _ _), fun k q hk => ?_, ⟨Nat.le_trans hf.oS.1 (by omega), fun q h1 h2 => ?_, hf.oS.2.2⟩, hR, fun x hx => (hV x hx).trans (hf.oV x hx), hf.oL.mono (Nat.le_add_right _ _), fun v hv => (hf.ok v hv).mono (Nat.le_add_right _ _), hB⟩
  · obtain ⟨hl, rfl⟩ := am_ws_of hk
    by_cases hlt : k < T - 3
    · have hat := am_ws_at (G := G) (V := V) (R := R) (T := T) (a := k + 3) (by omega) (by omega)
      rw [show k + 3 - 3 = k by omega] at hat
      have h1 := hf.oP _ _ hat
      rw [am_ad_ge (by omega), show k + 3 - 3 = k by omega, ← ho (k + 3) (by omega)] at h1
      refine h1.kept (o1 _ ?_)
      show am_G.b G + k < H.size
      omega
    · have h1 := e (k + 3 - T) (by omega)
      rw [show T + (k + 3 - T) = k + 3 by omega, am_ad_ge (by omega), show k + 3 - 3 = k by omega] at h1
      exact h1
  · rw [o1 q (Nat.lt_of_lt_of_le h1 hf.oS.1)]
    exact hf.oS.2.1 q h1 h2
theorem am_okR_new {R R' : am_T} {T : Nat} (h : am_okR R T) (hR : ∀ x, x ≠ T → R' x = R x) (hT : ∀ k, R' T k = none) (hk : (am_lay T).1 ≠ 3 ∧ (am_lay T).1 ≠ 4) : am_okR R' (T + 1) := by
  refine ⟨fun a k b ha hb => ?_, fun a ha hk' => ?_⟩
  · by_cases e : a = T
    · subst e
      rw [hT] at hb
      cases hb
    · rw [hR a e] at hb
      have := h.1 a k b (by omega) hb
      omega
  · by_cases e : a = T
    · subst e
      exact absurd hk' (by rintro (q | q); exact hk.1 q; exact hk.2 q)
    · have := h.2 a (by omega) hk'
      omega
theorem am_fv_zero {G : am_G} {V : am_V} {R : am_T} {c T j : Nat} (hj : am_fk c j ≠ 9) : am_fv G (am_zero V T) (am_zeroR R T) c T j = defaultValue (am_ty c j) := by
  unfold am_fv am_fk at *
  cases h : am_ty c j <;> rw [h] at hj <;> simp [am_zero_at, am_zeroR_at, defaultValue, va_rf] at hj ⊢ <;> rfl
theorem am_fk9 : (List.range 6).all (fun c => (List.range (am_NN c)).all (fun j => decide (am_fk c j ≠ 9))) = true := by decide +kernel
theorem so_new {X : am_X} (cx : am_cx X) {pc : Nat} {ls : am_L} {st : List AV} {V : am_V} {R : am_T} {T cc cs : Nat} {i c n w y w1 w2 w3 : Nat} (hd : decode (am_X.bytes X) pc = .ok (.new i, 3)) (hl : am_lay T = (10 + c, n, w, y)) (h1 : lw_tbl[w1]? = some (.classLink (am_X.own X) i (am_RR c))) (h2 : lw_tbl[w2]? = some (.instantiable (am_RR c) (am_NN c))) (h3 : lw_tbl[w3]? = some (.initialized (am_RR c))) (hB : cc + 1 ≤ (am_X.Rm X).cells ∧ cs + n ≤ (am_X.Rm X).slots) (kk : am_W X (pc + 3) ls (.inr (.inr (some (.inl T))) :: st) (am_zero V T) (am_zeroR R T) (T + 1) (cc + 1) (cs + n)) : am_W X pc ls st V R T cc cs := by
  obtain ⟨p, e, Rm, s, m, args, below, meth, cd, QQ, G, own, bytes, nL, Bc, Bs, V0, T0⟩ := X
  obtain ⟨hx, hb, hml, hown, hts, hK, hRc, hRs⟩ := cx
  intro la H locs hf
  obtain ⟨hc, hn, hT3⟩ := am_obj hl
  subst hn
  have hcl := am_cls_at c hc
  have hKn := hK.1.1 c _ hcl
  have hR9 : ∀ j, j < am_NN c → am_fk c j ≠ 9 := fun j hj => by
    have := List.all_eq_true.mp (List.all_eq_true.mp am_fk9 c (List.mem_range.mpr hc)) j (List.mem_range.mpr hj)
    simpa using this
  have hHs : H.size = am_ad G T := by rw [am_ad_ge hT3]; exact hf.sz
  refine W.newcK hx hb hown (hts _ (List.mem_of_getElem? h1) rfl) (hts _ (List.mem_of_getElem? h2) rfl) (hts _ (List.mem_of_getElem? h3) rfl) rfl hd hB.1 hB.2 hKn.2.1 rfl fun H1 kC hkC e1 z1 o1 => ?_
  have hf2 : am_fr G s V0 T0 nL Bc Bs ls st (am_zero V T) (am_zeroR R T) (T + 1) (cc + 1) (cs + am_NN c) la H1 locs := by
    refine am_gr hf 1 z1 o1 (fun j hj => ?_) (fun b hb => am_e_new (fun x hx => am_zero_ne hx) (fun x hx => am_zeroR_ne hx) hb) (fun x hx => am_zero_ne (by omega)) (am_okR_new hf.oR (fun x hx => am_zeroR_ne hx) (fun k => am_zeroR_at) (by rw [hl]; constructor <;> (intro z; simp at z; omega))) ⟨by rw [← hRc]; exact hB.1, by rw [← hRs]; exact hB.2⟩
    have hj0 : j = 0 := by omega
    subst hj0
    rw [Nat.add_zero, am_eO hl, ← hHs]
    refine ⟨_, hcl, (u_born (am_ty c) (am_hts hts) (am_inc c hc) hKn hkC e1 (am_tyok c hc)).to (fun j hj => ?_)⟩
    unfold vp_V
    rw [List.getD_eq_getElem?_getD, am_fld hj]
    exact (am_fv_zero (hR9 j hj)).symm
  have hst : (.ref H.size :: st.map (am_cv G)) = (.inr (.inr (some (.inl T))) :: st : List AV).map (am_cv G) := by rw [hHs]; rfl
  have := kk la H1 locs (hf2.push (Nat.lt_succ_self T))
  rw [← hst] at this
  exact this
theorem so_newarray {X : am_X} (cx : am_cx X) {pc : Nat} {ls : am_L} {st : List AV} {V : am_V} {R : am_T} {T cc cs : Nat} {at_ : ArrayType} {kd n w y w1 : Nat} (hd : decode (am_X.bytes X) pc = .ok (.newarray at_, 2)) (hl : am_lay T = (kd, n, w, y)) (hk : (kd = 0 ∧ at_ = .int) ∨ (kd = 1 ∧ at_ = .long) ∨ (kd = 2 ∧ at_ = .boolean)) (h1 : lw_tbl[w1]? = some (.arrayClass (newarray.typeOf at_))) (hB : cc + 1 ≤ (am_X.Rm X).cells ∧ cs + n ≤ (am_X.Rm X).slots) (kk : am_W X (pc + 2) ls (.inr (.inr (some (.inl T))) :: st) (am_zero V T) (am_zeroR R T) (T + 1) (cc + 1) (cs + n)) : am_W X pc ls (.inl (n : Int) :: st) V R T cc cs := by
  obtain ⟨p, e, Rm, s, m, args, below, meth, cd, QQ, G, own, bytes, nL, Bc, Bs, V0, T0⟩ := X
  obtain ⟨hx, hb, hml, hown, hts, hK, hRc, hRs⟩ := cx
  intro la H locs hf
  have hn : n < 3000 := by have := (am_lay_len T).1; rw [hl] at this; exact this
  have hT3 := hf.T3
  have hHs : H.size = am_ad G T := by rw [am_ad_ge hT3]; exact hf.sz
  have hby : n * componentBytes (newarray.typeOf at_) ≤ 536870912 := by
    have : componentBytes (newarray.typeOf at_) ≤ 8 := by cases at_ <;> decide
    have := Nat.mul_le_mul (Nat.le_of_lt hn) this
    omega
  refine va_newaK (N := n) hx hb (hts _ (List.mem_of_getElem? h1) rfl) rfl hd rfl (i32_nn (by omega) (by omega)) (by rw [i32_clamp (by omega) (by omega)]; omega) hby hB.1 hB.2 rfl fun H1 cA e1 z1 o1 hAr hNm => ?_
  have hf2 : am_fr G s V0 T0 nL Bc Bs ls st (am_zero V T) (am_zeroR R T) (T + 1) (cc + 1) (cs + n) la H1 locs := by
    refine am_gr hf.pop 1 z1 o1 (fun j hj => ?_) (fun b hb => am_e_new (fun x hx => am_zero_ne hx) (fun x hx => am_zeroR_ne hx) hb) (fun x hx => am_zero_ne (by omega)) (am_okR_new hf.oR (fun x hx => am_zeroR_ne hx) (fun k => am_zeroR_at) (by rw [hl]; rcases hk with ⟨rfl, -⟩ | ⟨rfl, -⟩ | ⟨rfl, -⟩ <;> simp)) ⟨by rw [← hRc]; exact hB.1, by rw [← hRs]; exact hB.2⟩
    have hj0 : j = 0 := by omega
    subst hj0
    rw [Nat.add_zero, ← hHs]
    rcases hk with ⟨rfl, rfl⟩ | ⟨rfl, rfl⟩ | ⟨rfl, rfl⟩
    · have ec : cA = am_G.cy G 0 := Option.some.inj (hNm.symm.trans (hK.1.2 0 _ rfl).2)
      subst ec
      rw [am_e0 hl]
      show H1[H.size]? = some (vp_cell _ _)
      rw [e1, vp_cell_i]
      congr 2
      funext j
      rw [am_zero_at]
      rfl
    · have ec : cA = am_G.cy G 1 := Option.some.inj (hNm.symm.trans (hK.1.2 1 _ rfl).2)
      subst ec
      rw [am_e1 hl]
      show H1[H.size]? = some (vp_cell _ _)
      rw [e1, vp_cell_l]
      congr 2
      funext j
      rw [am_zero_at]
      rfl
    · have ec : cA = am_G.cy G 2 := Option.some.inj (hNm.symm.trans (hK.1.2 2 _ rfl).2)
      subst ec
      rw [am_e2 hl]
      show H1[H.size]? = some (vp_cell _ _)
      rw [e1, vp_cell_i]
      congr 2
      funext j
      rw [am_zero_at]
      rfl
  have hst : (.ref H.size :: st.map (am_cv G)) = (.inr (.inr (some (.inl T))) :: st : List AV).map (am_cv G) := by rw [hHs]; rfl
  have := kk la H1 locs (hf2.push (Nat.lt_succ_self T))
  rw [← hst] at this
  exact this
theorem so_anewarray {X : am_X} (cx : am_cx X) {pc : Nat} {ls : am_L} {st : List AV} {V : am_V} {R : am_T} {T cc cs : Nat} {i n w y w1 : Nat} (hd : decode (am_X.bytes X) pc = .ok (.anewarray i, 3)) (hl : am_lay T = (5, n, w, y)) (h1 : lw_tbl[w1]? = some (.classLink (am_X.own X) i RX3)) (hB : cc + 1 ≤ (am_X.Rm X).cells ∧ cs + n ≤ (am_X.Rm X).slots) (kk : am_W X (pc + 3) ls (.inr (.inr (some (.inl T))) :: st) V (am_zeroR R T) (T + 1) (cc + 1) (cs + n)) : am_W X pc ls (.inl (n : Int) :: st) V R T cc cs := by
  obtain ⟨p, e, Rm, s, m, args, below, meth, cd, QQ, G, own, bytes, nL, Bc, Bs, V0, T0⟩ := X
  obtain ⟨hx, hb, hml, hown, hts, hK, hRc, hRs⟩ := cx
  intro la H locs hf
  have hn : n < 3000 := by have := (am_lay_len T).1; rw [hl] at this; exact this
  have hT3 := hf.T3
  have hHs : H.size = am_ad G T := by rw [am_ad_ge hT3]; exact hf.sz
  have hcn : (Int32.ofInt (n : Int)).toNatClampNeg = n := by rw [i32_clamp (by omega) (by omega)]; omega
  refine W.anew hx hb hown (hts _ (List.mem_of_getElem? h1) rfl) (va_AO.use hK.2.1) rfl hd rfl (i32_nn (by omega) (by omega)) (by rw [hcn]; omega) hB.1 (by rw [hcn]; exact hB.2) fun cA kA comp f1 f2 f3 f4 => ?_
  rw [hcn]
  generalize hH1 : H.push ({ cls := cA, slots := Array.replicate n .null, vm := .none } : Cell) = H1
  have z1 : H1.size = H.size + 1 := by rw [← hH1, Array.size_push]
  have e1 : H1[H.size]? = some (arrV cA n (fun _ => .null)) := by rw [← hH1, Array.getElem?_push_size, ← arrV_new]
  have o1 : ∀ q : Nat, q < H.size → H1[q]? = H[q]? := fun q hq => by rw [← hH1, Array.getElem?_push, if_neg (Nat.ne_of_lt hq)]
  have hf2 : am_fr G s V0 T0 nL Bc Bs ls st V (am_zeroR R T) (T + 1) (cc + 1) (cs + n) la H1 locs := by
    refine am_gr hf.pop 1 z1 o1 (fun j hj => ?_) (fun b hb => am_e_new (fun x hx => rfl) (fun x hx => am_zeroR_ne hx) hb) (fun x hx => rfl) (am_okR_new hf.oR (fun x hx => am_zeroR_ne hx) (fun k => am_zeroR_at) (by rw [hl]; simp)) ⟨by rw [← hRc]; exact hB.1, by rw [← hRs]; exact hB.2⟩
    have hj0 : j = 0 := by omega
    subst hj0
    rw [Nat.add_zero, ← hHs]
    have ec : cA = am_G.cy G 5 := by
      obtain ⟨_, _, -, -, -, h4⟩ := (hK.1.2 5 _ rfl).2
      exact Option.some.inj (f1.symm.trans h4)
    subst ec
    rw [am_e5 hl]
    show H1[H.size]? = some (vp_cell _ _)
    rw [e1, vp_cell_q]
    congr 2
    funext j
    rw [am_zeroR_at]
    rfl
  have hst : (.ref H.size :: st.map (am_cv G)) = (.inr (.inr (some (.inl T))) :: st : List AV).map (am_cv G) := by rw [hHs]; rfl
  have := kk la H1 locs (hf2.push (Nat.lt_succ_self T))
  rw [← hst] at this
  exact this
