/-! System.arraycopy, Object's constructor -/
theorem am_src {G : am_G} {T : Nat} {r : am_Ref} {m : Int} {k : Nat → Int → Prop} (V : am_V) (R : am_T) (ho : am_okv T (.inr (.inr r))) (h : am_seg r m k) : ∃ (a : Nat) (off : Int) (b n : Nat) (f : Nat → Int64), k a off ∧ 3 ≤ b ∧ b < T ∧ am_cv G (.inr (.inr r)) = .ref (am_ad G b) ∧ m ≤ (n : Int) ∧ n < 2 ^ 31 ∧ am_e G V R b = .inl (am_G.cy G 1, n, .inr (.inl f)) ∧ ∀ j : Nat, j < n → f j = Int64.ofInt (V a (off + j)) := by
  match r, ho, h with
  | none, _, h => exact False.elim h
  | some (.inl a), ho, h =>
    simp only [am_seg] at h
    obtain ⟨⟨kd, n, w, x⟩, hl⟩ : ∃ q, am_lay a = q := ⟨_, rfl⟩
    rw [hl] at h
    obtain ⟨hkd, h1, h2⟩ := am_if_of h
    have hkd := Nat.eq_of_beq_eq_true hkd
    subst hkd
    have hn : n < 2 ^ 31 := by have := am_len31 a; rw [hl] at this; exact this
    have h3 : 3 ≤ a := by
      match a, hl with
      | 0, h => cases h
      | 1, h => cases h
      | 2, h => cases h
      | a + 3, _ => omega
    exact ⟨a, 0, a, n, _, h2, h3, ho, rfl, h1, hn, am_e1 hl, fun j _ => by rw [Int.zero_add]⟩
  | some (.inr (a, q)), ho, h =>
    simp only [am_seg] at h
    obtain ⟨⟨kd, n, w, x⟩, hl⟩ : ∃ q, am_lay a = q := ⟨_, rfl⟩
    rw [hl] at h
    obtain ⟨hkd, h1, h2⟩ := am_if_of h
    have hkd := Nat.eq_of_beq_eq_true hkd
    subst hkd
    obtain ⟨c1, c2, c3, c4⟩ := am_rowcell (G := G) ho
    obtain ⟨r1, r2⟩ := am_row3 ho hl
    have hq : (q.toNat : Int) = q := Int.toNat_of_nonneg ho.2.2.2.1
    exact ⟨a, 64 * q, a + 1 + q.toNat, w, _, h2, c2, c3, by rw [← c1]; rfl, h1, by omega, am_e6 r1, fun j hj => by rw [if_pos hj, hq]⟩
theorem am_cpy_ne {V : am_V} {p q x : Nat} {sp dp n : Int} (h : x ≠ q) : am_cpy V p sp q dp n x = V x := by funext j; unfold am_cpy; rw [if_neg h]
theorem am_cpy_at {V : am_V} {p q : Nat} {sp dp n j : Int} : am_cpy V p sp q dp n q j = if dp ≤ j ∧ j < dp + n then V p (sp + (j - dp)) else V q j := by unfold am_cpy; rw [if_pos rfl]
theorem am_e_rowS {G : am_G} {V V' : am_V} {R : am_T} {a q w : Nat} (hw : w ≤ 64) (hlw : (am_lay a).2.2.1 = w) (hV : ∀ x, x ≠ a → V' x = V x) (hr : ∀ j : Int, ¬ (64 * (q : Int) ≤ j ∧ j < 64 * (q : Int) + w) → V' a j = V a j) {b : Nat} (hb : b ≠ a + 1 + q) (hk : (am_lay a).1 = 3 ∨ (am_lay a).1 = 4) : am_e G V' R b = am_e G V R b := by
  by_cases hba : b = a
  · subst hba
    unfold am_e
    split <;> rename_i h <;> rw [h] at hk <;> simp at hk <;> first | rfl | (rcases hk with hk | hk <;> simp_all)
  · have e1 : V' b = V b := hV b hba
    have key : ∀ k n o j, am_lay b = (k, n, o, j) → (k = 6 ∨ k = 7) → ∀ z : Nat, z < n → V' o (64 * (j : Int) + z) = V o (64 * (j : Int) + z) := by
      intro k n o j h hk z hz
      obtain ⟨h1', -, h3, -⟩ := am_row_of h hk
      by_cases ho : o = a
      · subst ho
        apply hr
        have : j ≠ q := fun e => hb (by rw [h1', e])
        have : n = w := by rw [← h3, hlw]
        omega
      · rw [hV o ho]
    have fe : ∀ c, am_fv G V' R c b = am_fv G V R c b := by
      intro c
      funext j
      unfold am_fv
      rw [e1]
    unfold am_e
    split <;> rename_i h
    · rw [e1]
    · rw [e1]
    · rw [e1]
    · rfl
    · rfl
    · rfl
    · have := key _ _ _ _ h (Or.inl rfl)
      congr 5
      funext z
      split
      · rw [this z (by assumption)]
      · rfl
    · have := key _ _ _ _ h (Or.inr rfl)
      congr 4
      funext z
      split
      · rw [this z (by assumption)]
      · rfl
    · rw [fe]
/-- what the copy leaves -/
theorem am_dst {G : am_G} {T : Nat} {r : am_Ref} {dp m : Int} {k : Nat → Int → Prop} (V : am_V) (R : am_T) (ho : am_okv T (.inr (.inr r))) (h : am_seg r (dp + m) k) (h0 : 0 ≤ dp) (hm : 0 ≤ m) : ∃ (a : Nat) (off : Int) (b n : Nat) (g : Nat → Int64), k a off ∧ 3 ≤ b ∧ b < T ∧ 3 ≤ a ∧ am_cv G (.inr (.inr r)) = .ref (am_ad G b) ∧ dp + m ≤ (n : Int) ∧ n < 2 ^ 31 ∧ am_e G V R b = .inl (am_G.cy G 1, n, .inr (.inl g)) ∧
    ∀ (p n0 : Nat) (sp o1 : Int) (f : Nat → Int64), 0 ≤ sp → sp + m ≤ (n0 : Int) → (∀ j : Nat, j < n0 → f j = Int64.ofInt (V p (o1 + j))) → am_e G (am_cpy V p (o1 + sp) a (off + dp) m) R b = .inl (am_G.cy G 1, n, .inr (.inl (va_cpy f g sp.toNat dp.toNat m.toNat))) ∧ ∀ y, y < T → y ≠ b → am_e G (am_cpy V p (o1 + sp) a (off + dp) m) R y = am_e G V R y := by
  match r, ho, h with
  | none, _, h => exact False.elim h
  | some (.inl a), ho, h =>
    simp only [am_seg] at h
    obtain ⟨⟨kd, n, w, x⟩, hl⟩ : ∃ q, am_lay a = q := ⟨_, rfl⟩
    rw [hl] at h
    obtain ⟨hkd, h1, h2⟩ := am_if_of h
    have hkd := Nat.eq_of_beq_eq_true hkd
    subst hkd
    have h1 : dp + m ≤ (n : Int) := h1
    have hn : n < 2 ^ 31 := by have := am_len31 a; rw [hl] at this; exact this
    have h3 : 3 ≤ a := by
      match a, hl with
      | 0, h => cases h
      | 1, h => cases h
      | 2, h => cases h
      | a + 3, _ => omega
    refine ⟨a, 0, a, n, _, h2, h3, ho, h3, rfl, h1, hn, am_e1 hl, fun p n0 sp o1 f hs hsn hf => ⟨?_, fun y _ hy => am_e_off (fun x hx => am_cpy_ne hx) (fun _ _ => rfl) (by rw [hl]; simp) hy⟩⟩
    rw [am_e1 hl]
    congr 5
    funext j
    rw [am_cpy_at]
    unfold va_cpy
    by_cases hj : dp ≤ (j : Int) ∧ (j : Int) < dp + m
    · rw [if_pos (by omega), if_pos (by omega), hf _ (by omega)]
      congr 2
      omega
    · rw [if_neg (by omega), if_neg (by omega)]
  | some (.inr (a, q)), ho, h =>
    simp only [am_seg] at h
    obtain ⟨⟨kd, n, w, x⟩, hl⟩ : ∃ q, am_lay a = q := ⟨_, rfl⟩
    rw [hl] at h
    obtain ⟨hkd, h1, h2⟩ := am_if_of h
    have hkd := Nat.eq_of_beq_eq_true hkd
    subst hkd
    have h1 : dp + m ≤ (w : Int) := h1
    obtain ⟨c1, c2, c3, c4⟩ := am_rowcell (G := G) ho
    obtain ⟨r1, r2⟩ := am_row3 ho hl
    have hq : (q.toNat : Int) = q := Int.toNat_of_nonneg ho.2.2.2.1
    refine ⟨a, 64 * q, a + 1 + q.toNat, w, _, h2, c2, c3, ho.1, by rw [← c1]; rfl, h1, by omega, am_e6 r1, fun p n0 sp o1 f hs hsn hf => ⟨?_, fun y _ hy => am_e_rowS r2 (by rw [hl]) (fun x hx => am_cpy_ne hx) (fun j hj => by rw [am_cpy_at, if_neg (by omega)]) hy (Or.inl (by rw [hl]))⟩⟩
    rw [am_e6 r1]
    congr 5
    funext j
    show _ = if dp.toNat ≤ j ∧ j < dp.toNat + m.toNat then f (sp.toNat + (j - dp.toNat)) else (if j < w then Int64.ofInt (V a (64 * (q.toNat : Int) + j)) else 0)
    by_cases hjw : j < w
    · rw [if_pos hjw, if_pos hjw, am_cpy_at]
      by_cases hj : dp ≤ (j : Int) ∧ (j : Int) < dp + m
      · rw [if_pos (by omega), if_pos (by omega), hf _ (by omega)]
        congr 2
        omega
      · rw [if_neg (by omega), if_neg (by omega)]
    · rw [if_neg hjw, if_neg hjw, if_neg (by omega)]
theorem am_cats_sum {G : am_G} : ∀ l : List AV, ((l.map (am_cv G)).map fun v => v.category).sum = am_cats l
  | [] => rfl
  | .inl _ :: l => by rw [List.map_cons, List.map_cons, List.sum_cons, am_cats_sum l]; rfl
  | .inr (.inl _) :: l => by rw [List.map_cons, List.map_cons, List.sum_cons, am_cats_sum l]; rfl
  | .inr (.inr none) :: l => by rw [List.map_cons, List.map_cons, List.sum_cons, am_cats_sum l]; rfl
  | .inr (.inr (some (.inl _))) :: l => by rw [List.map_cons, List.map_cons, List.sum_cons, am_cats_sum l]; rfl
  | .inr (.inr (some (.inr (_, _)))) :: l => by rw [List.map_cons, List.map_cons, List.sum_cons, am_cats_sum l]; rfl
theorem so_copy {X : am_X} (cx : am_cx X) {pc : Nat} {ls : am_L} {st : List AV} {V : am_V} {R : am_T} {T cc cs : Nat} {i w1 w2 w3 w4 : Nat} {ra rb : am_Ref} {sp dp m : Int} {k2 : Nat → Int → Nat → Int → Prop} (hd : decode (am_X.bytes X) pc = .ok (.invokestatic i, 3)) (h1 : lw_tbl[w1]? = some (.methodLink (am_X.own X) i arraycopyName)) (h2 : lw_tbl[w2]? = some (.native arraycopyName)) (h3 : lw_tbl[w3]? = some (.static arraycopyName)) (h4 : lw_tbl[w4]? = some (.initialized "java/lang/System")) (hfr : 1 ≤ (am_X.Rm X).frames) (hlo : 36 ≤ (am_X.Rm X).locals) (hc : am_cats st ≤ 8) (hs0 : 0 ≤ sp) (hd0 : 0 ≤ dp) (hm0 : 0 ≤ m)
    (h : am_seg ra (sp + m) (fun p o => am_seg rb (dp + m) (fun q o2 => k2 p o q o2))) (hk : ∀ p o q o2, k2 p o q o2 → am_W X (pc + 3) ls st (am_cpy V p (o + sp) q (o2 + dp) m) R T cc cs) : am_W X pc ls (.inl m :: .inl dp :: .inr (.inr rb) :: .inl sp :: .inr (.inr ra) :: st) V R T cc cs := by
  obtain ⟨p, e, Rm, s, me, args, below, meth, c, QQ, G, own, bytes, nL, Bc, Bs, V0, T0⟩ := X
  obtain ⟨hx, hb, hml, hown, hts, hK, hRc, hRs⟩ := cx
  intro la H locs hf
  have hoa := hf.pop.pop.pop.pop.ok _ List.mem_cons_self
  have hob := hf.pop.pop.ok _ List.mem_cons_self
  obtain ⟨a0, o1, b0, n0, f, hk0, hb03, hb0T, ecv0, hle0, hn0, he0, hfv⟩ := am_src (G := G) V R hoa h
  obtain ⟨a1, o2, b1, n1, g, hk1, hb13, hb1T, ha13, ecv1, hle1, hn1, he1, hup⟩ := am_dst (G := G) V R hob hk0 hd0 hm0
  obtain ⟨hu1, hu2⟩ := hup a0 n0 sp o1 f hs0 hle0 hfv
  have hat0 := am_ws_at (G := G) (V := V) (R := R) (T := T) hb03 hb0T
  have hat1 := am_ws_at (G := G) (V := V) (R := R) (T := T) hb13 hb1T
  rw [he0] at hat0
  rw [he1] at hat1
  have c0 := i32_clamp hs0 (by omega : sp ≤ 2147483647)
  have c1 := i32_clamp hd0 (by omega : dp ≤ 2147483647)
  have c2 := i32_clamp hm0 (by omega : m ≤ 2147483647)
  have nn0 := i32_nn hs0 (by omega : sp ≤ 2147483647)
  have nn1 := i32_nn hd0 (by omega : dp ≤ 2147483647)
  have nn2 := i32_nn hm0 (by omega : m ≤ 2147483647)
  have t0 := i32_toInt (⟨by omega, by omega⟩ : am_in32 sp)
  have t1 := i32_toInt (⟨by omega, by omega⟩ : am_in32 dp)
  have t2 := i32_toInt (⟨by omega, by omega⟩ : am_in32 m)
  have hstk : ((.inl m :: .inl dp :: .inr (.inr rb) :: .inl sp :: .inr (.inr ra) :: st : List AV).map (am_cv G)) = .int (Int32.ofInt m) :: .int (Int32.ofInt dp) :: .ref (am_ad G b1) :: .int (Int32.ofInt sp) :: .ref (am_ad G b0) :: st.map (am_cv G) := by
    simp only [List.map_cons, ecv0, ecv1]
    rfl
  rw [hstk]
  intro T' hT' Xs
  have hc0 : H[am_ad G b0]? = some (vp_cell (am_G.cy G 1) (n0, .inr (.inl f))) := hf.oP _ _ hat0
  have hc1 : H[am_ad G b1]? = some (vp_cell (am_G.cy G 1) (n1, .inr (.inl g))) := hf.oP _ _ hat1
  obtain ⟨-, k0, hk0', cm0, hkk0⟩ := (hK.1.2 1 _ rfl).1 n0 (fun j => .long (f j))
  obtain ⟨-, k1, hk1', cm1, hkk1⟩ := (hK.1.2 1 _ rfl).1 n1 (fun j => .long (g j))
  obtain ⟨vm', X', step⟩ := Xs.arraycopy hx hown (hts _ (List.mem_of_getElem? h1) rfl) (hts _ (List.mem_of_getElem? h2) rfl) (hts _ (List.mem_of_getElem? h3) rfl) (hts _ (List.mem_of_getElem? h4) rfl) (src := am_ad G b0) (dst := am_ad G b1) (cs := vp_cell (am_G.cy G 1) (n0, .inr (.inl f))) (cd := vp_cell (am_G.cy G 1) (n1, .inr (.inl g))) (srcPos := Int32.ofInt sp) (destPos := Int32.ofInt dp) (n := Int32.ofInt m) (by rw [hT']; exact hc0) (by rw [hT']; exact hc1)
    (fun _ h => by cases h) (fun _ h => by cases h) (fun h => by cases h) (fun h => by cases h) hk0' hk1' hkk0 hkk1 (by simp [refKind]) nn0 nn1 nn2
    (by rw [t0, t2]; show ¬ _ > ((arrV _ n0 (fun j => .long (f j))).slots.size : Int); rw [arrV_size]; omega)
    (by rw [t1, t2]; show ¬ _ > ((arrV _ n1 (fun j => .long (g j))).slots.size : Int); rw [arrV_size]; omega)
    (fun vm₁ _ i hi => by
      rw [c2] at hi
      have e : (vp_cell (am_G.cy G 1) (n0, .inr (.inl f))).slots.getD ((Int32.ofInt sp).toNatClampNeg + i) .null = .long (f ((Int32.ofInt sp).toNatClampNeg + i)) := by
        show (arrV _ n0 (fun j => .long (f j))).slots.getD _ _ = _
        rw [Array.getD_eq_getD_getElem?, arrV_read _ _ (by rw [c0]; omega)]
        rfl
      refine ⟨?_, ?_⟩
      · rw [e]
        rfl
      · rw [e]
        exact trivial)
    (g := F0 me pc la (.int (Int32.ofInt m) :: .int (Int32.ofInt dp) :: .ref (am_ad G b1) :: .int (Int32.ofInt sp) :: .ref (am_ad G b0) :: st.map (am_cv G))) rfl (by rw [hml]; exact hf.oL.2.1.1) (rest := st.map (am_cv G)) rfl (by rw [hb]; exact hd) hfr (by
      rw [am_cats_sum]
      have e9 : nativeFrameWords "java/lang/System" "arraycopy" 5 + 11 ≤ 28 := by decide +kernel
      have hlo : 36 ≤ Rm.locals := hlo
      show 2 * 0 + _ + _ ≤ Rm.locals
      omega)
  have e1 : copied (vp_cell (am_G.cy G 1) (n0, .inr (.inl f))) (vp_cell (am_G.cy G 1) (n1, .inr (.inl g))) (Int32.ofInt sp) (Int32.ofInt dp) (Int32.ofInt m) = vp_cell (am_G.cy G 1) (n1, .inr (.inl (va_cpy f g sp.toNat dp.toNat m.toNat))) := by
    have := va_copied (fun z => .long z) (am_G.cy G 1) (am_G.cy G 1) f g (n0 := n0) (n1 := n1) (sp := (Int32.ofInt sp).toNatClampNeg) (dp := (Int32.ofInt dp).toNatClampNeg) (n := (Int32.ofInt m).toNatClampNeg) (by rw [c0, c2]; omega)
    rw [c0, c1, c2] at this
    unfold copied
    rw [c0, c1, c2]
    exact this
  rw [e1] at X' step
  have hl : am_ad G b1 < H.size := (Array.getElem?_eq_some_iff.mp hc1).1
  generalize hnew : vp_cell (am_G.cy G 1) (n1, .inr (.inl (va_cpy f g sp.toNat dp.toNat m.toNat))) = nc at X' step
  have hheap : ((T'.setVm vm').setCell (am_ad G b1) nc).heap = H.setIfInBounds (am_ad G b1) nc := by rw [← hT']; rfl
  have oq : ∀ q : Nat, q ≠ am_ad G b1 → (H.setIfInBounds (am_ad G b1) nc)[q]? = H[q]? := fun q hq => by simp [Array.getElem?_setIfInBounds, Ne.symm hq]
  have hself : (H.setIfInBounds (am_ad G b1) nc)[am_ad G b1]? = some nc := by simp [Array.getElem?_setIfInBounds, hl]
  have hf5 := hf.pop.pop.pop.pop.pop
  have hP := hf5.oP.set (e := am_e G (am_cpy V a0 (o1 + sp) a1 (o2 + dp) m) R b1) am_D (am_ws_at (G := G) (V := V) (R := R) (T := T) hb13 hb1T) (H1 := H.setIfInBounds (am_ad G b1) nc) (by rw [hu1]; show _ = some (vp_cell _ _); rw [hnew]; exact hself) oq
  rw [am_ws_set hb13 hb1T rfl hu2] at hP
  have hA1 : am_G.b G ≤ am_ad G b1 := am_D.2 _ _ hat1
  obtain ⟨t, a2, b2⟩ := hk a0 o1 a1 o2 hk1 la (H.setIfInBounds (am_ad G b1) nc) _ (hf5.mem (by simp) hP ⟨by simp; exact hf5.oS.1, fun q g1 g2 => by
      rw [oq q (fun e => g2 (by rw [e]; exact hA1))]
      exact hf5.oS.2.1 q g1 g2, fun q hq => by
      rcases List.mem_append.mp hq with h | h
      · exact hf5.oS.2.2 q h
      · obtain ⟨z, -, hz⟩ := List.mem_map.mp h
        rw [← hz]
        exact hA1⟩ hf5.oR (fun x hx => am_cpy_ne (by omega))) _ hheap X'
  exact ⟨t, step t a2, b2⟩
theorem so_objInit {X : am_X} (cx : am_cx X) {pc : Nat} {ls : am_L} {st : List AV} {V : am_V} {R : am_T} {T cc cs : Nat} {i w1 w2 w3 a : Nat} (hd : decode (am_X.bytes X) pc = .ok (.invokespecial i, 3)) (h1 : lw_tbl[w1]? = some (.methodLink (am_X.own X) i Lib.objectInit)) (h2 : lw_tbl[w2]? = some (.instanceMethod Lib.objectInit)) (h3 : lw_tbl[w3]? = some (.code Lib.objectInit ⟨#[0xb1]⟩ 1 none)) (hfr : 1 ≤ (am_X.Rm X).frames) (hlo : 36 ≤ (am_X.Rm X).locals) (hc : am_cats st ≤ 8) (kk : am_W X (pc + 3) ls st V R T cc cs) : am_W X pc ls (.inr (.inr (some (.inl a))) :: st) V R T cc cs := by
  obtain ⟨p, e, Rm, s, me, args, below, meth, c, QQ, G, own, bytes, nL, Bc, Bs, V0, T0⟩ := X
  obtain ⟨hx, hb, hml, hown, hts, hK, hRc, hRs⟩ := cx
  intro la H locs hf
  refine W.objInit hx hb hown (hts _ (List.mem_of_getElem? h1) rfl) (hts _ (List.mem_of_getElem? h2) rfl) (hts _ (List.mem_of_getElem? h3) rfl) rfl (by rw [hml]; exact hf.oL.2.1.1) rfl hd hfr (by
    have := am_cats_sum (G := G) st
    have hlo : 36 ≤ Rm.locals := hlo
    show 2 * 0 + _ + _ ≤ Rm.locals
    omega) ?_
  exact kk la H locs hf.pop
