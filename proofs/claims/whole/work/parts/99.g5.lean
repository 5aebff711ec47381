/-! the law -/
set_option maxRecDepth 200000 in
set_option maxHeartbeats 4000000 in
theorem lw_tN {G : am_G} {V0 V : am_V} {sh : Int → Option Nat} {T cc cs : Nat} {p i : Int} {Q : Option AV → am_V → am_T → Nat → Prop} (hI : II V sh T p (V0 0)) (hL : V0 0 (-1) ≤ 3073) (hi : 1 ≤ i ∧ i ≤ V0 0 (-1) - 6) (hk : 29 ≤ V0 0 i % 32) (nx : am_Sem G 9 168 V0 3 Q 28 [some (vR 0), some (vR 3), some (vR 86), some (vI (i + 6))] [] V (am_RF sh) T cc cs) : am_Sem G 9 168 V0 3 Q 28 [some (vR 0), some (vR 3), some (vR 86), some (vI i)] [] V (am_RF sh) T cc cs := by
  have hV : V 0 = V0 0 := hI.1.1
  have eL : V 0 (-1) = V0 0 (-1) := by rw [hV]
  have hk' : 29 ≤ V 0 i % 32 := by rw [hV]; exact hk
  refine am_run 400 mt_L_law ok_L_law (fun K S hK hS => ?_)
  iterate 6 (all_goals (first
    | (refine And.intro (by omega) ?_)
    | (refine And.intro (fun hb => absurd hb (by omega)) (fun hb => ?_))
    | (refine And.intro (fun hb => ?_) (fun hb => absurd hb (by omega)))
    | (refine And.intro (fun hb => ?_) (fun hb => ?_))
    | (intro hb)
    | (conv => whnf)))
  refine am_sw_out ?_ ?_
  · exact hk'
  conv => whnf
  iterate 20 (all_goals (first
    | (refine And.intro (by omega) ?_)
    | (refine And.intro (fun hb => absurd hb (by omega)) (fun hb => ?_))
    | (refine And.intro (fun hb => ?_) (fun hb => absurd hb (by omega)))
    | (refine And.intro (fun hb => ?_) (fun hb => ?_))
    | (intro hb)
    | (conv => whnf)))
  exact hS nx
set_option maxRecDepth 200000 in
set_option maxHeartbeats 4000000 in
theorem lw_tE {G : am_G} {V0 V : am_V} {sh : Int → Option Nat} {T cc cs : Nat} {p i : Int} {Q : Option AV → am_V → am_T → Nat → Prop} (hI : II V sh T p (V0 0)) (hL : 0 ≤ V0 0 (-1) ∧ V0 0 (-1) ≤ 3073) (hi : V0 0 (-1) - 6 < i ∧ i ≤ 3079) (hQ : Q (some (vI 1)) V (am_RF sh) T) : am_Sem G 9 168 V0 3 Q 28 [some (vR 0), some (vR 3), some (vR 86), some (vI i)] [] V (am_RF sh) T cc cs := by
  have hV : V 0 = V0 0 := hI.1.1
  have eL : V 0 (-1) = V0 0 (-1) := by rw [hV]
  refine am_run 400 mt_L_law ok_L_law (fun K S hK hS => ?_)
  iterate 20 (all_goals (first
    | (refine And.intro (by omega) ?_)
    | (refine And.intro (fun hb => absurd hb (by omega)) (fun hb => ?_))
    | (refine And.intro (fun hb => ?_) (fun hb => absurd hb (by omega)))
    | (refine And.intro (fun hb => ?_) (fun hb => ?_))
    | (intro hb)
    | (conv => whnf)))
  exact hQ
theorem lw_loop {G : am_G} {V0 : am_V} {p : Int} {Q : Option AV → am_V → am_T → Nat → Prop} (h32 : ∀ j, am_in32 (V0 0 j)) (hL : 0 ≤ V0 0 (-1) ∧ V0 0 (-1) ≤ 3073) (hQ : ∀ V' R' T', Q (some (vI 1)) V' R' T') : ∀ (jj : Nat) (i : Int) (sh : Int → Option Nat) (V : am_V) (T cc cs : Nat), 1 ≤ i → i ≤ 3079 → 3080 - i < jj → II V sh T p (V0 0) → (cc : Int) ≤ 200 + 10 * i → (cs : Int) ≤ 5000 + 100 * i → am_Sem G 9 168 V0 3 Q 28 [some (vR 0), some (vR 3), some (vR 86), some (vI i)] [] V (am_RF sh) T cc cs := by
  intro jj
  induction jj with
  | zero => intro i sh V T cc cs a b c; omega
  | succ jj ih =>
    intro i sh V T cc cs a b c hI hc hs
    by_cases hi : i ≤ V0 0 (-1) - 6
    rotate_left
    · exact lw_tE hI hL (by omega) (hQ _ _ _)
    have nx : ∀ (sh2 : Int → Option Nat) (V2 : am_V) (T2 cc2 cs2 : Nat), II V2 sh2 T2 p (V0 0) → cc2 ≤ cc + 10 → cs2 ≤ cs + 100 → am_Sem G 9 168 V0 3 Q 28 [some (vR 0), some (vR 3), some (vR 86), some (vI (i + 6))] [] V2 (am_RF sh2) T2 cc2 cs2 := fun sh2 V2 T2 cc2 cs2 h z1 z2 => ih (i + 6) sh2 V2 T2 cc2 cs2 (by omega) (by omega) (by omega) h (by omega) (by omega)
    clear ih
    by_cases hN : 29 ≤ V0 0 i % 32
    · exact lw_tN hI hL.2 ⟨a, hi⟩ hN (nx sh V T cc cs hI (by omega) (by omega))
    obtain ⟨k, ek⟩ : ∃ k, k = V0 0 i % 32 := ⟨_, rfl⟩
    have k0 : 0 ≤ k ∧ k < 29 := by omega
    have hcc : cc ≤ 100000 := by omega
    have hcs : cs ≤ 1000000 := by omega
    have hk : k = 0 ∨ k = 1 ∨ k = 2 ∨ k = 3 ∨ k = 4 ∨ k = 5 ∨ k = 6 ∨ k = 7 ∨ k = 8 ∨ k = 9 ∨ k = 10 ∨ k = 11 ∨ k = 12 ∨ k = 13 ∨ k = 14 ∨ k = 15 ∨ k = 16 ∨ k = 17 ∨ k = 18 ∨ k = 19 ∨ k = 20 ∨ k = 21 ∨ k = 22 ∨ k = 23 ∨ k = 24 ∨ k = 25 ∨ k = 26 ∨ k = 27 ∨ k = 28 := by omega
    rcases hk with hk | hk | hk | hk | hk | hk | hk | hk | hk | hk | hk | hk | hk | hk | hk | hk | hk | hk | hk | hk | hk | hk | hk | hk | hk | hk | hk | hk | hk
    · exact lw_t0 hI h32 hL.2 ⟨a, hi⟩ (ek.symm.trans hk) hcc hcs nx
    · exact lw_t1 hI h32 hL.2 ⟨a, hi⟩ (ek.symm.trans hk) hcc hcs nx
    · exact lw_t2 hI h32 hL.2 ⟨a, hi⟩ (ek.symm.trans hk) hcc hcs nx
    · exact lw_t3 hI h32 hL.2 ⟨a, hi⟩ (ek.symm.trans hk) hcc hcs nx
    · exact lw_t4 hI h32 hL.2 ⟨a, hi⟩ (ek.symm.trans hk) hcc hcs nx
    · exact lw_t5 hI h32 hL.2 ⟨a, hi⟩ (ek.symm.trans hk) hcc hcs nx
    · exact lw_t6 hI h32 hL.2 ⟨a, hi⟩ (ek.symm.trans hk) hcc hcs nx
    · exact lw_t7 hI h32 hL.2 ⟨a, hi⟩ (ek.symm.trans hk) hcc hcs nx
    · exact lw_t8 hI h32 hL.2 ⟨a, hi⟩ (ek.symm.trans hk) hcc hcs nx
    · exact lw_t9 hI h32 hL.2 ⟨a, hi⟩ (ek.symm.trans hk) hcc hcs nx
    · exact lw_t10 hI h32 hL.2 ⟨a, hi⟩ (ek.symm.trans hk) hcc hcs nx
    · exact lw_t11 hI h32 hL.2 ⟨a, hi⟩ (ek.symm.trans hk) hcc hcs nx
    · exact lw_t12 hI h32 hL.2 ⟨a, hi⟩ (ek.symm.trans hk) hcc hcs nx
    · exact lw_t13 hI h32 hL.2 ⟨a, hi⟩ (ek.symm.trans hk) hcc hcs nx
    · exact lw_t14 hI h32 hL.2 ⟨a, hi⟩ (ek.symm.trans hk) hcc hcs nx
    · exact lw_t15 hI h32 hL.2 ⟨a, hi⟩ (ek.symm.trans hk) hcc hcs nx
    · exact lw_t16 hI h32 hL.2 ⟨a, hi⟩ (ek.symm.trans hk) hcc hcs nx
    · exact lw_t17 hI h32 hL.2 ⟨a, hi⟩ (ek.symm.trans hk) hcc hcs nx
    · exact lw_t18 hI h32 hL.2 ⟨a, hi⟩ (ek.symm.trans hk) hcc hcs nx
    · exact lw_t19 hI h32 hL.2 ⟨a, hi⟩ (ek.symm.trans hk) hcc hcs nx
    · exact lw_t20 hI h32 hL.2 ⟨a, hi⟩ (ek.symm.trans hk) hcc hcs nx
    · exact lw_t21 hI h32 hL.2 ⟨a, hi⟩ (ek.symm.trans hk) hcc hcs nx
    · exact lw_t22 hI h32 hL.2 ⟨a, hi⟩ (ek.symm.trans hk) hcc hcs nx
    · exact lw_t23 hI h32 hL.2 ⟨a, hi⟩ (ek.symm.trans hk) hcc hcs nx
    · exact lw_t24 hI h32 hL.2 ⟨a, hi⟩ (ek.symm.trans hk) hcc hcs nx
    · exact lw_t25 hI h32 hL.2 ⟨a, hi⟩ (ek.symm.trans hk) hcc hcs nx
    · exact lw_t26 hI h32 hL.2 ⟨a, hi⟩ (ek.symm.trans hk) hcc hcs nx
    · exact lw_t27 hI h32 hL.2 ⟨a, hi⟩ (ek.symm.trans hk) hcc hcs nx
    · exact lw_t28 hI h32 hL.2 ⟨a, hi⟩ (ek.symm.trans hk) hcc hcs nx
theorem fi_0_eq0 {V V1 : am_V} {p : Int} (h : fi_0 (am_zero V 3) V1 p) : fi_0 V V1 p := ⟨fun a ha => by rw [h.1 a ha, am_zero_ne (by omega)], h.2⟩
set_option maxRecDepth 200000 in
set_option maxHeartbeats 4000000 in
theorem s_L_law {G : am_G} {V0 : am_V} (h32 : ∀ j, am_in32 (V0 0 j)) (hL : 0 ≤ V0 0 (-1) ∧ V0 0 (-1) ≤ 3073) (hk : ∀ j, 0 ≤ j → j ≤ 10 → V0 1 j = k_cat j ∧ V0 2 j = k_wt j) : am_Calls G 10 168 [vR 0] V0 r0 3 (fun r _ _ _ => r = some (vI 1)) := by
  obtain ⟨L, eL⟩ : ∃ L, L = V0 0 (-1) := ⟨_, rfl⟩
  obtain ⟨x, ex⟩ : ∃ x, x = if 0 < L then V0 0 0 else 0 := ⟨_, rfl⟩
  have hx : am_in32 x := by
    rw [ex]
    by_cases q : 0 < L
    · rw [if_pos q]; exact h32 0
    · rw [if_neg q]; omega
  obtain ⟨p, hp, hp2⟩ := pm_ex x
  have e1 : am_zero V0 3 0 = V0 0 := am_zero_ne (by decide)
  refine am_enter (d := 9) mt_L_law ok_L_law rfl ?_
  refine am_run 400 mt_L_law ok_L_law (fun K S hK hS => ?_)
  iterate 30 (all_goals (first
    | (refine And.intro (by omega) ?_)
    | (refine And.intro (⟨by decide, by decide⟩) ?_)
    | (refine And.intro (fun hb => absurd hb (by omega)) (fun hb => ?_))
    | (refine And.intro (fun hb => ?_) (fun hb => absurd hb (by omega)))
    | (refine And.intro (fun hb => ?_) (fun hb => ?_))
    | (intro hb)
    | (conv => whnf)))
  refine hK (s_L_cell (n := L) (by rw [e1]; exact eL.symm) (by omega) ?_)
  rw [e1, ← ex]
  iterate 30 (all_goals (first
    | (refine And.intro (by omega) ?_)
    | (refine And.intro (⟨by decide, by decide⟩) ?_)
    | (refine And.intro (fun hb => absurd hb (by omega)) (fun hb => ?_))
    | (refine And.intro (fun hb => ?_) (fun hb => absurd hb (by omega)))
    | (refine And.intro (fun hb => ?_) (fun hb => ?_))
    | (intro hb)
    | (conv => whnf)))
  refine hK (s_F_init (d := 6) hx hp (fun V1 f1 f2 f3 => ?_))
  have e2 : am_zero V1 86 0 = V0 0 := by rw [am_zero_ne (by decide), f1.1 0 (by decide)]; exact e1
  iterate 30 (all_goals (first
    | (refine And.intro (by omega) ?_)
    | (refine And.intro (⟨by decide, by decide⟩) ?_)
    | (refine And.intro (fun hb => absurd hb (by omega)) (fun hb => ?_))
    | (refine And.intro (fun hb => ?_) (fun hb => absurd hb (by omega)))
    | (refine And.intro (fun hb => ?_) (fun hb => ?_))
    | (intro hb)
    | (conv => whnf)))
  refine hK (s_L_cell (n := L) (by rw [e2]; exact eL.symm) (by omega) ?_)
  rw [e2, ← ex]
  iterate 30 (all_goals (first
    | (refine And.intro (by omega) ?_)
    | (refine And.intro (⟨by decide, by decide⟩) ?_)
    | (refine And.intro (fun hb => absurd hb (by omega)) (fun hb => ?_))
    | (refine And.intro (fun hb => ?_) (fun hb => absurd hb (by omega)))
    | (refine And.intro (fun hb => ?_) (fun hb => ?_))
    | (intro hb)
    | (conv => whnf)))
  refine hK (s_M_init (d := 6) hx hp (fun V2 m1 m2 => ?_))
  have hI : II V2 (fun _ => none) 107 p (V0 0) := II_start (V := V0) hp2 (fi_0_eq0 f1) f2 f3 m1 m2 hk
  have nx := fun cc cs (q1 : (cc : Nat) ≤ 200) (q2 : (cs : Nat) ≤ 5000) => r2_Sem (lw_loop (G := G) (V0 := V0) (p := p) (Q := fun r _ _ _ => r = some (vI 1)) h32 hL (fun _ _ _ => rfl) 3080 1 (fun _ => none) V2 107 cc cs (by omega) (by omega) (by omega) hI (by omega) (by omega))
  iterate 30 (all_goals (first
    | (refine And.intro (by omega) ?_)
    | (refine And.intro (⟨by decide, by decide⟩) ?_)
    | (refine And.intro (fun hb => absurd hb (by omega)) (fun hb => ?_))
    | (refine And.intro (fun hb => ?_) (fun hb => absurd hb (by omega)))
    | (refine And.intro (fun hb => ?_) (fun hb => ?_))
    | (intro hb)
    | (conv => whnf)))
  exact hS (nx _ _ (by decide) (by decide))
