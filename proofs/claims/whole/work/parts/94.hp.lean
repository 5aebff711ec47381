/-! handles, both sides -/
theorem pr_handles {G : am_G} {d : Nat} {sh : Int → Option Nat} {V : am_V} {T : Nat} {p : Int} {f0 : Int → Int} {k : Int} (hI : II V sh T p f0) (h0 : am_in32 k) : am_Calls G (d + 9) 18 [vR 3, vI k] V (am_RF sh) T (pr_int G (d + 9) 117 [vR 86, vI k] p f0) := by
  have hJ := hI.1
  by_cases hk : 0 ≤ k ∧ k < 10
  · rcases hJ.2.2.2.1.2 k hk.1 hk.2 with ⟨e1, e2⟩ | ⟨a, n, e1, e2⟩
    · refine am_enter mt_F_handles ok_F_handles rfl ?_
      refine am_run 400 mt_F_handles ok_F_handles (fun K S hK hS => ?_)
      iterate 30 (all_goals (first
        | (refine And.intro (by omega) ?_)
        | (refine And.intro (fun hb => absurd hb (by omega)) (fun hb => ?_))
        | (refine And.intro (fun hb => ?_) (fun hb => absurd hb (by omega)))
        | (refine And.intro (fun hb => ?_) (fun hb => ?_))
        | (intro hb)
        | (conv => whnf)))
      refine hK (s_F_noPlace h0 (fun r hr => ?_))
      iterate 40 (all_goals (first
        | (refine am_aN e1 ?_)
        | (refine And.intro (by omega) ?_)
        | (refine am_nN ?_)
        | (refine am_nS ?_)
        | (refine am_mN ?_)
        | (refine am_mS ?_)
        | (refine And.intro (fun hb => absurd hb (by omega)) (fun hb => ?_))
        | (refine And.intro (fun hb => ?_) (fun hb => absurd hb (by omega)))
        | (refine And.intro (fun hb => ?_) (fun hb => ?_))
        | (intro hb)
        | (conv => whnf)))
      refine hK (s_F_finding ?_)
      iterate 30 (all_goals (first
        | (refine And.intro (by omega) ?_)
        | (refine And.intro (fun hb => absurd hb (by omega)) (fun hb => ?_))
        | (refine And.intro (fun hb => ?_) (fun hb => absurd hb (by omega)))
        | (refine And.intro (fun hb => ?_) (fun hb => ?_))
        | (intro hb)
        | (conv => whnf)))
      refine pr_i (by omega) (by simp +decide [am_up_ne, am_up_at, reduceIte]; exact hJ.1) ?_
      have e90 : am_up (am_up V 3 17 1) 86 0 0 90 k = V 90 k := by simp +decide [am_up_ne, am_up_at, reduceIte]
      refine am_enter mt_M_handles ok_M_handles rfl ?_
      refine am_run 400 mt_M_handles ok_M_handles (fun K S hK hS => ?_)
      iterate 30 (all_goals (first
        | (refine And.intro (by omega) ?_)
        | (refine And.intro (fun hb => absurd hb (by omega)) (fun hb => ?_))
        | (refine And.intro (fun hb => ?_) (fun hb => absurd hb (by omega)))
        | (refine And.intro (fun hb => ?_) (fun hb => ?_))
        | (intro hb)
        | (conv => whnf)))
      refine hK (s_M_isPlace h0 (fun r2 hr2 => ?_))
      iterate 30 (all_goals (first
        | (refine And.intro (by omega) ?_)
        | (refine And.intro (by decide) ?_)
        | (refine And.intro (fun hb => absurd hb (by omega)) (fun hb => ?_))
        | (refine And.intro (fun hb => ?_) (fun hb => absurd hb (by omega)))
        | (refine And.intro (fun hb => ?_) (fun hb => ?_))
        | (intro hb)
        | (simp only [e90])
        | (conv => whnf)))
      refine hK (s_M_found ?_)
      iterate 30 (all_goals (first
        | (refine And.intro (by omega) ?_)
        | (refine And.intro (fun hb => absurd hb (by omega)) (fun hb => ?_))
        | (refine And.intro (fun hb => ?_) (fun hb => absurd hb (by omega)))
        | (refine And.intro (fun hb => ?_) (fun hb => ?_))
        | (intro hb)
        | (conv => whnf)))
      first | exact pr_k (II_find2 hI (by omega)) | exact pr_k2 (II_find2 hI (by omega))
    · obtain ⟨ha, h2, h3, h4, h5, h6⟩ := e2
      have hkd := m_kd_rng h3.2.2.2.2.2
      have hn2 := h3.2.1
      have ea := h3.1
      have ra : ∀ i, 0 ≤ i → i < n → 0 ≤ V (a + 1) i ∧ V (a + 1) i < 10 := fun i z0 z1 => by have := m_rgs_lt h3.2.2.1 z0 z1; omega
      have a_0 : 107 ≤ a := ha.1
      have a_l := th_lay ha
      have a_b := th_ble ha
      have a_q := th_beq ha
      have a_m := th_lay1 ha
      have a_c := th_ble1 ha
      have a_r := th_beq1 ha
      have a_R : am_RF sh a 2 = some (a + 1) := th_RF ha
      have a_z : Nat.beq (a + 1) 0 = false := rfl
      have a_3 : Nat.ble 3 (a + 1) = true := th_ble3 ha
      have a_i : ∀ r, am_isr 3 (vR a :: r) = true := th_isr ha
      rcases h3.2.2.2.2.1 with ⟨f1, f2⟩ | ⟨f1, f2⟩
      · obtain ⟨P, hP⟩ := m_P_ex f2
        refine am_enter mt_F_handles ok_F_handles rfl ?_
        refine am_run 400 mt_F_handles ok_F_handles (fun K S hK hS => ?_)
        iterate 30 (all_goals (first
          | (refine And.intro (by omega) ?_)
          | (refine And.intro (fun hb => absurd hb (by omega)) (fun hb => ?_))
          | (refine And.intro (fun hb => ?_) (fun hb => absurd hb (by omega)))
          | (refine And.intro (fun hb => ?_) (fun hb => ?_))
          | (intro hb)
          | (conv => whnf)))
        refine hK (s_F_noPlace h0 (fun r hr => ?_))
        iterate 40 (all_goals (first
          | (refine am_aS e1 ?_)
          | (refine And.intro (by omega) ?_)
          | (refine And.intro (by decide) ?_)
          | (refine am_nN ?_)
          | (refine am_nS ?_)
          | (refine am_mN ?_)
          | (refine am_mS ?_)
          | (refine And.intro (fun hb => absurd hb (by omega)) (fun hb => ?_))
          | (refine And.intro (fun hb => ?_) (fun hb => absurd hb (by omega)))
          | (refine And.intro (fun hb => ?_) (fun hb => ?_))
          | (intro hb)
          | (refine am_if_mk (a_i _) ?_)
          | (simp only [a_l, a_b, a_q, a_m, a_c, a_r, a_R, a_z, a_3, f1])
          | (conv => whnf)))
        refine hK (s_F_handlesOf ha hn2 ea ra hP (fun U r5 L u1 o r0 r1 => ?_))
        iterate 30 (all_goals (first
          | (refine And.intro (by omega) ?_)
          | (refine And.intro (fun hb => absurd hb (by omega)) (fun hb => ?_))
          | (refine And.intro (fun hb => ?_) (fun hb => absurd hb (by omega)))
          | (refine And.intro (fun hb => ?_) (fun hb => ?_))
          | (intro hb)
          | (conv => whnf)))
        refine hK (s_F_fine ?_)
        iterate 30 (all_goals (first
          | (refine And.intro (by omega) ?_)
          | (refine And.intro (fun hb => absurd hb (by omega)) (fun hb => ?_))
          | (refine And.intro (fun hb => ?_) (fun hb => absurd hb (by omega)))
          | (refine And.intro (fun hb => ?_) (fun hb => ?_))
          | (intro hb)
          | (conv => whnf)))
        have u0 : U 0 = V 0 := u1 0 (by decide)
        refine pr_i (by omega) (by simp +decide [am_up_ne, am_up_at, reduceIte]; rw [u0]; exact hJ.1) ?_
        have e90 : am_up (am_up U 3 17 0) 86 0 0 90 k = V 90 k := by rw [am_up_ne (by decide), am_up_ne (by decide), u1 90 (by decide)]
        have e91 : am_up (am_up U 3 17 0) 86 0 0 91 k = n := by rw [am_up_ne (by decide), am_up_ne (by decide), u1 91 (by decide)]; exact h5
        refine am_enter mt_M_handles ok_M_handles rfl ?_
        refine am_run 400 mt_M_handles ok_M_handles (fun K S hK hS => ?_)
        iterate 30 (all_goals (first
          | (refine And.intro (by omega) ?_)
          | (refine And.intro (fun hb => absurd hb (by omega)) (fun hb => ?_))
          | (refine And.intro (fun hb => ?_) (fun hb => absurd hb (by omega)))
          | (refine And.intro (fun hb => ?_) (fun hb => ?_))
          | (intro hb)
          | (conv => whnf)))
        refine hK (s_M_isPlace h0 (fun r2 hr2 => ?_))
        iterate 30 (all_goals (first
          | (refine And.intro (by omega) ?_)
          | (refine And.intro (by decide) ?_)
          | (refine And.intro (fun hb => absurd hb (by omega)) (fun hb => ?_))
          | (refine And.intro (fun hb => ?_) (fun hb => absurd hb (by omega)))
          | (refine And.intro (fun hb => ?_) (fun hb => ?_))
          | (intro hb)
          | (simp only [e90])
          | (conv => whnf)))
        refine hK (s_M_load (n := n) hk (by omega) e91 (by omega) (fun W w1 w2 w3 => ?_))
        have w2' : ∀ j, 0 ≤ j → j < n → V (a + 1) j = W 93 (0 + j) := fun j j0 j1 => by rw [w2 j j0 j1, am_up_ne (by decide), am_up_ne (by decide), u1 92 (by decide)]; exact (h6 j j0 j1).symm
        have g91 : W 91 k = n := by rw [w1 91 (by decide)]; exact e91
        have hr3 : ∀ i, 0 ≤ i → i < n → 0 ≤ W 93 (0 + i) ∧ W 93 (0 + i) < 10 := fun i z0 z1 => by rw [← w2' i z0 z1]; exact ra i z0 z1
        iterate 30 (all_goals (first
          | (refine And.intro (by omega) ?_)
          | (refine And.intro (by decide) ?_)
          | (refine And.intro (fun hb => absurd hb (by omega)) (fun hb => ?_))
          | (refine And.intro (fun hb => ?_) (fun hb => absurd hb (by omega)))
          | (refine And.intro (fun hb => ?_) (fun hb => ?_))
          | (intro hb)
          | (simp only [g91])
          | (conv => whnf)))
        refine hK (s_M_isOfPairs (by omega) (by omega) (by omega) (fun i z0 z1 => by have := hr3 i z0 (by omega); rw [Int.zero_add] at this; constructor <;> omega) (fun r6 hr6 => ?_))
        have er6 : r6 = 1 := by
          rcases hr6 with w | ⟨-, i, i0, i1, i2⟩
          · exact w.1
          · exfalso
            rw [m_cnt_cg] at i2
            exact i2 (m_prs_eq w2' f2 i i0 i1)
        clear hr6
        subst er6
        have g91' : am_up W 86 1 0 91 k = n := by rw [am_up_ne (by decide)]; exact g91
        iterate 30 (all_goals (first
          | (refine And.intro (by omega) ?_)
          | (refine And.intro (by decide) ?_)
          | (refine And.intro (fun hb => absurd hb (by omega)) (fun hb => ?_))
          | (refine And.intro (fun hb => ?_) (fun hb => absurd hb (by omega)))
          | (refine And.intro (fun hb => ?_) (fun hb => ?_))
          | (intro hb)
          | (simp only [g91'])
          | (conv => whnf)))
        have e93 : am_up W 86 1 0 93 = W 93 := am_up_ne (by decide)
        refine hK (s_M_handlesBy (P := P) (L := L) (r := r5) hn2 (by rw [e93]; exact hr3) (by rw [e93]; exact m_P_eq hP w2') (by rw [e93]; exact ob_out_eq w2' o) ⟨r0, r1⟩ (fun V' v1 => ?_))
        iterate 30 (all_goals (first
          | (refine And.intro (by omega) ?_)
          | (refine And.intro (fun hb => absurd hb (by omega)) (fun hb => ?_))
          | (refine And.intro (fun hb => ?_) (fun hb => absurd hb (by omega)))
          | (refine And.intro (fun hb => ?_) (fun hb => ?_))
          | (intro hb)
          | (conv => whnf)))
        first | exact pr_k (II_rd (II_find2 (c := 0) hI (by omega)) (fun a q => by rw [v1 a (by omega), am_up_ne q.2.1, w1 a (by omega), am_up_ne q.2.1, am_up_ne q.1, u1 a (by omega), am_up_ne q.2.1, am_up_ne q.2.1, am_up_ne q.1]) (fun j q => by rw [v1 3 (by decide), am_up_ne (by decide), w1 3 (by decide), am_up_ne (by decide), am_up_at, if_neg q, u1 3 (by decide), am_up_ne (by decide), am_up_ne (by decide), am_up_at, if_neg q]) (fun j q1 q2 => by rw [v1 86 (by decide), am_up_at, if_neg q2, w1 86 (by decide), am_up_at, if_neg q1, am_up_ne (by decide), u1 86 (by decide), am_up_at, if_neg q2, am_up_at, if_neg q1, am_up_ne (by decide)]) (by rw [v1 65 (by decide), am_up_ne (by decide), w1 65 (by decide), am_up_ne (by decide), am_up_ne (by decide), u1 65 (by decide), am_up_ne (by decide), am_up_ne (by decide), am_up_ne (by decide)]) (by rw [v1 76 (by decide), am_up_ne (by decide), w1 76 (by decide), am_up_ne (by decide), am_up_ne (by decide), u1 76 (by decide), am_up_ne (by decide), am_up_ne (by decide), am_up_ne (by decide)]) (by rw [v1 86 (by decide), am_up_same, v1 3 (by decide), am_up_ne (by decide), w1 3 (by decide), am_up_ne (by decide), am_up_same]; omega)) | exact pr_k2 (II_rd (II_find2 (c := 0) hI (by omega)) (fun a q => by rw [v1 a (by omega), am_up_ne q.2.1, w1 a (by omega), am_up_ne q.2.1, am_up_ne q.1, u1 a (by omega), am_up_ne q.2.1, am_up_ne q.2.1, am_up_ne q.1]) (fun j q => by rw [v1 3 (by decide), am_up_ne (by decide), w1 3 (by decide), am_up_ne (by decide), am_up_at, if_neg q, u1 3 (by decide), am_up_ne (by decide), am_up_ne (by decide), am_up_at, if_neg q]) (fun j q1 q2 => by rw [v1 86 (by decide), am_up_at, if_neg q2, w1 86 (by decide), am_up_at, if_neg q1, am_up_ne (by decide), u1 86 (by decide), am_up_at, if_neg q2, am_up_at, if_neg q1, am_up_ne (by decide)]) (by rw [v1 65 (by decide), am_up_ne (by decide), w1 65 (by decide), am_up_ne (by decide), am_up_ne (by decide), u1 65 (by decide), am_up_ne (by decide), am_up_ne (by decide), am_up_ne (by decide)]) (by rw [v1 76 (by decide), am_up_ne (by decide), w1 76 (by decide), am_up_ne (by decide), am_up_ne (by decide), u1 76 (by decide), am_up_ne (by decide), am_up_ne (by decide), am_up_ne (by decide)]) (by rw [v1 86 (by decide), am_up_same, v1 3 (by decide), am_up_ne (by decide), w1 3 (by decide), am_up_ne (by decide), am_up_same]; omega))
      · refine am_enter mt_F_handles ok_F_handles rfl ?_
        refine am_run 400 mt_F_handles ok_F_handles (fun K S hK hS => ?_)
        iterate 30 (all_goals (first
          | (refine And.intro (by omega) ?_)
          | (refine And.intro (fun hb => absurd hb (by omega)) (fun hb => ?_))
          | (refine And.intro (fun hb => ?_) (fun hb => absurd hb (by omega)))
          | (refine And.intro (fun hb => ?_) (fun hb => ?_))
          | (intro hb)
          | (conv => whnf)))
        refine hK (s_F_noPlace h0 (fun r hr => ?_))
        iterate 40 (all_goals (first
          | (refine am_aS e1 ?_)
          | (refine And.intro (by omega) ?_)
          | (refine And.intro (by decide) ?_)
          | (refine am_nN ?_)
          | (refine am_nS ?_)
          | (refine am_mN ?_)
          | (refine am_mS ?_)
          | (refine And.intro (fun hb => absurd hb (by omega)) (fun hb => ?_))
          | (refine And.intro (fun hb => ?_) (fun hb => absurd hb (by omega)))
          | (refine And.intro (fun hb => ?_) (fun hb => ?_))
          | (intro hb)
          | (refine am_if_mk (a_i _) ?_)
          | (simp only [a_l, a_b, a_q, a_m, a_c, a_r, a_R, a_z, a_3, f1])
          | (conv => whnf)))
        refine hK (s_F_finding ?_)
        iterate 30 (all_goals (first
          | (refine And.intro (by omega) ?_)
          | (refine And.intro (fun hb => absurd hb (by omega)) (fun hb => ?_))
          | (refine And.intro (fun hb => ?_) (fun hb => absurd hb (by omega)))
          | (refine And.intro (fun hb => ?_) (fun hb => ?_))
          | (intro hb)
          | (conv => whnf)))
        refine pr_i (by omega) (by simp +decide [am_up_ne, am_up_at, reduceIte]; exact hJ.1) ?_
        have e90 : am_up (am_up V 3 17 3) 86 0 0 90 k = V 90 k := by rw [am_up_ne (by decide), am_up_ne (by decide)]
        have e91 : am_up (am_up V 3 17 3) 86 0 0 91 k = n := by rw [am_up_ne (by decide), am_up_ne (by decide)]; exact h5
        refine am_enter mt_M_handles ok_M_handles rfl ?_
        refine am_run 400 mt_M_handles ok_M_handles (fun K S hK hS => ?_)
        iterate 30 (all_goals (first
          | (refine And.intro (by omega) ?_)
          | (refine And.intro (fun hb => absurd hb (by omega)) (fun hb => ?_))
          | (refine And.intro (fun hb => ?_) (fun hb => absurd hb (by omega)))
          | (refine And.intro (fun hb => ?_) (fun hb => ?_))
          | (intro hb)
          | (conv => whnf)))
        refine hK (s_M_isPlace h0 (fun r2 hr2 => ?_))
        iterate 30 (all_goals (first
          | (refine And.intro (by omega) ?_)
          | (refine And.intro (by decide) ?_)
          | (refine And.intro (fun hb => absurd hb (by omega)) (fun hb => ?_))
          | (refine And.intro (fun hb => ?_) (fun hb => absurd hb (by omega)))
          | (refine And.intro (fun hb => ?_) (fun hb => ?_))
          | (intro hb)
          | (simp only [e90])
          | (conv => whnf)))
        refine hK (s_M_load (n := n) hk (by omega) e91 (by omega) (fun W w1 w2 w3 => ?_))
        have w2' : ∀ j, 0 ≤ j → j < n → W 93 (0 + j) = V (a + 1) j := fun j j0 j1 => by rw [w2 j j0 j1, am_up_ne (by decide), am_up_ne (by decide)]; exact h6 j j0 j1
        have g91 : W 91 k = n := by rw [w1 91 (by decide)]; exact e91
        have hr3 : ∀ i, 0 ≤ i → i < n → 0 ≤ W 93 (0 + i) ∧ W 93 (0 + i) < 10 := fun i z0 z1 => by rw [w2' i z0 z1]; exact ra i z0 z1
        iterate 30 (all_goals (first
          | (refine And.intro (by omega) ?_)
          | (refine And.intro (by decide) ?_)
          | (refine And.intro (fun hb => absurd hb (by omega)) (fun hb => ?_))
          | (refine And.intro (fun hb => ?_) (fun hb => absurd hb (by omega)))
          | (refine And.intro (fun hb => ?_) (fun hb => ?_))
          | (intro hb)
          | (simp only [g91])
          | (conv => whnf)))
        refine hK (s_M_isOfPairs (by omega) (by omega) (by omega) (fun i z0 z1 => by have := hr3 i z0 (by omega); rw [Int.zero_add] at this; constructor <;> omega) (fun r6 hr6 => ?_))
        have er6 : r6 = 0 := by
          rcases hr6 with ⟨-, w⟩ | w
          · exfalso
            exact f2 (m_prs_eq w2' (fun i i0 i1 => by have := w i i0 i1; rw [m_cnt_cg] at this; exact this))
          · exact w.1
        clear hr6
        subst er6
        iterate 30 (all_goals (first
          | (refine And.intro (by omega) ?_)
          | (refine And.intro (fun hb => absurd hb (by omega)) (fun hb => ?_))
          | (refine And.intro (fun hb => ?_) (fun hb => absurd hb (by omega)))
          | (refine And.intro (fun hb => ?_) (fun hb => ?_))
          | (intro hb)
          | (conv => whnf)))
        refine hK (s_M_found ?_)
        iterate 30 (all_goals (first
          | (refine And.intro (by omega) ?_)
          | (refine And.intro (fun hb => absurd hb (by omega)) (fun hb => ?_))
          | (refine And.intro (fun hb => ?_) (fun hb => absurd hb (by omega)))
          | (refine And.intro (fun hb => ?_) (fun hb => ?_))
          | (intro hb)
          | (conv => whnf)))
        first | exact pr_k (II_rd (V' := am_up W 86 1 3) (II_find2 (c := 3) hI (by omega)) (fun a q => (am_up_ne q.2.1).trans ((w1 a (by omega)).trans (am_up_ne q.2.1).symm)) (fun j q => by rw [am_up_ne (show (3 : Nat) ≠ 86 by decide), am_up_ne (show (3 : Nat) ≠ 86 by decide), w1 3 (by decide)]) (fun j q1 q2 => by rw [am_up_at, if_neg q2, am_up_at, if_neg q2, w1 86 (by decide)]) (by rw [am_up_ne (show (65 : Nat) ≠ 86 by decide), am_up_ne (show (65 : Nat) ≠ 86 by decide), w1 65 (by decide)]) (by rw [am_up_ne (show (76 : Nat) ≠ 86 by decide), am_up_ne (show (76 : Nat) ≠ 86 by decide), w1 76 (by decide)]) (by rw [am_up_same, am_up_ne (show (3 : Nat) ≠ 86 by decide), w1 3 (by decide), am_up_ne (show (3 : Nat) ≠ 86 by decide), am_up_same]; omega)) | exact pr_k2 (II_rd (V' := am_up W 86 1 3) (II_find2 (c := 3) hI (by omega)) (fun a q => (am_up_ne q.2.1).trans ((w1 a (by omega)).trans (am_up_ne q.2.1).symm)) (fun j q => by rw [am_up_ne (show (3 : Nat) ≠ 86 by decide), am_up_ne (show (3 : Nat) ≠ 86 by decide), w1 3 (by decide)]) (fun j q1 q2 => by rw [am_up_at, if_neg q2, am_up_at, if_neg q2, w1 86 (by decide)]) (by rw [am_up_ne (show (65 : Nat) ≠ 86 by decide), am_up_ne (show (65 : Nat) ≠ 86 by decide), w1 65 (by decide)]) (by rw [am_up_ne (show (76 : Nat) ≠ 86 by decide), am_up_ne (show (76 : Nat) ≠ 86 by decide), w1 76 (by decide)]) (by rw [am_up_same, am_up_ne (show (3 : Nat) ≠ 86 by decide), w1 3 (by decide), am_up_ne (show (3 : Nat) ≠ 86 by decide), am_up_same]; omega))
  · refine am_enter mt_F_handles ok_F_handles rfl ?_
    refine am_run 400 mt_F_handles ok_F_handles (fun K S hK hS => ?_)
    iterate 30 (all_goals (first
      | (refine And.intro (by omega) ?_)
      | (refine And.intro (fun hb => absurd hb (by omega)) (fun hb => ?_))
      | (refine And.intro (fun hb => ?_) (fun hb => absurd hb (by omega)))
      | (refine And.intro (fun hb => ?_) (fun hb => ?_))
      | (intro hb)
      | (conv => whnf)))
    refine hK (s_F_noPlace h0 (fun r hr => ?_))
    iterate 30 (all_goals (first
      | (refine And.intro (by omega) ?_)
      | (refine And.intro (fun hb => absurd hb (by omega)) (fun hb => ?_))
      | (refine And.intro (fun hb => ?_) (fun hb => absurd hb (by omega)))
      | (refine And.intro (fun hb => ?_) (fun hb => ?_))
      | (intro hb)
      | (conv => whnf)))
    refine pr_i (by omega) hJ.1 ?_
    refine am_enter mt_M_handles ok_M_handles rfl ?_
    refine am_run 400 mt_M_handles ok_M_handles (fun K S hK hS => ?_)
    iterate 30 (all_goals (first
      | (refine And.intro (by omega) ?_)
      | (refine And.intro (fun hb => absurd hb (by omega)) (fun hb => ?_))
      | (refine And.intro (fun hb => ?_) (fun hb => absurd hb (by omega)))
      | (refine And.intro (fun hb => ?_) (fun hb => ?_))
      | (intro hb)
      | (conv => whnf)))
    refine hK (s_M_isPlace h0 (fun r2 hr2 => ?_))
    iterate 30 (all_goals (first
      | (refine And.intro (by omega) ?_)
      | (refine And.intro (fun hb => absurd hb (by omega)) (fun hb => ?_))
      | (refine And.intro (fun hb => ?_) (fun hb => absurd hb (by omega)))
      | (refine And.intro (fun hb => ?_) (fun hb => ?_))
      | (intro hb)
      | (conv => whnf)))
    exact pr_k (II_bad hI)
