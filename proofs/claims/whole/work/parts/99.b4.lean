/-! both, how 1 (join), both sides -/
theorem pr_both1 {G : am_G} {d : Nat} {sh : Int → Option Nat} {V : am_V} {T : Nat} {p : Int} {f0 : Int → Int} {q a b : Int} (hI : II V sh T p f0) (h0 : am_in32 q) (h1 : am_in32 a) (h2 : am_in32 b) : am_Calls G (d + 9) 7 [vR 3, vI q, vI a, vI b, vI 1] V (am_RF sh) T (pr_int G (d + 9) 93 [vR 86, vI q, vI a, vI b, vI 1] p f0) := by
  have hJ := hI.1
  have hVV := iv_rng hJ.2.2.2.1
  have hT := hJ.2.2.2.1.1
  by_cases hc : (0 ≤ q ∧ q < 10) ∧ (0 ≤ a ∧ a < 10) ∧ (0 ≤ b ∧ b < 10)
  · have find : ∀ c, 0 ≤ c ∧ c ≤ 5 → ((c = 1 ∧ V 90 a < 0) ∨ (c = 3 ∧ (V 90 a = 0 ∨ V 90 a = 4)) ∨ ((1 ≤ V 90 a ∧ V 90 a ≤ 3) ∧ ((c = 1 ∧ V 90 b < 0) ∨ (c = 3 ∧ (V 90 b = 0 ∨ V 90 b = 4))))) → pr_int G (d + 9) 93 [vR 86, vI q, vI a, vI b, vI 1] p f0 (some (vI (-1000010 - c))) (am_up V 3 17 c) (am_RF sh) T := by
      intro c hc0 hcc
      refine pr_i (by omega) (by simp +decide [am_up_ne, am_up_at, reduceIte]; exact hJ.1) (s_M_both1 (M := fun _ => 0) h0 h1 h2 (by simp +decide only [am_up_ne, am_up_at, reduceIte]; exact hVV) (fun z => absurd hc z) (fun c' _ hc' => ?_) (fun _ z1 z2 => ?_) (fun _ z1 z2 => ?_) (fun _ z1 z2 => ?_))
      · simp +decide only [am_up_ne, am_up_at, reduceIte] at hc'
        obtain rfl : c' = c := by omega
        exact pr_k (II_find2 hI hc0)
      · exfalso; simp +decide only [am_up_ne, am_up_at, reduceIte] at z1 z2; omega
      · exfalso; simp +decide only [am_up_ne, am_up_at, reduceIte] at z1 z2; omega
      · exfalso; simp +decide only [am_up_ne, am_up_at, reduceIte] at z1 z2; omega
    have T_0 : 107 ≤ T := hT.1
    have T_l := th_lay hT
    have T_b := th_ble hT
    have T_q := th_beq hT
    have T_m := th_lay1 hT
    have T_c := th_ble1 hT
    have T_r := th_beq1 hT
    have T_R : am_RF sh T 2 = some (T + 1) := th_RF hT
    have T_z : Nat.beq (T + 1) 0 = false := rfl
    have T_3 : Nat.ble 3 (T + 1) = true := th_ble3 hT
    have T_i : ∀ r, am_isr 3 (vR T :: r) = true := th_isr hT
    refine am_enter mt_F_both ok_F_both rfl ?_
    refine am_run 400 mt_F_both ok_F_both (fun K S hK hS => ?_)
    iterate 30 (all_goals (first
      | (refine And.intro (by omega) ?_)
      | (refine And.intro (fun hb => absurd hb (by omega)) (fun hb => ?_))
      | (refine And.intro (fun hb => ?_) (fun hb => absurd hb (by omega)))
      | (refine And.intro (fun hb => ?_) (fun hb => ?_))
      | (intro hb)
      | (conv => whnf)))
    refine hK (s_F_noPlace h0 (fun r hr => ?_))
    iterate 30 (all_goals (first
      | (refine And.intro (by omega) ?_)
      | (refine And.intro (fun hb => absurd hb (by omega)) (fun hb => ?_))
      | (refine And.intro (fun hb => ?_) (fun hb => absurd hb (by omega)))
      | (refine And.intro (fun hb => ?_) (fun hb => ?_))
      | (intro hb)
      | (conv => whnf)))
    refine hK (s_F_noPlace h1 (fun r2 hr2 => ?_))
    iterate 30 (all_goals (first
      | (refine And.intro (by omega) ?_)
      | (refine And.intro (fun hb => absurd hb (by omega)) (fun hb => ?_))
      | (refine And.intro (fun hb => ?_) (fun hb => absurd hb (by omega)))
      | (refine And.intro (fun hb => ?_) (fun hb => ?_))
      | (intro hb)
      | (conv => whnf)))
    refine hK (s_F_noPlace h2 (fun r3 hr3 => ?_))
    rcases hJ.2.2.2.1.2 a hc.2.1.1 hc.2.1.2 with ⟨e1, e2⟩ | ⟨x, n, e1, x1, xT, xo, x4, x5, x6⟩
    · rcases hJ.2.2.2.1.2 b hc.2.2.1 hc.2.2.2 with ⟨e3, e4⟩ | ⟨y, m, e3, y1, yT, yo, y4, y5, y6⟩
      · iterate 60 (all_goals (first
          | (refine am_aN e1 ?_)
          | (refine am_aN e3 ?_)
          | (refine And.intro (by omega) ?_)
          | (refine am_nN ?_)
          | (refine am_nS ?_)
          | (refine am_mN ?_)
          | (refine am_mS ?_)
          | (refine And.intro (fun hb => absurd hb (by omega)) (fun hb => ?_))
          | (refine And.intro (fun hb => ?_) (fun hb => absurd hb (by omega)))
          | (refine And.intro (fun hb => ?_) (fun hb => ?_))
          | (intro hb)
          | (conv => whnf)))
        exact hK (s_F_finding (find 1 (by omega) (by omega)))
      · iterate 60 (all_goals (first
          | (refine am_aN e1 ?_)
          | (refine am_aS e3 ?_)
          | (refine And.intro (by omega) ?_)
          | (refine am_nN ?_)
          | (refine am_nS ?_)
          | (refine am_mN ?_)
          | (refine am_mS ?_)
          | (refine And.intro (fun hb => absurd hb (by omega)) (fun hb => ?_))
          | (refine And.intro (fun hb => ?_) (fun hb => absurd hb (by omega)))
          | (refine And.intro (fun hb => ?_) (fun hb => ?_))
          | (intro hb)
          | (conv => whnf)))
        exact hK (s_F_finding (find 1 (by omega) (by omega)))
    · have xk := m_kd_rng xo.2.2.2.2.2
      have xn := xo.2.1
      have x0 : V x 0 = n := xo.1
      have x_0 : 107 ≤ x := x1.1
      have x_l := th_lay x1
      have x_b := th_ble x1
      have x_q := th_beq x1
      have x_m := th_lay1 x1
      have x_c := th_ble1 x1
      have x_r := th_beq1 x1
      have x_R : am_RF sh x 2 = some (x + 1) := th_RF x1
      have x_z : Nat.beq (x + 1) 0 = false := rfl
      have x_3 : Nat.ble 3 (x + 1) = true := th_ble3 x1
      have x_i : ∀ r, am_isr 3 (vR x :: r) = true := th_isr x1
      rcases hJ.2.2.2.1.2 b hc.2.2.1 hc.2.2.2 with ⟨e3, e4⟩ | ⟨y, m, e3, y1, yT, yo, y4, y5, y6⟩
      · iterate 60 (all_goals (first
          | (refine am_aS e1 ?_)
          | (refine am_aN e3 ?_)
          | (refine And.intro (by omega) ?_)
          | (refine And.intro (by decide) ?_)
          | (refine am_nN ?_)
          | (refine am_nS ?_)
          | (refine am_mN ?_)
          | (refine am_mS ?_)
          | (refine And.intro (fun hb => absurd hb (by omega)) (fun hb => ?_))
          | (refine And.intro (fun hb => ?_) (fun hb => absurd hb (by omega)))
          | (refine And.intro (fun hb => ?_) (fun hb => ?_))
          | (intro hb)
          | (refine am_if_mk (x_i _) ?_)
          | (simp only [x_l, x_b, x_q, x_m, x_c, x_r, x_R, x_z, x_3])
          | (conv => whnf)))
        refine hK (s_T_isOf x1 (by omega) xk (fun r4 hr4 => ?_))
        iterate 60 (all_goals (first
          | (refine And.intro (by omega) ?_)
          | (refine am_nN ?_)
          | (refine am_nS ?_)
          | (refine am_mN ?_)
          | (refine am_mS ?_)
          | (refine And.intro (fun hb => absurd hb (by omega)) (fun hb => ?_))
          | (refine And.intro (fun hb => ?_) (fun hb => absurd hb (by omega)))
          | (refine And.intro (fun hb => ?_) (fun hb => ?_))
          | (intro hb)
          | (conv => whnf)))
        · exact hK (s_F_finding (find 1 (by omega) (by omega)))
        · exact hK (s_F_finding (find 3 (by omega) (by omega)))
      · have yk := m_kd_rng yo.2.2.2.2.2
        have yn := yo.2.1
        have y0 : V y 0 = m := yo.1
        have y_0 : 107 ≤ y := y1.1
        have y_l := th_lay y1
        have y_b := th_ble y1
        have y_q := th_beq y1
        have y_m := th_lay1 y1
        have y_c := th_ble1 y1
        have y_r := th_beq1 y1
        have y_R : am_RF sh y 2 = some (y + 1) := th_RF y1
        have y_z : Nat.beq (y + 1) 0 = false := rfl
        have y_3 : Nat.ble 3 (y + 1) = true := th_ble3 y1
        have y_i : ∀ r, am_isr 3 (vR y :: r) = true := th_isr y1
        iterate 60 (all_goals (first
          | (refine am_aS e1 ?_)
          | (refine am_aS e3 ?_)
          | (refine And.intro (by omega) ?_)
          | (refine And.intro (by decide) ?_)
          | (refine am_nN ?_)
          | (refine am_nS ?_)
          | (refine am_mN ?_)
          | (refine am_mS ?_)
          | (refine And.intro (fun hb => absurd hb (by omega)) (fun hb => ?_))
          | (refine And.intro (fun hb => ?_) (fun hb => absurd hb (by omega)))
          | (refine And.intro (fun hb => ?_) (fun hb => ?_))
          | (intro hb)
          | (refine am_if_mk (x_i _) ?_)
          | (simp only [x_l, x_b, x_q, x_m, x_c, x_r, x_R, x_z, x_3])
          | (conv => whnf)))
        refine hK (s_T_isOf x1 (by omega) xk (fun r4 hr4 => ?_))
        by_cases hx1 : 1 ≤ V x 4 ∧ V x 4 ≤ 3
        · iterate 60 (all_goals (first
            | (refine And.intro (by omega) ?_)
            | (refine And.intro (by decide) ?_)
            | (refine am_nN ?_)
            | (refine am_nS ?_)
            | (refine am_mN ?_)
            | (refine am_mS ?_)
            | (refine And.intro (fun hb => absurd hb (by omega)) (fun hb => ?_))
            | (refine And.intro (fun hb => ?_) (fun hb => absurd hb (by omega)))
            | (refine And.intro (fun hb => ?_) (fun hb => ?_))
            | (intro hb)
            | (refine am_if_mk (y_i _) ?_)
            | (simp only [y_l, y_b, y_q, y_m, y_c, y_r, y_R, y_z, y_3])
            | (conv => whnf)))
          refine hK (s_T_isOf y1 (by omega) yk (fun r5 hr5 => ?_))
          by_cases hy1 : 1 ≤ V y 4 ∧ V y 4 ≤ 3
          · by_cases hnm : n = m
            · subst hnm
              iterate 60 (all_goals (first
                | (refine And.intro (by omega) ?_)
                | (refine And.intro (by decide) ?_)
                | (refine am_nN ?_)
                | (refine am_nS ?_)
                | (refine am_mN ?_)
                | (refine am_mS ?_)
                | (refine And.intro (fun hb => absurd hb (by omega)) (fun hb => ?_))
                | (refine And.intro (fun hb => ?_) (fun hb => absurd hb (by omega)))
                | (refine And.intro (fun hb => ?_) (fun hb => ?_))
                | (intro hb)
                | (refine am_if_mk (x_i _) ?_)
                | (refine am_if_mk (y_i _) ?_)
                | (simp only [x_l, x_b, x_q, x_m, x_c, x_r, x_R, x_z, x_3, y_l, y_b, y_q, y_m, y_c, y_r, y_R, y_z, y_3, x0, y0])
                | (conv => whnf)))
              refine hK (s_F_joinOf (n := n) x1 y1 hT xT yT xo yo (m_kd_free xo.2.2.2.2.2 (by omega)) (m_kd_free yo.2.2.2.2.2 (by omega)) (fun U M T8 eT hT8 u1 u2 hM u3 => ?_))
              have T8_0 : 107 ≤ T8 := hT8.1
              have T8_l := th_lay hT8
              have T8_b := th_ble hT8
              have T8_q := th_beq hT8
              have T8_m := th_lay1 hT8
              have T8_c := th_ble1 hT8
              have T8_r := th_beq1 hT8
              have T8_R : am_RF sh T8 2 = some (T8 + 1) := th_RF hT8
              have T8_z : Nat.beq (T8 + 1) 0 = false := rfl
              have T8_3 : Nat.ble 3 (T8 + 1) = true := th_ble3 hT8
              have T8_i : ∀ r, am_isr 3 (vR T8 :: r) = true := th_isr hT8
              iterate 30 (all_goals (first
                | (refine And.intro (by omega) ?_)
                | (refine And.intro (by decide) ?_)
                | (refine And.intro (fun hb => absurd hb (by omega)) (fun hb => ?_))
                | (refine And.intro (fun hb => ?_) (fun hb => absurd hb (by omega)))
                | (refine And.intro (fun hb => ?_) (fun hb => ?_))
                | (intro hb)
                | (refine am_if_mk (T8_i _) ?_)
                | (simp only [T8_l, T8_b, T8_q, T8_m, T8_c, T8_r, T8_R, T8_z, T8_3])
                | (conv => whnf)))
              refine hK (s_F_shelve hc.1 hT8 ?_)
              iterate 30 (all_goals (first
                | (refine And.intro (by omega) ?_)
                | (refine And.intro (fun hb => absurd hb (by omega)) (fun hb => ?_))
                | (refine And.intro (fun hb => ?_) (fun hb => absurd hb (by omega)))
                | (refine And.intro (fun hb => ?_) (fun hb => ?_))
                | (intro hb)
                | (conv => whnf)))
              have t107 := hT.1
              have ukd := m_kd_rng u2.2.2.2.2.2
              have ux : ∀ z, z < 107 → z ≠ 3 → z ≠ 30 → am_up U 3 17 0 z = V z := fun z z1 z2 z3 => by rw [am_up_ne z2, u1 z z3 (by omega)]
              have uV : ∀ z, ns z → z < T → am_up U 3 17 0 z = V z := fun z z1 z2 => by rw [am_up_ne z1.1, u1 z (by omega) z2]
              have u3' : ∀ j, U 3 j = V 3 j := fun j => by rw [u1 3 (by decide) (by omega)]
              have x90 := ux 90 (by decide) (by decide) (by decide)
              have x91 := ux 91 (by decide) (by decide) (by decide)
              have x92 := ux 92 (by decide) (by decide) (by decide)
              have hM' : jm (fun j => V 92 (10 * a + j)) (fun j => V 92 (10 * b + j)) M n := fun i j i0 i1 j0 j1 => by
                rw [hM i j i0 i1 j0 j1, m_kr_iff (fun j z0 z1 => (x6 j z0 z1).symm) ⟨i0, i1⟩ ⟨j0, j1⟩, m_kr_iff (fun j z0 z1 => (y6 j z0 z1).symm) ⟨i0, i1⟩ ⟨j0, j1⟩]
              refine pr_i (by omega) (by rw [ux 0 (by decide) (by decide) (by decide)]; exact hJ.1) (s_M_both1 (M := M) h0 h1 h2 (by rw [x90, x91, x92]; exact hVV) (fun z => absurd hc z) (fun c' _ z => ?_) (fun _ _ _ z => ?_) (fun _ _ _ _ => by rw [x91, x92, x5]; exact hM') (fun _ _ _ _ V' r g e1' e2' e3' e4' e5 e6 e7 e8 e9 e10 e11 e12 => ?_))
              · exfalso; rw [x90] at z; omega
              · exfalso; rw [x91] at z; omega
              · rw [x91, x5] at e1' e2' e3' e6 e8 e9
                have tU : am_up U 3 17 0 T8 = U T8 := am_up_ne (by omega)
                have tU1 : am_up U 3 17 0 (T8 + 1) = U (T8 + 1) := am_up_ne (by omega)
                obtain ⟨er, hfin⟩ := II_lay (V1 := am_up U 3 17 0) (V2 := V') hI hc.1 hT8 (by omega) uV (fun j z => by rw [am_up_at, if_neg z, u3' j]) am_up_same ⟨ux 65 (by decide) (by decide) (by decide), ux 76 (by decide) (by decide) (by decide)⟩ (fun j _ _ => by rw [ux 86 (by decide) (by decide) (by decide)]) (th_ok_eq u2 tU tU1) e1' (fun i j z0 z1 z2 z3 => by
                  rw [tU1, e2' i j z0 z1 z2 z3, u3 i j z0 z1 z2 z3]) e3' e4' e5 e6 e7 e8 e9 e10 e11 e12
                rw [tU] at er
                rw [er]
                first | exact pr_k (hfin) | exact pr_k2 (hfin)
            · iterate 60 (all_goals (first
                | (refine And.intro (by omega) ?_)
                | (refine And.intro (by decide) ?_)
                | (refine am_nN ?_)
                | (refine am_nS ?_)
                | (refine am_mN ?_)
                | (refine am_mS ?_)
                | (refine And.intro (fun hb => absurd hb (by omega)) (fun hb => ?_))
                | (refine And.intro (fun hb => ?_) (fun hb => absurd hb (by omega)))
                | (refine And.intro (fun hb => ?_) (fun hb => ?_))
                | (intro hb)
                | (refine am_if_mk (x_i _) ?_)
                | (refine am_if_mk (y_i _) ?_)
                | (simp only [x_l, x_b, x_q, x_m, x_c, x_r, x_R, x_z, x_3, y_l, y_b, y_q, y_m, y_c, y_r, y_R, y_z, y_3, x0, y0])
                | (conv => whnf)))
              exact pr_i (by omega) hJ.1 (s_M_both1 (M := fun _ => 0) h0 h1 h2 hVV (fun z => absurd hc z) (fun c' _ z => absurd z (by omega)) (fun _ _ _ _ => pr_k (II_bad hI)) (fun _ _ _ z => absurd z (by omega)) (fun _ _ _ z => absurd z (by omega)))
          · iterate 60 (all_goals (first
              | (refine And.intro (by omega) ?_)
              | (refine am_nN ?_)
              | (refine am_nS ?_)
              | (refine am_mN ?_)
              | (refine am_mS ?_)
              | (refine And.intro (fun hb => absurd hb (by omega)) (fun hb => ?_))
              | (refine And.intro (fun hb => ?_) (fun hb => absurd hb (by omega)))
              | (refine And.intro (fun hb => ?_) (fun hb => ?_))
              | (intro hb)
              | (conv => whnf)))
            exact hK (s_F_finding (find 3 (by omega) (by omega)))
        · iterate 60 (all_goals (first
            | (refine And.intro (by omega) ?_)
            | (refine am_nN ?_)
            | (refine am_nS ?_)
            | (refine am_mN ?_)
            | (refine am_mS ?_)
            | (refine And.intro (fun hb => absurd hb (by omega)) (fun hb => ?_))
            | (refine And.intro (fun hb => ?_) (fun hb => absurd hb (by omega)))
            | (refine And.intro (fun hb => ?_) (fun hb => ?_))
            | (intro hb)
            | (conv => whnf)))
          exact hK (s_F_finding (find 3 (by omega) (by omega)))
  · have bad : pr_int G (d + 9) 93 [vR 86, vI q, vI a, vI b, vI 1] p f0 (some (vI (-1000001))) V (am_RF sh) T := pr_i (by omega) hJ.1 (s_M_both1 (M := fun _ => 0) h0 h1 h2 hVV (fun _ => pr_k (II_bad hI)) (fun _ z => absurd z hc) (fun z => absurd z hc) (fun z => absurd z hc) (fun z => absurd z hc))
    refine am_enter mt_F_both ok_F_both rfl ?_
    refine am_run 400 mt_F_both ok_F_both (fun K S hK hS => ?_)
    iterate 30 (all_goals (first
      | (refine And.intro (by omega) ?_)
      | (refine And.intro (fun hb => absurd hb (by omega)) (fun hb => ?_))
      | (refine And.intro (fun hb => ?_) (fun hb => absurd hb (by omega)))
      | (refine And.intro (fun hb => ?_) (fun hb => ?_))
      | (intro hb)
      | (conv => whnf)))
    refine hK (s_F_noPlace h0 (fun r hr => ?_))
    iterate 30 (all_goals (first
      | (refine And.intro (by omega) ?_)
      | (refine And.intro (fun hb => absurd hb (by omega)) (fun hb => ?_))
      | (refine And.intro (fun hb => ?_) (fun hb => absurd hb (by omega)))
      | (refine And.intro (fun hb => ?_) (fun hb => ?_))
      | (intro hb)
      | (conv => whnf)))
    · exact bad
    refine hK (s_F_noPlace h1 (fun r2 hr2 => ?_))
    iterate 30 (all_goals (first
      | (refine And.intro (by omega) ?_)
      | (refine And.intro (fun hb => absurd hb (by omega)) (fun hb => ?_))
      | (refine And.intro (fun hb => ?_) (fun hb => absurd hb (by omega)))
      | (refine And.intro (fun hb => ?_) (fun hb => ?_))
      | (intro hb)
      | (conv => whnf)))
    · exact bad
    refine hK (s_F_noPlace h2 (fun r3 hr3 => ?_))
    iterate 30 (all_goals (first
      | (refine And.intro (by omega) ?_)
      | (refine And.intro (fun hb => absurd hb (by omega)) (fun hb => ?_))
      | (refine And.intro (fun hb => ?_) (fun hb => absurd hb (by omega)))
      | (refine And.intro (fun hb => ?_) (fun hb => ?_))
      | (intro hb)
      | (conv => whnf)))
    all_goals exact bad

theorem pr_both {G : am_G} {d : Nat} {sh : Int → Option Nat} {V : am_V} {T : Nat} {p : Int} {f0 : Int → Int} {q a b w : Int} (hI : II V sh T p f0) (h0 : am_in32 q) (h1 : am_in32 a) (h2 : am_in32 b) (h3 : am_in32 w) : am_Calls G (d + 9) 7 [vR 3, vI q, vI a, vI b, vI w] V (am_RF sh) T (pr_int G (d + 9) 93 [vR 86, vI q, vI a, vI b, vI w] p f0) := by
  by_cases hw : w = 1
  · subst hw
    exact pr_both1 hI h0 h1 h2
  · exact pr_both0 hI h0 h1 h2 h3 hw
