/-! turn, both sides -/
theorem m_kd_free {g : Int → Int} {n r : Int} (h : m_kd g n r) (hr : r = 1 ∨ r = 2 ∨ r = 3) : ¬ m_Cr g n := by
  rcases h with ⟨a, b, c⟩ | ⟨a, b, c, f⟩ | ⟨a, b, c, f⟩ | ⟨a, b, c⟩ | ⟨a, b, c⟩
  · exact b
  · exact b
  · exact b
  · omega
  · omega
theorem pr_turn0 {G : am_G} {d : Nat} {sh : Int → Option Nat} {V : am_V} {T : Nat} {p : Int} {f0 : Int → Int} {q k : Int} (hI : II V sh T p f0) (h0 : am_in32 q) (h1 : am_in32 k) : am_Calls G (d + 9) 8 [vR 3, vI q, vI k, vI 0] V (am_RF sh) T (pr_int G (d + 9) 97 [vR 86, vI q, vI k, vI 0] p f0) := by
  have hJ := hI.1
  have hVV := iv_rng hJ.2.2.2.1
  have hT := hJ.2.2.2.1.1
  by_cases hc : (0 ≤ q ∧ q < 10) ∧ (0 ≤ k ∧ k < 10)
  · rcases hJ.2.2.2.1.2 k hc.2.1 hc.2.2 with ⟨e1, e2⟩ | ⟨a, n, e1, ha, haT, ok, x4, x5, x6⟩
    · refine am_enter mt_F_turn ok_F_turn rfl ?_
      refine am_run 400 mt_F_turn ok_F_turn (fun K S hK hS => ?_)
      iterate 30 (all_goals (first
        | (refine And.intro (by omega) ?_)
        | (refine And.intro (fun hb => absurd hb (by omega)) (fun hb => ?_))
        | (refine And.intro (fun hb => ?_) (fun hb => absurd hb (by omega)))
        | (refine And.intro (fun hb => ?_) (fun hb => ?_))
        | (intro hb)
        | (conv => whnf)))
      refine hK (s_F_noPlace h0 (fun r hr => ?_))
      iterate 30 (all_goals (first
        | (refine And.intro (by omega) ?_)
        | (refine And.intro (fun hb => absurd hb (by omega)) (fun hb => ?_))
        | (refine And.intro (fun hb => ?_) (fun hb => absurd hb (by omega)))
        | (refine And.intro (fun hb => ?_) (fun hb => ?_))
        | (intro hb)
        | (conv => whnf)))
      refine hK (s_F_noPlace h1 (fun r2 hr2 => ?_))
      iterate 50 (all_goals (first
        | (refine am_aN e1 ?_)
        | (refine And.intro (by omega) ?_)
        | (refine am_nN ?_)
        | (refine am_nS ?_)
        | (refine am_mN ?_)
        | (refine am_mS ?_)
        | (refine And.intro (fun hb => absurd hb (by omega)) (fun hb => ?_))
        | (refine And.intro (fun hb => ?_) (fun hb => absurd hb (by omega)))
        | (refine And.intro (fun hb => ?_) (fun hb => ?_))
        | (intro hb)
        | (conv => whnf)))
      refine hK (s_F_finding ?_)
      iterate 30 (all_goals (first
        | (refine And.intro (by omega) ?_)
        | (refine And.intro (fun hb => absurd hb (by omega)) (fun hb => ?_))
        | (refine And.intro (fun hb => ?_) (fun hb => absurd hb (by omega)))
        | (refine And.intro (fun hb => ?_) (fun hb => ?_))
        | (intro hb)
        | (conv => whnf)))
      refine pr_i (by omega) (by simp +decide [am_up_ne, am_up_at, reduceIte]; exact hJ.1) (s_M_turn0 h0 h1 (by simp +decide only [am_up_ne, am_up_at, reduceIte]; exact hVV) (fun z => absurd hc z) (fun _ _ => pr_k (II_find2 hI (by omega))) (fun _ z => ?_) (fun _ z => ?_)) <;> (exfalso; simp +decide only [am_up_ne, am_up_at, reduceIte] at z; omega)
    · have xk := m_kd_rng ok.2.2.2.2.2
      have xn := ok.2.1
      have x0 : V a 0 = n := ok.1
      have a_0 : 107 ≤ a := ha.1
      have a_l := th_lay ha
      have a_b := th_ble ha
      have a_q := th_beq ha
      have a_m := th_lay1 ha
      have a_c := th_ble1 ha
      have a_r := th_beq1 ha
      have a_R : am_RF sh a 2 = some (a + 1) := th_RF ha
      have a_z : Nat.beq (a + 1) 0 = false := rfl
      have a_3 : Nat.ble 3 (a + 1) = true := th_ble3 ha
      have a_i : ∀ r, am_isr 3 (vR a :: r) = true := th_isr ha
      have T_0 : 107 ≤ T := hT.1
      have T_l := th_lay hT
      have T_b := th_ble hT
      have T_q := th_beq hT
      have T_m := th_lay1 hT
      have T_c := th_ble1 hT
      have T_r := th_beq1 hT
      have T_R : am_RF sh T 2 = some (T + 1) := th_RF hT
      have T_z : Nat.beq (T + 1) 0 = false := rfl
      have T_3 : Nat.ble 3 (T + 1) = true := th_ble3 hT
      have T_i : ∀ r, am_isr 3 (vR T :: r) = true := th_isr hT
      refine am_enter mt_F_turn ok_F_turn rfl ?_
      refine am_run 400 mt_F_turn ok_F_turn (fun K S hK hS => ?_)
      iterate 30 (all_goals (first
        | (refine And.intro (by omega) ?_)
        | (refine And.intro (fun hb => absurd hb (by omega)) (fun hb => ?_))
        | (refine And.intro (fun hb => ?_) (fun hb => absurd hb (by omega)))
        | (refine And.intro (fun hb => ?_) (fun hb => ?_))
        | (intro hb)
        | (conv => whnf)))
      refine hK (s_F_noPlace h0 (fun r hr => ?_))
      iterate 30 (all_goals (first
        | (refine And.intro (by omega) ?_)
        | (refine And.intro (fun hb => absurd hb (by omega)) (fun hb => ?_))
        | (refine And.intro (fun hb => ?_) (fun hb => absurd hb (by omega)))
        | (refine And.intro (fun hb => ?_) (fun hb => ?_))
        | (intro hb)
        | (conv => whnf)))
      refine hK (s_F_noPlace h1 (fun r2 hr2 => ?_))
      iterate 50 (all_goals (first
        | (refine am_aS e1 ?_)
        | (refine And.intro (by omega) ?_)
        | (refine And.intro (by decide) ?_)
        | (refine am_nN ?_)
        | (refine am_nS ?_)
        | (refine am_mN ?_)
        | (refine am_mS ?_)
        | (refine And.intro (fun hb => absurd hb (by omega)) (fun hb => ?_))
        | (refine And.intro (fun hb => ?_) (fun hb => absurd hb (by omega)))
        | (refine And.intro (fun hb => ?_) (fun hb => ?_))
        | (intro hb)
        | (refine am_if_mk (a_i _) ?_)
        | (simp only [a_l, a_b, a_q, a_m, a_c, a_r, a_R, a_z, a_3])
        | (conv => whnf)))
      refine hK (s_T_isOf ha (by omega) xk (fun r5 hr5 => ?_))
      by_cases hk2 : V a 4 = 1 ∨ V a 4 = 2 ∨ V a 4 = 3
      rotate_left
      · obtain rfl : r5 = 0 := by omega
        iterate 50 (all_goals (first
          | (refine And.intro (by omega) ?_)
          | (refine And.intro (by decide) ?_)
          | (refine am_nN ?_)
          | (refine am_nS ?_)
          | (refine am_mN ?_)
          | (refine am_mS ?_)
          | (refine And.intro (fun hb => absurd hb (by omega)) (fun hb => ?_))
          | (refine And.intro (fun hb => ?_) (fun hb => absurd hb (by omega)))
          | (refine And.intro (fun hb => ?_) (fun hb => ?_))
          | (intro hb)
          | (refine am_if_mk (a_i _) ?_)
          | (simp only [a_l, a_b, a_q, a_m, a_c, a_r, a_R, a_z, a_3])
          | (conv => whnf)))
        refine hK (s_F_finding ?_)
        iterate 30 (all_goals (first
          | (refine And.intro (by omega) ?_)
          | (refine And.intro (fun hb => absurd hb (by omega)) (fun hb => ?_))
          | (refine And.intro (fun hb => ?_) (fun hb => absurd hb (by omega)))
          | (refine And.intro (fun hb => ?_) (fun hb => ?_))
          | (intro hb)
          | (conv => whnf)))
        refine pr_i (by omega) (by simp +decide [am_up_ne, am_up_at, reduceIte]; exact hJ.1) (s_M_turn0 h0 h1 (by simp +decide only [am_up_ne, am_up_at, reduceIte]; exact hVV) (fun z => absurd hc z) (fun _ z => ?_) (fun _ _ _ => pr_k (II_find2 hI (by omega))) (fun _ z => ?_)) <;> (exfalso; simp +decide only [am_up_ne, am_up_at, reduceIte] at z; omega)
      have hF := m_kd_free ok.2.2.2.2.2 hk2
      obtain rfl : r5 = 1 := by omega
      iterate 50 (all_goals (first
        | (refine And.intro (by omega) ?_)
        | (refine And.intro (by decide) ?_)
        | (refine am_nN ?_)
        | (refine am_nS ?_)
        | (refine am_mN ?_)
        | (refine am_mS ?_)
        | (refine And.intro (fun hb => absurd hb (by omega)) (fun hb => ?_))
        | (refine And.intro (fun hb => ?_) (fun hb => absurd hb (by omega)))
        | (refine And.intro (fun hb => ?_) (fun hb => ?_))
        | (intro hb)
        | (refine am_if_mk (a_i _) ?_)
        | (simp only [a_l, a_b, a_q, a_m, a_c, a_r, a_R, a_z, a_3])
        | (conv => whnf)))
      refine hK (s_F_complementOf (n := n) ha xn hT haT x0 (fun i z0 z1 => by have := m_rgs_lt ok.2.2.1 z0 z1; omega) hF (fun U u1 u2 u3 => ?_))
      iterate 30 (all_goals (first
        | (refine And.intro (by omega) ?_)
        | (refine And.intro (by decide) ?_)
        | (refine And.intro (fun hb => absurd hb (by omega)) (fun hb => ?_))
        | (refine And.intro (fun hb => ?_) (fun hb => absurd hb (by omega)))
        | (refine And.intro (fun hb => ?_) (fun hb => ?_))
        | (intro hb)
        | (refine am_if_mk (T_i _) ?_)
        | (simp only [T_l, T_b, T_q, T_m, T_c, T_r, T_R, T_z, T_3])
        | (conv => whnf)))
      refine hK (s_F_shelve hc.1 hT ?_)
      iterate 30 (all_goals (first
        | (refine And.intro (by omega) ?_)
        | (refine And.intro (fun hb => absurd hb (by omega)) (fun hb => ?_))
        | (refine And.intro (fun hb => ?_) (fun hb => absurd hb (by omega)))
        | (refine And.intro (fun hb => ?_) (fun hb => ?_))
        | (intro hb)
        | (conv => whnf)))
      have ukd := m_kd_rng u2.2.2.2.2.2
      have ux : ∀ x, x < 107 → x ≠ 3 → x ≠ 30 → am_up U 3 17 0 x = V x := fun x z1 z2 z3 => by rw [am_up_ne z2, u1 x z3 (by omega) (by omega)]
      have uV : ∀ x, ns x → x < T → am_up U 3 17 0 x = V x := fun x z1 z2 => by rw [am_up_ne z1.1, u1 x (by omega) (by omega) (by omega)]
      have u3' : ∀ j, U 3 j = V 3 j := fun j => by rw [u1 3 (by decide) (by omega) (by omega)]
      have x90 := ux 90 (by decide) (by decide) (by decide)
      have x91 := ux 91 (by decide) (by decide) (by decide)
      have x92 := ux 92 (by decide) (by decide) (by decide)
      refine pr_i (by omega) (by rw [ux 0 (by decide) (by decide) (by decide)]; exact hJ.1) (s_M_turn0 h0 h1 (by rw [x90, x91, x92]; exact hVV) (fun z => absurd hc z) (fun _ z => ?_) (fun _ _ z => ?_) (fun _ _ V' r g e1' e2' e3 e4 e5 e6 e7 e8 e9 e10 e11 e12 => ?_))
      · exfalso; rw [x90] at z; omega
      · exfalso; rw [x90] at z; omega
      · rw [x91, x5] at e1' e2' e3 e6 e8 e9
        rw [x92] at e2'
        have tU : am_up U 3 17 0 T = U T := am_up_ne (by omega)
        have tU1 : am_up U 3 17 0 (T + 1) = U (T + 1) := am_up_ne (by omega)
        obtain ⟨er, hfin⟩ := II_lay (V1 := am_up U 3 17 0) (V2 := V') hI hc.1 hT (Nat.le_refl _) uV (fun j z => by rw [am_up_at, if_neg z, u3' j]) am_up_same ⟨ux 65 (by decide) (by decide) (by decide), ux 76 (by decide) (by decide) (by decide)⟩ (fun j _ _ => by rw [ux 86 (by decide) (by decide) (by decide)]) (th_ok_eq u2 tU tU1) e1' (fun x y z0 z1 z2 z3 => by
          rw [tU1, e2' x y z0 z1 z2 z3, u3 x y z0 z1 z2 z3]; exact m_kr_iff x6 ⟨z0, z1⟩ ⟨z2, z3⟩) e3 e4 e5 e6 e7 e8 e9 e10 e11 e12
        rw [tU] at er
        rw [er]
        first | exact pr_k (hfin) | exact pr_k2 (hfin)
  · have bad : pr_int G (d + 9) 97 [vR 86, vI q, vI k, vI 0] p f0 (some (vI (-1000001))) V (am_RF sh) T := pr_i (by omega) hJ.1 (s_M_turn0 h0 h1 hVV (fun _ => pr_k (II_bad hI)) (fun z => absurd z hc) (fun z => absurd z hc) (fun z => absurd z hc))
    refine am_enter mt_F_turn ok_F_turn rfl ?_
    refine am_run 400 mt_F_turn ok_F_turn (fun K S hK hS => ?_)
    iterate 30 (all_goals (first
      | (refine And.intro (by omega) ?_)
      | (refine And.intro (fun hb => absurd hb (by omega)) (fun hb => ?_))
      | (refine And.intro (fun hb => ?_) (fun hb => absurd hb (by omega)))
      | (refine And.intro (fun hb => ?_) (fun hb => ?_))
      | (intro hb)
      | (conv => whnf)))
    refine hK (s_F_noPlace h0 (fun r hr => ?_))
    iterate 30 (all_goals (first
      | (refine And.intro (by omega) ?_)
      | (refine And.intro (fun hb => absurd hb (by omega)) (fun hb => ?_))
      | (refine And.intro (fun hb => ?_) (fun hb => absurd hb (by omega)))
      | (refine And.intro (fun hb => ?_) (fun hb => ?_))
      | (intro hb)
      | (conv => whnf)))
    · exact bad
    refine hK (s_F_noPlace h1 (fun r2 hr2 => ?_))
    iterate 30 (all_goals (first
      | (refine And.intro (by omega) ?_)
      | (refine And.intro (fun hb => absurd hb (by omega)) (fun hb => ?_))
      | (refine And.intro (fun hb => ?_) (fun hb => absurd hb (by omega)))
      | (refine And.intro (fun hb => ?_) (fun hb => ?_))
      | (intro hb)
      | (conv => whnf)))
    all_goals exact bad
theorem pr_turn {G : am_G} {d : Nat} {sh : Int → Option Nat} {V : am_V} {T : Nat} {p : Int} {f0 : Int → Int} {q k w : Int} (hI : II V sh T p f0) (h0 : am_in32 q) (h1 : am_in32 k) (h2 : am_in32 w) : am_Calls G (d + 9) 8 [vR 3, vI q, vI k, vI w] V (am_RF sh) T (pr_int G (d + 9) 97 [vR 86, vI q, vI k, vI w] p f0) := by
  by_cases hw : w = 0
  · subst hw
    exact pr_turn0 hI h0 h1
  · exact pr_turn1 hI h0 h1 h2 hw
