/-! places: as, clear, block, trace, status -/
/-- the shelf changed -/
theorem IJ_tg {V V' : am_V} {sh sh' : Int → Option Nat} {T T' : Nat} {p : Int} {f0 : Int → Int} (h : IJ V sh T p f0) (F : ∀ a, ns a → a ≠ 90 → a ≠ 91 → a ≠ 92 → a < 107 → V' a = V a) (F3 : ∀ j, j ≠ 17 → V' 3 j = V 3 j) (F86 : ∀ j, j ≠ 0 → j ≠ 1 → V' 86 j = V 86 j) (F65 : ∀ j, 0 ≤ j → j ≤ 8 → V' 65 j = V 65 j ∧ V' 76 j = V 76 j) (k : iv_tg V' sh' T') : IJ V' sh' T' p f0 := by
  obtain ⟨h0, h1, h2, h3, h4, h5, h7, h8, h9⟩ := h
  have F := fun a (q : ns a) (q1 : a ≠ 90 ∧ a ≠ 91 ∧ a ≠ 92 ∧ a < 107) => F a q q1.1 q1.2.1 q1.2.2.1 q1.2.2.2
  refine ⟨by rw [F 0 (by decide) (by decide)]; exact h0, iv_sh_eq h1 (F 13 (by decide) (by decide)) (F 14 (by decide) (by decide)) (F 87 (by decide) (by decide)) (F 88 (by decide) (by decide)), iv_it_eq h2 (F 4 (by decide) (by decide)) (F 89 (by decide) (by decide)), k, iv_tr_eq h4 (F3 8 (by decide)) (F86 12 (by decide) (by decide)) (F 31 (by decide) (by decide)) (F 95 (by decide) (by decide)), iv_se_eq h5 (F 41 (by decide) (by decide)) (F 32 (by decide) (by decide)) (F 98 (by decide) (by decide)) (F 99 (by decide) (by decide)), iv_p_eq h7 (F3 0 (by decide)) (F86 2 (by decide) (by decide)) (F 63 (by decide) (by decide)) (F 64 (by decide) (by decide)) (F 75 (by decide) (by decide)), iv_k_eq h8 (F 1 (by decide) (by decide)) (F 2 (by decide) (by decide)) (F 96 (by decide) (by decide)) (F 17 (by decide) (by decide)) F65, iv_q_eq h9 (F 50 (by decide) (by decide))⟩
theorem II_clear {p k : Int} {f0 : Int → Int} {sh : Int → Option Nat} {V : am_V} {T : Nat} (h : II V sh T p f0) : II (am_up (am_up V 86 0 0) 90 k (-1)) (th_set sh k none) T p f0 := by
  obtain ⟨hJ, h1, h2, h3⟩ := h
  refine ⟨IJ_tg hJ (fun a q q1 q2 q3 q4 => by rw [am_up_ne q1, am_up_ne q.2.1]) (fun j q => by simp +decide [am_up_ne, am_up_at, reduceIte]) (fun j q1 q2 => by simp +decide [am_up_ne, am_up_at, reduceIte, q1]) (fun j _ _ => by simp +decide [am_up_ne, am_up_at, reduceIte]) ⟨hJ.2.2.2.1.1, fun x a b => ?_⟩, ?_⟩
  · by_cases e : x = k
    · subst e
      refine Or.inl ⟨?_, am_up_same⟩
      unfold th_set
      rw [if_pos rfl]
    · rcases hJ.2.2.2.1.2 x a b with ⟨q1, q2⟩ | ⟨c, n, q1, q2⟩
      · refine Or.inl ⟨?_, by rw [am_up_at, if_neg e, am_up_ne (by decide)]; exact q2⟩
        unfold th_set
        rw [if_neg e]
        exact q1
      · refine Or.inr ⟨c, n, ?_, iv_th_eq q2 (by rw [am_up_at, if_neg e, am_up_ne (by decide)]) (by rw [am_up_ne (by decide), am_up_ne (by decide)]) (fun j _ _ => by rw [am_up_ne (by decide), am_up_ne (by decide)]) (fun z z1 z2 => by rw [am_up_ne (by omega), am_up_ne (by omega)]) (Nat.le_refl _)⟩
        unfold th_set
        rw [if_neg e]
        exact q1
  · unfold iv_st
    simp +decide [am_up_ne, am_up_at, reduceIte]
    exact ⟨h1, h2, h3⟩
theorem pr_clear {G : am_G} {d : Nat} {sh : Int → Option Nat} {V : am_V} {T : Nat} {p : Int} {f0 : Int → Int} {k : Int} (hI : II V sh T p f0) (h0 : am_in32 k) : am_Calls G (d + 9) 9 [vR 3, vI k] V (am_RF sh) T (pr_int G (d + 9) 98 [vR 86, vI k] p f0) := by
  have hJ := hI.1
  by_cases hk : 0 ≤ k ∧ k < 10
  · rcases hJ.2.2.2.1.2 k hk.1 hk.2 with ⟨e1, e2⟩ | ⟨a, n, e1, e2⟩
    · refine am_enter mt_F_clear ok_F_clear rfl ?_
      refine am_run 400 mt_F_clear ok_F_clear (fun K S hK hS => ?_)
      iterate 30 (all_goals (first
        | (refine And.intro (by omega) ?_)
        | (refine And.intro (fun hb => absurd hb (by omega)) (fun hb => ?_))
        | (refine And.intro (fun hb => ?_) (fun hb => absurd hb (by omega)))
        | (refine And.intro (fun hb => ?_) (fun hb => ?_))
        | (intro hb)
        | (conv => whnf)))
      refine hK (s_F_noPlace h0 (fun r hr => ?_))
      iterate 40 (all_goals (first
        | (refine am_aN e1 ?_)
        | (refine And.intro (by omega) ?_)
        | (refine am_nN ?_)
        | (refine am_nS ?_)
        | (refine am_mN ?_)
        | (refine am_mS ?_)
        | (refine And.intro (fun hb => absurd hb (by omega)) (fun hb => ?_))
        | (refine And.intro (fun hb => ?_) (fun hb => absurd hb (by omega)))
        | (refine And.intro (fun hb => ?_) (fun hb => ?_))
        | (intro hb)
        | (conv => whnf)))
      rw [th_RFset]
      refine pr_i (by omega) hJ.1 ?_
      refine am_enter mt_M_clear ok_M_clear rfl ?_
      refine am_run 400 mt_M_clear ok_M_clear (fun K S hK hS => ?_)
      iterate 30 (all_goals (first
        | (refine And.intro (by omega) ?_)
        | (refine And.intro (fun hb => absurd hb (by omega)) (fun hb => ?_))
        | (refine And.intro (fun hb => ?_) (fun hb => absurd hb (by omega)))
        | (refine And.intro (fun hb => ?_) (fun hb => ?_))
        | (intro hb)
        | (conv => whnf)))
      refine hK (s_M_isPlace h0 (fun r2 hr2 => ?_))
      iterate 40 (all_goals (first
        | (refine And.intro (by omega) ?_)
        | (refine And.intro (by decide) ?_)
        | (refine And.intro (fun hb => absurd hb (by omega)) (fun hb => ?_))
        | (refine And.intro (fun hb => ?_) (fun hb => absurd hb (by omega)))
        | (refine And.intro (fun hb => ?_) (fun hb => ?_))
        | (intro hb)
        | (simp +decide only [am_up_ne, am_up_at, reduceIte])
        | (conv => whnf)))
      first | exact pr_k (II_clear hI) | exact pr_k2 (II_clear hI)
    · have hkd := th_kd e2
      have ek : V 90 k = V a 4 := e2.2.2.2.1
      refine am_enter mt_F_clear ok_F_clear rfl ?_
      refine am_run 400 mt_F_clear ok_F_clear (fun K S hK hS => ?_)
      iterate 30 (all_goals (first
        | (refine And.intro (by omega) ?_)
        | (refine And.intro (fun hb => absurd hb (by omega)) (fun hb => ?_))
        | (refine And.intro (fun hb => ?_) (fun hb => absurd hb (by omega)))
        | (refine And.intro (fun hb => ?_) (fun hb => ?_))
        | (intro hb)
        | (conv => whnf)))
      refine hK (s_F_noPlace h0 (fun r hr => ?_))
      iterate 40 (all_goals (first
        | (refine am_aS e1 ?_)
        | (refine And.intro (by omega) ?_)
        | (refine am_nN ?_)
        | (refine am_nS ?_)
        | (refine am_mN ?_)
        | (refine am_mS ?_)
        | (refine And.intro (fun hb => absurd hb (by omega)) (fun hb => ?_))
        | (refine And.intro (fun hb => ?_) (fun hb => absurd hb (by omega)))
        | (refine And.intro (fun hb => ?_) (fun hb => ?_))
        | (intro hb)
        | (conv => whnf)))
      rw [th_RFset]
      refine pr_i (by omega) hJ.1 ?_
      refine am_enter mt_M_clear ok_M_clear rfl ?_
      refine am_run 400 mt_M_clear ok_M_clear (fun K S hK hS => ?_)
      iterate 30 (all_goals (first
        | (refine And.intro (by omega) ?_)
        | (refine And.intro (fun hb => absurd hb (by omega)) (fun hb => ?_))
        | (refine And.intro (fun hb => ?_) (fun hb => absurd hb (by omega)))
        | (refine And.intro (fun hb => ?_) (fun hb => ?_))
        | (intro hb)
        | (conv => whnf)))
      refine hK (s_M_isPlace h0 (fun r2 hr2 => ?_))
      iterate 40 (all_goals (first
        | (refine And.intro (by omega) ?_)
        | (refine And.intro (by decide) ?_)
        | (refine And.intro (fun hb => absurd hb (by omega)) (fun hb => ?_))
        | (refine And.intro (fun hb => ?_) (fun hb => absurd hb (by omega)))
        | (refine And.intro (fun hb => ?_) (fun hb => ?_))
        | (intro hb)
        | (simp +decide only [am_up_ne, am_up_at, reduceIte])
        | (conv => whnf)))
      first | exact pr_k (II_clear hI) | exact pr_k2 (II_clear hI)
  · refine am_enter mt_F_clear ok_F_clear rfl ?_
    refine am_run 400 mt_F_clear ok_F_clear (fun K S hK hS => ?_)
    iterate 30 (all_goals (first
      | (refine And.intro (by omega) ?_)
      | (refine And.intro (fun hb => absurd hb (by omega)) (fun hb => ?_))
      | (refine And.intro (fun hb => ?_) (fun hb => absurd hb (by omega)))
      | (refine And.intro (fun hb => ?_) (fun hb => ?_))
      | (intro hb)
      | (conv => whnf)))
    refine hK (s_F_noPlace h0 (fun r hr => ?_))
    iterate 30 (all_goals (first
      | (refine And.intro (by omega) ?_)
      | (refine And.intro (fun hb => absurd hb (by omega)) (fun hb => ?_))
      | (refine And.intro (fun hb => ?_) (fun hb => absurd hb (by omega)))
      | (refine And.intro (fun hb => ?_) (fun hb => ?_))
      | (intro hb)
      | (conv => whnf)))
    refine pr_i (by omega) hJ.1 ?_
    refine am_enter mt_M_clear ok_M_clear rfl ?_
    refine am_run 400 mt_M_clear ok_M_clear (fun K S hK hS => ?_)
    iterate 30 (all_goals (first
      | (refine And.intro (by omega) ?_)
      | (refine And.intro (fun hb => absurd hb (by omega)) (fun hb => ?_))
      | (refine And.intro (fun hb => ?_) (fun hb => absurd hb (by omega)))
      | (refine And.intro (fun hb => ?_) (fun hb => ?_))
      | (intro hb)
      | (conv => whnf)))
    refine hK (s_M_isPlace h0 (fun r2 hr2 => ?_))
    iterate 30 (all_goals (first
      | (refine And.intro (by omega) ?_)
      | (refine And.intro (fun hb => absurd hb (by omega)) (fun hb => ?_))
      | (refine And.intro (fun hb => ?_) (fun hb => absurd hb (by omega)))
      | (refine And.intro (fun hb => ?_) (fun hb => ?_))
      | (intro hb)
      | (conv => whnf)))
    first | exact pr_k (II_bad hI) | exact pr_k2 (II_bad hI)
theorem II_rd {p : Int} {f0 : Int → Int} {sh : Int → Option Nat} {V V' : am_V} {T : Nat} (h : II V sh T p f0) (F : ∀ a, ns a → V' a = V a) (F3 : ∀ j, j ≠ 17 → V' 3 j = V 3 j) (F86 : ∀ j, j ≠ 0 → j ≠ 1 → V' 86 j = V 86 j) (F65 : V' 65 = V 65) (F76 : V' 76 = V 76) (hs : V' 86 1 = V' 3 17 ∧ 0 ≤ V' 3 17 ∧ V' 3 17 ≤ 5) : II V' sh T p f0 :=
  ⟨IJ_ro h.1 (fun a q _ => F a q) F3 F86 (fun j _ _ => by rw [F65, F76]; exact ⟨rfl, rfl⟩) (Nat.le_refl _) h.1.2.2.2.1.1, hs⟩
theorem pr_block {G : am_G} {d : Nat} {sh : Int → Option Nat} {V : am_V} {T : Nat} {p : Int} {f0 : Int → Int} {k q : Int} (hI : II V sh T p f0) (h0 : am_in32 k) (h1 : am_in32 q) : am_Calls G (d + 9) 15 [vR 3, vI k, vI q] V (am_RF sh) T (pr_int G (d + 9) 109 [vR 86, vI k, vI q] p f0) := by
  have hJ := hI.1
  by_cases hk : 0 ≤ k ∧ k < 10
  · rcases hJ.2.2.2.1.2 k hk.1 hk.2 with ⟨e1, e2⟩ | ⟨a, n, e1, e2⟩
    · refine am_enter mt_F_block ok_F_block rfl ?_
      refine am_run 400 mt_F_block ok_F_block (fun K S hK hS => ?_)
      iterate 30 (all_goals (first
        | (refine And.intro (by omega) ?_)
        | (refine And.intro (fun hb => absurd hb (by omega)) (fun hb => ?_))
        | (refine And.intro (fun hb => ?_) (fun hb => absurd hb (by omega)))
        | (refine And.intro (fun hb => ?_) (fun hb => ?_))
        | (intro hb)
        | (conv => whnf)))
      refine hK (s_F_noPlace h0 (fun r hr => ?_))
      iterate 40 (all_goals (first
        | (refine am_aN e1 ?_)
        | (refine And.intro (by omega) ?_)
        | (refine am_nN ?_)
        | (refine am_nS ?_)
        | (refine am_mN ?_)
        | (refine am_mS ?_)
        | (refine And.intro (fun hb => absurd hb (by omega)) (fun hb => ?_))
        | (refine And.intro (fun hb => ?_) (fun hb => absurd hb (by omega)))
        | (refine And.intro (fun hb => ?_) (fun hb => ?_))
        | (intro hb)
        | (conv => whnf)))
      refine hK (s_F_finding ?_)
      iterate 30 (all_goals (first
        | (refine And.intro (by omega) ?_)
        | (refine And.intro (fun hb => absurd hb (by omega)) (fun hb => ?_))
        | (refine And.intro (fun hb => ?_) (fun hb => absurd hb (by omega)))
        | (refine And.intro (fun hb => ?_) (fun hb => ?_))
        | (intro hb)
        | (conv => whnf)))
      refine pr_i (by omega) (by simp +decide [am_up_ne, am_up_at, reduceIte]; exact hJ.1) ?_
      refine am_enter mt_M_block ok_M_block rfl ?_
      refine am_run 400 mt_M_block ok_M_block (fun K S hK hS => ?_)
      iterate 30 (all_goals (first
        | (refine And.intro (by omega) ?_)
        | (refine And.intro (fun hb => absurd hb (by omega)) (fun hb => ?_))
        | (refine And.intro (fun hb => ?_) (fun hb => absurd hb (by omega)))
        | (refine And.intro (fun hb => ?_) (fun hb => ?_))
        | (intro hb)
        | (conv => whnf)))
      refine hK (s_M_isPlace h0 (fun r2 hr2 => ?_))
      iterate 40 (all_goals (first
        | (refine And.intro (by omega) ?_)
        | (refine And.intro (by decide) ?_)
        | (refine And.intro (fun hb => absurd hb (by omega)) (fun hb => ?_))
        | (refine And.intro (fun hb => ?_) (fun hb => absurd hb (by omega)))
        | (refine And.intro (fun hb => ?_) (fun hb => ?_))
        | (intro hb)
        | (simp +decide only [am_up_ne, am_up_at, reduceIte])
        | (conv => whnf)))
      refine hK (s_M_found ?_)
      iterate 30 (all_goals (first
        | (refine And.intro (by omega) ?_)
        | (refine And.intro (fun hb => absurd hb (by omega)) (fun hb => ?_))
        | (refine And.intro (fun hb => ?_) (fun hb => absurd hb (by omega)))
        | (refine And.intro (fun hb => ?_) (fun hb => ?_))
        | (intro hb)
        | (conv => whnf)))
      first | exact pr_k (II_find2 hI (by omega)) | exact pr_k2 (II_find2 hI (by omega))
    · obtain ⟨ha, h2, h3, h4, h5, h6⟩ := e2
      have hkd := m_kd_rng h3.2.2.2.2.2
      have hn : V a 0 = n := h3.1
      have hn2 := h3.2.1
      have a_0 : 107 ≤ a := ha.1
      have a_l := th_lay ha
      have a_b := th_ble ha
      have a_q := th_beq ha
      have a_m := th_lay1 ha
      have a_c := th_ble1 ha
      have a_r := th_beq1 ha
      have a_R : am_RF sh a 2 = some (a + 1) := th_RF ha
      have a_z : Nat.beq (a + 1) 0 = false := rfl
      have a_3 : Nat.ble 3 (a + 1) = true := th_ble3 ha
      have a_i : ∀ r, am_isr 3 (vR a :: r) = true := th_isr ha
      refine am_enter mt_F_block ok_F_block rfl ?_
      refine am_run 400 mt_F_block ok_F_block (fun K S hK hS => ?_)
      iterate 30 (all_goals (first
        | (refine And.intro (by omega) ?_)
        | (refine And.intro (fun hb => absurd hb (by omega)) (fun hb => ?_))
        | (refine And.intro (fun hb => ?_) (fun hb => absurd hb (by omega)))
        | (refine And.intro (fun hb => ?_) (fun hb => ?_))
        | (intro hb)
        | (conv => whnf)))
      refine hK (s_F_noPlace h0 (fun r hr => ?_))
      by_cases hq : 0 ≤ q ∧ q < n
      · have hb2 := m_rgs_lt h3.2.2.1 hq.1 hq.2
        have e92 := h6 q hq.1 hq.2
        iterate 50 (all_goals (first
          | (refine am_aS e1 ?_)
          | (refine And.intro (by omega) ?_)
          | (refine And.intro (by decide) ?_)
          | (refine am_nN ?_)
          | (refine am_nS ?_)
          | (refine am_mN ?_)
          | (refine am_mS ?_)
          | (refine And.intro (fun hb => absurd hb (by omega)) (fun hb => ?_))
          | (refine And.intro (fun hb => ?_) (fun hb => absurd hb (by omega)))
          | (refine And.intro (fun hb => ?_) (fun hb => ?_))
          | (intro hb)
          | (refine am_if_mk (a_i _) ?_)
          | (simp only [a_l, a_b, a_q, a_m, a_c, a_r, a_R, a_z, a_3])
          | (conv => whnf)))
        refine hK (s_F_fine ?_)
        iterate 30 (all_goals (first
          | (refine And.intro (by omega) ?_)
          | (refine And.intro (fun hb => absurd hb (by omega)) (fun hb => ?_))
          | (refine And.intro (fun hb => ?_) (fun hb => absurd hb (by omega)))
          | (refine And.intro (fun hb => ?_) (fun hb => ?_))
          | (intro hb)
          | (conv => whnf)))
        refine pr_i (by omega) (by simp +decide [am_up_ne, am_up_at, reduceIte]; exact hJ.1) ?_
        refine am_enter mt_M_block ok_M_block rfl ?_
        refine am_run 400 mt_M_block ok_M_block (fun K S hK hS => ?_)
        iterate 30 (all_goals (first
          | (refine And.intro (by omega) ?_)
          | (refine And.intro (fun hb => absurd hb (by omega)) (fun hb => ?_))
          | (refine And.intro (fun hb => ?_) (fun hb => absurd hb (by omega)))
          | (refine And.intro (fun hb => ?_) (fun hb => ?_))
          | (intro hb)
          | (conv => whnf)))
        refine hK (s_M_isPlace h0 (fun r2 hr2 => ?_))
        iterate 40 (all_goals (first
          | (refine And.intro (by omega) ?_)
          | (refine And.intro (by decide) ?_)
          | (refine And.intro (fun hb => absurd hb (by omega)) (fun hb => ?_))
          | (refine And.intro (fun hb => ?_) (fun hb => absurd hb (by omega)))
          | (refine And.intro (fun hb => ?_) (fun hb => ?_))
          | (intro hb)
          | (simp +decide only [am_up_ne, am_up_at, reduceIte])
          | (conv => whnf)))
        refine hK (s_M_in (by omega) (by omega) (by omega) (fun r3 hr3 => ?_))
        iterate 40 (all_goals (first
          | (refine And.intro (by omega) ?_)
          | (refine And.intro (by decide) ?_)
          | (refine And.intro (fun hb => absurd hb (by omega)) (fun hb => ?_))
          | (refine And.intro (fun hb => ?_) (fun hb => absurd hb (by omega)))
          | (refine And.intro (fun hb => ?_) (fun hb => ?_))
          | (intro hb)
          | (simp +decide only [am_up_ne, am_up_at, reduceIte, e92])
          | (conv => whnf)))
        first | exact pr_k (II_find2 hI (by omega)) | exact pr_k2 (II_find2 hI (by omega))
      · iterate 50 (all_goals (first
          | (refine am_aS e1 ?_)
          | (refine And.intro (by omega) ?_)
          | (refine And.intro (by decide) ?_)
          | (refine am_nN ?_)
          | (refine am_nS ?_)
          | (refine am_mN ?_)
          | (refine am_mS ?_)
          | (refine And.intro (fun hb => absurd hb (by omega)) (fun hb => ?_))
          | (refine And.intro (fun hb => ?_) (fun hb => absurd hb (by omega)))
          | (refine And.intro (fun hb => ?_) (fun hb => ?_))
          | (intro hb)
          | (refine am_if_mk (a_i _) ?_)
          | (simp only [a_l, a_b, a_q, a_m, a_c, a_r, a_R, a_z, a_3])
          | (conv => whnf)))
        all_goals refine pr_i (by omega) hJ.1 ?_
        all_goals refine am_enter mt_M_block ok_M_block rfl ?_
        all_goals refine am_run 400 mt_M_block ok_M_block (fun K S hK hS => ?_)
        iterate 30 (all_goals (first
          | (refine And.intro (by omega) ?_)
          | (refine And.intro (fun hb => absurd hb (by omega)) (fun hb => ?_))
          | (refine And.intro (fun hb => ?_) (fun hb => absurd hb (by omega)))
          | (refine And.intro (fun hb => ?_) (fun hb => ?_))
          | (intro hb)
          | (conv => whnf)))
        all_goals refine hK (s_M_isPlace h0 (fun r2 hr2 => ?_))
        iterate 40 (all_goals (first
          | (refine And.intro (by omega) ?_)
          | (refine And.intro (by decide) ?_)
          | (refine And.intro (fun hb => absurd hb (by omega)) (fun hb => ?_))
          | (refine And.intro (fun hb => ?_) (fun hb => absurd hb (by omega)))
          | (refine And.intro (fun hb => ?_) (fun hb => ?_))
          | (intro hb)
          | (simp +decide only [am_up_ne, am_up_at, reduceIte])
          | (conv => whnf)))
        all_goals refine hK (s_M_in (by omega) (by omega) (by omega) (fun r3 hr3 => ?_))
        iterate 40 (all_goals (first
          | (refine And.intro (by omega) ?_)
          | (refine And.intro (fun hb => absurd hb (by omega)) (fun hb => ?_))
          | (refine And.intro (fun hb => ?_) (fun hb => absurd hb (by omega)))
          | (refine And.intro (fun hb => ?_) (fun hb => ?_))
          | (intro hb)
          | (conv => whnf)))
        all_goals exact pr_k (II_bad hI)
  · refine am_enter mt_F_block ok_F_block rfl ?_
    refine am_run 400 mt_F_block ok_F_block (fun K S hK hS => ?_)
    iterate 30 (all_goals (first
      | (refine And.intro (by omega) ?_)
      | (refine And.intro (fun hb => absurd hb (by omega)) (fun hb => ?_))
      | (refine And.intro (fun hb => ?_) (fun hb => absurd hb (by omega)))
      | (refine And.intro (fun hb => ?_) (fun hb => ?_))
      | (intro hb)
      | (conv => whnf)))
    refine hK (s_F_noPlace h0 (fun r hr => ?_))
    iterate 30 (all_goals (first
      | (refine And.intro (by omega) ?_)
      | (refine And.intro (fun hb => absurd hb (by omega)) (fun hb => ?_))
      | (refine And.intro (fun hb => ?_) (fun hb => absurd hb (by omega)))
      | (refine And.intro (fun hb => ?_) (fun hb => ?_))
      | (intro hb)
      | (conv => whnf)))
    refine pr_i (by omega) hJ.1 ?_
    refine am_enter mt_M_block ok_M_block rfl ?_
    refine am_run 400 mt_M_block ok_M_block (fun K S hK hS => ?_)
    iterate 30 (all_goals (first
      | (refine And.intro (by omega) ?_)
      | (refine And.intro (fun hb => absurd hb (by omega)) (fun hb => ?_))
      | (refine And.intro (fun hb => ?_) (fun hb => absurd hb (by omega)))
      | (refine And.intro (fun hb => ?_) (fun hb => ?_))
      | (intro hb)
      | (conv => whnf)))
    refine hK (s_M_isPlace h0 (fun r2 hr2 => ?_))
    iterate 30 (all_goals (first
      | (refine And.intro (by omega) ?_)
      | (refine And.intro (fun hb => absurd hb (by omega)) (fun hb => ?_))
      | (refine And.intro (fun hb => ?_) (fun hb => absurd hb (by omega)))
      | (refine And.intro (fun hb => ?_) (fun hb => ?_))
      | (intro hb)
      | (conv => whnf)))
    first | exact pr_k (II_bad hI) | exact pr_k2 (II_bad hI)
theorem pr_trace {G : am_G} {d : Nat} {sh : Int → Option Nat} {V : am_V} {T : Nat} {p : Int} {f0 : Int → Int} {i : Int} (hI : II V sh T p f0) (h0 : am_in32 i) : am_Calls G (d + 9) 14 [vR 3, vI i] V (am_RF sh) T (pr_int G (d + 9) 108 [vR 86, vI i] p f0) := by
  have hJ := hI.1
  obtain ⟨t1, t2, t3⟩ := hJ.2.2.2.2.1
  by_cases hi : 0 ≤ i ∧ i < V 3 8
  · have e := t3 i hi.1 hi.2
    refine am_enter mt_F_trace ok_F_trace rfl ?_
    refine am_run 400 mt_F_trace ok_F_trace (fun K S hK hS => ?_)
    iterate 30 (all_goals (first
      | (refine And.intro (by omega) ?_)
      | (refine And.intro (fun hb => absurd hb (by omega)) (fun hb => ?_))
      | (refine And.intro (fun hb => ?_) (fun hb => absurd hb (by omega)))
      | (refine And.intro (fun hb => ?_) (fun hb => ?_))
      | (intro hb)
      | (conv => whnf)))
    refine pr_i (by omega) hJ.1 ?_
    refine am_enter mt_M_trace ok_M_trace rfl ?_
    refine am_run 400 mt_M_trace ok_M_trace (fun K S hK hS => ?_)
    iterate 30 (all_goals (first
      | (refine And.intro (by omega) ?_)
      | (refine And.intro (by decide) ?_)
      | (refine And.intro (fun hb => absurd hb (by omega)) (fun hb => ?_))
      | (refine And.intro (fun hb => ?_) (fun hb => absurd hb (by omega)))
      | (refine And.intro (fun hb => ?_) (fun hb => ?_))
      | (intro hb)
      | (simp +decide only [am_up_ne, am_up_at, reduceIte])
      | (conv => whnf)))
    refine hK (s_M_in (by omega) (by omega) (by omega) (fun r3 hr3 => ?_))
    iterate 40 (all_goals (first
      | (refine And.intro (by omega) ?_)
      | (refine And.intro (by decide) ?_)
      | (refine And.intro (fun hb => absurd hb (by omega)) (fun hb => ?_))
      | (refine And.intro (fun hb => ?_) (fun hb => absurd hb (by omega)))
      | (refine And.intro (fun hb => ?_) (fun hb => ?_))
      | (intro hb)
      | (simp +decide only [am_up_ne, am_up_at, reduceIte, e.2])
      | (conv => whnf)))
    first | exact pr_k (II_bad hI) | exact pr_k2 (II_bad hI)
  · refine am_enter mt_F_trace ok_F_trace rfl ?_
    refine am_run 400 mt_F_trace ok_F_trace (fun K S hK hS => ?_)
    iterate 30 (all_goals (first
      | (refine And.intro (by omega) ?_)
      | (refine And.intro (fun hb => absurd hb (by omega)) (fun hb => ?_))
      | (refine And.intro (fun hb => ?_) (fun hb => absurd hb (by omega)))
      | (refine And.intro (fun hb => ?_) (fun hb => ?_))
      | (intro hb)
      | (conv => whnf)))
    all_goals refine pr_i (by omega) hJ.1 ?_
    all_goals refine am_enter mt_M_trace ok_M_trace rfl ?_
    all_goals refine am_run 400 mt_M_trace ok_M_trace (fun K S hK hS => ?_)
    iterate 30 (all_goals (first
      | (refine And.intro (by omega) ?_)
      | (refine And.intro (by decide) ?_)
      | (refine And.intro (fun hb => absurd hb (by omega)) (fun hb => ?_))
      | (refine And.intro (fun hb => ?_) (fun hb => absurd hb (by omega)))
      | (refine And.intro (fun hb => ?_) (fun hb => ?_))
      | (intro hb)
      | (simp +decide only [am_up_ne, am_up_at, reduceIte])
      | (conv => whnf)))
    all_goals refine hK (s_M_in (by omega) (by omega) (by omega) (fun r3 hr3 => ?_))
    iterate 30 (all_goals (first
      | (refine And.intro (by omega) ?_)
      | (refine And.intro (fun hb => absurd hb (by omega)) (fun hb => ?_))
      | (refine And.intro (fun hb => ?_) (fun hb => absurd hb (by omega)))
      | (refine And.intro (fun hb => ?_) (fun hb => ?_))
      | (intro hb)
      | (conv => whnf)))
    all_goals exact pr_k (II_bad hI)
theorem pr_status {G : am_G} {d : Nat} {sh : Int → Option Nat} {V : am_V} {T : Nat} {p : Int} {f0 : Int → Int} (hI : II V sh T p f0) : am_Calls G (d + 9) 29 [vR 3] V (am_RF sh) T (pr_int G (d + 9) 138 [vR 86] p f0) := by
  have hJ := hI.1
  obtain ⟨s1, s2, s3⟩ := hI.2
  refine am_enter mt_F_status ok_F_status rfl ?_
  refine am_run 400 mt_F_status ok_F_status (fun K S hK hS => ?_)
  iterate 30 (all_goals (first
    | (refine And.intro (by omega) ?_)
    | (refine And.intro (fun hb => absurd hb (by omega)) (fun hb => ?_))
    | (refine And.intro (fun hb => ?_) (fun hb => absurd hb (by omega)))
    | (refine And.intro (fun hb => ?_) (fun hb => ?_))
    | (intro hb)
    | (conv => whnf)))
  refine pr_i (by omega) hJ.1 ?_
  refine am_enter mt_M_status ok_M_status rfl ?_
  refine am_run 400 mt_M_status ok_M_status (fun K S hK hS => ?_)
  iterate 30 (all_goals (first
    | (refine And.intro (by omega) ?_)
    | (refine And.intro (by decide) ?_)
    | (refine And.intro (fun hb => absurd hb (by omega)) (fun hb => ?_))
    | (refine And.intro (fun hb => ?_) (fun hb => absurd hb (by omega)))
    | (refine And.intro (fun hb => ?_) (fun hb => ?_))
    | (intro hb)
    | (simp +decide only [am_up_ne, am_up_at, reduceIte])
    | (conv => whnf)))
  rw [s1]
  first | exact pr_k (II_bad hI) | exact pr_k2 (II_bad hI)
