/-! places: as, finer, count -/
theorem m_nb_eq {g h : Int → Int} {n r : Int} (w : m_nb g n r) (e : ∀ i, 0 ≤ i → i < n → g i = h i) : m_nb h n r := by
  obtain ⟨a1, a2, a3⟩ := w
  refine ⟨a1, fun i b1 b2 => by rw [← e i b1 b2]; exact a2 i b1 b2, ?_⟩
  rcases a3 with a3 | ⟨i, i1, i2, i3⟩
  · exact Or.inl a3
  · exact Or.inr ⟨i, i1, i2, by rw [← e i i1 i2]; exact i3⟩
theorem s_M_blocksAt {G : am_G} {d : Nat} {sh : Int → Option Nat} {V : am_V} {T : Nat} {Q : Option AV → am_V → am_T → Nat → Prop} {k n : Int} (hk : 0 ≤ k ∧ k < 10) (hn : V 91 k = n) (h1 : 1 ≤ n ∧ n ≤ 10) (hr : ∀ j, 0 ≤ j → j < n → 0 ≤ V 92 (10 * k + j) ∧ V 92 (10 * k + j) < 10) (hQ : ∀ V' r, (∀ a, a ≠ 93 → V' a = V a) → m_nb (fun j => V 92 (10 * k + j)) n r → Q (some (vI r)) V' (am_RF sh) T) : am_Calls G (d + 2) 101 [vR 86, vI k] V (am_RF sh) T Q := by
  refine am_enter mt_M_blocksAt ok_M_blocksAt rfl ?_
  refine am_run 400 mt_M_blocksAt ok_M_blocksAt (fun K S hK hS => ?_)
  iterate 30 (all_goals (first
    | (refine And.intro (by omega) ?_)
    | (refine And.intro (fun hb => absurd hb (by omega)) (fun hb => ?_))
    | (refine And.intro (fun hb => ?_) (fun hb => absurd hb (by omega)))
    | (refine And.intro (fun hb => ?_) (fun hb => ?_))
    | (intro hb)
    | (conv => whnf)))
  refine hK (s_M_load (n := n) hk (by omega) hn (by omega) (fun W w1 w2 w3 => ?_))
  have e91 : W 91 k = n := by rw [w1 91 (by decide)]; exact hn
  iterate 30 (all_goals (first
    | (refine And.intro (by omega) ?_)
    | (refine And.intro (by decide) ?_)
    | (refine And.intro (fun hb => absurd hb (by omega)) (fun hb => ?_))
    | (refine And.intro (fun hb => ?_) (fun hb => absurd hb (by omega)))
    | (refine And.intro (fun hb => ?_) (fun hb => ?_))
    | (intro hb)
    | (simp only [e91])
    | (conv => whnf)))
  have w2' : ∀ i, 0 ≤ i → i < n → W 93 (0 + i) = V 92 (10 * k + i) := w2
  refine hK (s_M_blocks (by omega) (by omega) (by omega) (fun i a b => by rw [w2' i a b]; have := hr i a b; omega) (fun r r0 r1 r2 => ?_))
  iterate 30 (all_goals (first
    | (refine And.intro (by omega) ?_)
    | (refine And.intro (fun hb => absurd hb (by omega)) (fun hb => ?_))
    | (refine And.intro (fun hb => ?_) (fun hb => absurd hb (by omega)))
    | (refine And.intro (fun hb => ?_) (fun hb => ?_))
    | (intro hb)
    | (conv => whnf)))
  refine hQ W r w1 (m_nb_eq (g := fun i => W 93 (0 + i)) ⟨r0, r1, r2⟩ w2')
theorem pr_as {G : am_G} {d : Nat} {sh : Int → Option Nat} {V : am_V} {T : Nat} {p : Int} {f0 : Int → Int} {k q : Int} (hI : II V sh T p f0) (h0 : am_in32 k) (h1 : am_in32 q) : am_Calls G (d + 9) 12 [vR 3, vI k, vI q] V (am_RF sh) T (pr_int G (d + 9) 102 [vR 86, vI k, vI q] p f0) := by
  have hJ := hI.1
  by_cases hk : (0 ≤ k ∧ k < 10) ∧ 0 ≤ q ∧ q ≤ 4
  · rcases hJ.2.2.2.1.2 k hk.1.1 hk.1.2 with ⟨e1, e2⟩ | ⟨a, n, e1, e2⟩
    · refine am_enter mt_F_as ok_F_as rfl ?_
      refine am_run 400 mt_F_as ok_F_as (fun K S hK hS => ?_)
      iterate 30 (all_goals (first
        | (refine And.intro (by omega) ?_)
        | (refine And.intro (fun hb => absurd hb (by omega)) (fun hb => ?_))
        | (refine And.intro (fun hb => ?_) (fun hb => absurd hb (by omega)))
        | (refine And.intro (fun hb => ?_) (fun hb => ?_))
        | (intro hb)
        | (conv => whnf)))
      refine hK (s_F_noPlace h0 (fun r hr => ?_))
      iterate 40 (all_goals (first
        | (refine am_aN e1 ?_)
        | (refine And.intro (by omega) ?_)
        | (refine am_nN ?_)
        | (refine am_nS ?_)
        | (refine am_mN ?_)
        | (refine am_mS ?_)
        | (refine And.intro (fun hb => absurd hb (by omega)) (fun hb => ?_))
        | (refine And.intro (fun hb => ?_) (fun hb => absurd hb (by omega)))
        | (refine And.intro (fun hb => ?_) (fun hb => ?_))
        | (intro hb)
        | (conv => whnf)))
      refine hK (s_F_finding ?_)
      iterate 30 (all_goals (first
        | (refine And.intro (by omega) ?_)
        | (refine And.intro (fun hb => absurd hb (by omega)) (fun hb => ?_))
        | (refine And.intro (fun hb => ?_) (fun hb => absurd hb (by omega)))
        | (refine And.intro (fun hb => ?_) (fun hb => ?_))
        | (intro hb)
        | (conv => whnf)))
      refine pr_i (by omega) (by simp +decide [am_up_ne, am_up_at, reduceIte]; exact hJ.1) ?_
      refine am_enter mt_M_as ok_M_as rfl ?_
      refine am_run 400 mt_M_as ok_M_as (fun K S hK hS => ?_)
      iterate 30 (all_goals (first
        | (refine And.intro (by omega) ?_)
        | (refine And.intro (fun hb => absurd hb (by omega)) (fun hb => ?_))
        | (refine And.intro (fun hb => ?_) (fun hb => absurd hb (by omega)))
        | (refine And.intro (fun hb => ?_) (fun hb => ?_))
        | (intro hb)
        | (conv => whnf)))
      refine hK (s_M_isPlace h0 (fun r2 hr2 => ?_))
      iterate 30 (all_goals (first
        | (refine And.intro (by omega) ?_)
        | (refine And.intro (by decide) ?_)
        | (refine And.intro (fun hb => absurd hb (by omega)) (fun hb => ?_))
        | (refine And.intro (fun hb => ?_) (fun hb => absurd hb (by omega)))
        | (refine And.intro (fun hb => ?_) (fun hb => ?_))
        | (intro hb)
        | (simp +decide only [am_up_ne, am_up_at, reduceIte])
        | (conv => whnf)))
      refine hK (s_M_in (by omega) (by omega) (by omega) (fun r3 hr3 => ?_))
      iterate 30 (all_goals (first
        | (refine And.intro (by omega) ?_)
        | (refine And.intro (fun hb => absurd hb (by omega)) (fun hb => ?_))
        | (refine And.intro (fun hb => ?_) (fun hb => absurd hb (by omega)))
        | (refine And.intro (fun hb => ?_) (fun hb => ?_))
        | (intro hb)
        | (conv => whnf)))
      have e90 : am_up (am_up (am_up V 3 17 1) 86 0 0) 86 1 0 90 k = V 90 k := by simp +decide [am_up_ne, am_up_at, reduceIte]
      refine hK (s_M_asked hk.1 (by rw [e90]; omega) h1 (fun r4 hr4 => ?_))
      rw [e90] at hr4
      iterate 30 (all_goals (first
        | (refine And.intro (by omega) ?_)
        | (refine And.intro (fun hb => absurd hb (by omega)) (fun hb => ?_))
        | (refine And.intro (fun hb => ?_) (fun hb => absurd hb (by omega)))
        | (refine And.intro (fun hb => ?_) (fun hb => ?_))
        | (intro hb)
        | (conv => whnf)))
      refine hK (s_M_found ?_)
      obtain rfl : r4 = 1 := by omega
      iterate 30 (all_goals (first
        | (refine And.intro (by omega) ?_)
        | (refine And.intro (fun hb => absurd hb (by omega)) (fun hb => ?_))
        | (refine And.intro (fun hb => ?_) (fun hb => absurd hb (by omega)))
        | (refine And.intro (fun hb => ?_) (fun hb => ?_))
        | (intro hb)
        | (conv => whnf)))
      first | exact pr_k (II_find hI (by omega)) | exact pr_k2 (II_find hI (by omega))
    · obtain ⟨ha, h2, h3, h4, h5, h6⟩ := e2
      have hkd := m_kd_rng h3.2.2.2.2.2
      have hn2 := h3.2.1
      have hnb := h3.2.2.2.1
      have hnr : 0 ≤ V a 1 ∧ V a 1 ≤ 10 := by
        refine ⟨hnb.1, ?_⟩
        rcases hnb.2.2 with e | ⟨i, i1, i2, i3⟩
        · omega
        · have := m_rgs_lt h3.2.2.1 i1 i2
          omega
      have hr92 : ∀ j, 0 ≤ j → j < n → 0 ≤ V 92 (10 * k + j) ∧ V 92 (10 * k + j) < 10 := fun j a b => by
        rw [h6 j a b]
        have := m_rgs_lt h3.2.2.1 a b
        omega
      have a_0 : 107 ≤ a := ha.1
      have a_l := th_lay ha
      have a_b := th_ble ha
      have a_q := th_beq ha
      have a_m := th_lay1 ha
      have a_c := th_ble1 ha
      have a_r := th_beq1 ha
      have a_R : am_RF sh a 2 = some (a + 1) := th_RF ha
      have a_z : Nat.beq (a + 1) 0 = false := rfl
      have a_3 : Nat.ble 3 (a + 1) = true := th_ble3 ha
      have a_i : ∀ r, am_isr 3 (vR a :: r) = true := th_isr ha
      refine am_enter mt_F_as ok_F_as rfl ?_
      refine am_run 400 mt_F_as ok_F_as (fun K S hK hS => ?_)
      iterate 30 (all_goals (first
        | (refine And.intro (by omega) ?_)
        | (refine And.intro (fun hb => absurd hb (by omega)) (fun hb => ?_))
        | (refine And.intro (fun hb => ?_) (fun hb => absurd hb (by omega)))
        | (refine And.intro (fun hb => ?_) (fun hb => ?_))
        | (intro hb)
        | (conv => whnf)))
      refine hK (s_F_noPlace h0 (fun r hr => ?_))
      iterate 40 (all_goals (first
        | (refine am_aS e1 ?_)
        | (refine And.intro (by omega) ?_)
        | (refine And.intro (by decide) ?_)
        | (refine am_nN ?_)
        | (refine am_nS ?_)
        | (refine am_mN ?_)
        | (refine am_mS ?_)
        | (refine And.intro (fun hb => absurd hb (by omega)) (fun hb => ?_))
        | (refine And.intro (fun hb => ?_) (fun hb => absurd hb (by omega)))
        | (refine And.intro (fun hb => ?_) (fun hb => ?_))
        | (intro hb)
        | (refine am_if_mk (a_i _) ?_)
        | (simp only [a_l, a_b, a_q, a_m, a_c, a_r, a_R, a_z, a_3])
        | (conv => whnf)))
      refine hK (s_T_isOf ha h1 hkd (fun r5 hr5 => ?_))
      iterate 40 (all_goals (first
        | (refine And.intro (by omega) ?_)
        | (refine And.intro (by decide) ?_)
        | (refine am_nN ?_)
        | (refine am_nS ?_)
        | (refine am_mN ?_)
        | (refine am_mS ?_)
        | (refine And.intro (fun hb => absurd hb (by omega)) (fun hb => ?_))
        | (refine And.intro (fun hb => ?_) (fun hb => absurd hb (by omega)))
        | (refine And.intro (fun hb => ?_) (fun hb => ?_))
        | (intro hb)
        | (refine am_if_mk (a_i _) ?_)
        | (simp only [a_l, a_b, a_q, a_m, a_c, a_r, a_R, a_z, a_3])
        | (conv => whnf)))
      · refine hK (s_F_finding ?_)
        iterate 30 (all_goals (first
          | (refine And.intro (by omega) ?_)
          | (refine And.intro (fun hb => absurd hb (by omega)) (fun hb => ?_))
          | (refine And.intro (fun hb => ?_) (fun hb => absurd hb (by omega)))
          | (refine And.intro (fun hb => ?_) (fun hb => ?_))
          | (intro hb)
          | (conv => whnf)))
        refine pr_i (by omega) (by simp +decide [am_up_ne, am_up_at, reduceIte]; exact hJ.1) ?_
        refine am_enter mt_M_as ok_M_as rfl ?_
        refine am_run 400 mt_M_as ok_M_as (fun K S hK hS => ?_)
        iterate 30 (all_goals (first
          | (refine And.intro (by omega) ?_)
          | (refine And.intro (fun hb => absurd hb (by omega)) (fun hb => ?_))
          | (refine And.intro (fun hb => ?_) (fun hb => absurd hb (by omega)))
          | (refine And.intro (fun hb => ?_) (fun hb => ?_))
          | (intro hb)
          | (conv => whnf)))
        refine hK (s_M_isPlace h0 (fun r2 hr2 => ?_))
        iterate 30 (all_goals (first
          | (refine And.intro (by omega) ?_)
          | (refine And.intro (by decide) ?_)
          | (refine And.intro (fun hb => absurd hb (by omega)) (fun hb => ?_))
          | (refine And.intro (fun hb => ?_) (fun hb => absurd hb (by omega)))
          | (refine And.intro (fun hb => ?_) (fun hb => ?_))
          | (intro hb)
          | (simp +decide only [am_up_ne, am_up_at, reduceIte])
          | (conv => whnf)))
        refine hK (s_M_in (by omega) (by omega) (by omega) (fun r3 hr3 => ?_))
        iterate 30 (all_goals (first
          | (refine And.intro (by omega) ?_)
          | (refine And.intro (fun hb => absurd hb (by omega)) (fun hb => ?_))
          | (refine And.intro (fun hb => ?_) (fun hb => absurd hb (by omega)))
          | (refine And.intro (fun hb => ?_) (fun hb => ?_))
          | (intro hb)
          | (conv => whnf)))
        have e90 : am_up (am_up (am_up V 3 17 3) 86 0 0) 86 1 0 90 k = V 90 k := by simp +decide [am_up_ne, am_up_at, reduceIte]
        refine hK (s_M_asked hk.1 (by rw [e90]; omega) h1 (fun r4 hr4 => ?_))
        rw [e90] at hr4
        obtain rfl : r4 = 3 := by omega
        iterate 30 (all_goals (first
          | (refine And.intro (by omega) ?_)
          | (refine And.intro (fun hb => absurd hb (by omega)) (fun hb => ?_))
          | (refine And.intro (fun hb => ?_) (fun hb => absurd hb (by omega)))
          | (refine And.intro (fun hb => ?_) (fun hb => ?_))
          | (intro hb)
          | (conv => whnf)))
        refine hK (s_M_found ?_)
        iterate 30 (all_goals (first
          | (refine And.intro (by omega) ?_)
          | (refine And.intro (fun hb => absurd hb (by omega)) (fun hb => ?_))
          | (refine And.intro (fun hb => ?_) (fun hb => absurd hb (by omega)))
          | (refine And.intro (fun hb => ?_) (fun hb => ?_))
          | (intro hb)
          | (conv => whnf)))
        first | exact pr_k (II_find hI (by omega)) | exact pr_k2 (II_find hI (by omega))
      · refine hK (s_F_fine ?_)
        iterate 30 (all_goals (first
          | (refine And.intro (by omega) ?_)
          | (refine And.intro (fun hb => absurd hb (by omega)) (fun hb => ?_))
          | (refine And.intro (fun hb => ?_) (fun hb => absurd hb (by omega)))
          | (refine And.intro (fun hb => ?_) (fun hb => ?_))
          | (intro hb)
          | (conv => whnf)))
        refine pr_i (by omega) (by simp +decide [am_up_ne, am_up_at, reduceIte]; exact hJ.1) ?_
        refine am_enter mt_M_as ok_M_as rfl ?_
        refine am_run 400 mt_M_as ok_M_as (fun K S hK hS => ?_)
        iterate 30 (all_goals (first
          | (refine And.intro (by omega) ?_)
          | (refine And.intro (fun hb => absurd hb (by omega)) (fun hb => ?_))
          | (refine And.intro (fun hb => ?_) (fun hb => absurd hb (by omega)))
          | (refine And.intro (fun hb => ?_) (fun hb => ?_))
          | (intro hb)
          | (conv => whnf)))
        refine hK (s_M_isPlace h0 (fun r2 hr2 => ?_))
        iterate 30 (all_goals (first
          | (refine And.intro (by omega) ?_)
          | (refine And.intro (by decide) ?_)
          | (refine And.intro (fun hb => absurd hb (by omega)) (fun hb => ?_))
          | (refine And.intro (fun hb => ?_) (fun hb => absurd hb (by omega)))
          | (refine And.intro (fun hb => ?_) (fun hb => ?_))
          | (intro hb)
          | (simp +decide only [am_up_ne, am_up_at, reduceIte])
          | (conv => whnf)))
        refine hK (s_M_in (by omega) (by omega) (by omega) (fun r3 hr3 => ?_))
        iterate 30 (all_goals (first
          | (refine And.intro (by omega) ?_)
          | (refine And.intro (fun hb => absurd hb (by omega)) (fun hb => ?_))
          | (refine And.intro (fun hb => ?_) (fun hb => absurd hb (by omega)))
          | (refine And.intro (fun hb => ?_) (fun hb => ?_))
          | (intro hb)
          | (conv => whnf)))
        have e90 : am_up (am_up (am_up V 3 17 0) 86 0 0) 86 1 0 90 k = V 90 k := by simp +decide [am_up_ne, am_up_at, reduceIte]
        refine hK (s_M_asked hk.1 (by rw [e90]; omega) h1 (fun r4 hr4 => ?_))
        rw [e90] at hr4
        obtain rfl : r4 = 0 := by omega
        iterate 30 (all_goals (first
          | (refine And.intro (by omega) ?_)
          | (refine And.intro (fun hb => absurd hb (by omega)) (fun hb => ?_))
          | (refine And.intro (fun hb => ?_) (fun hb => absurd hb (by omega)))
          | (refine And.intro (fun hb => ?_) (fun hb => ?_))
          | (intro hb)
          | (conv => whnf)))
        refine hK (s_M_blocksAt (n := n) hk.1 (by simp +decide [am_up_ne, am_up_at, reduceIte]; exact h5) hn2 (by simp +decide only [am_up_ne, am_up_at, reduceIte]; exact hr92) (fun W r6 w1 w2 => ?_))
        have w2' : m_nb (fun j => V 92 (10 * k + j)) n r6 := by
          have e92 : am_up (am_up (am_up V 3 17 0) 86 0 0) 86 1 0 92 = V 92 := by simp +decide [am_up_ne, am_up_at, reduceIte]
          rw [e92] at w2
          exact w2
        have er : r6 = V a 1 := m_nb_uniq w2' (m_nb_eq hnb (fun i a b => (h6 i a b).symm))
        subst er
        iterate 30 (all_goals (first
          | (refine And.intro (by omega) ?_)
          | (refine And.intro (fun hb => absurd hb (by omega)) (fun hb => ?_))
          | (refine And.intro (fun hb => ?_) (fun hb => absurd hb (by omega)))
          | (refine And.intro (fun hb => ?_) (fun hb => ?_))
          | (intro hb)
          | (conv => whnf)))
        first | exact pr_k (II_rd (II_find2 (c := 0) hI (by omega)) (fun a q => w1 a (by omega)) (fun j q => by rw [w1 3 (by decide)]) (fun j q1 q2 => by rw [w1 86 (by decide)]) (w1 65 (by decide)) (w1 76 (by decide)) (by rw [w1 86 (by decide), w1 3 (by decide)]; simp +decide [am_up_ne, am_up_at, reduceIte])) | exact pr_k2 (II_rd (II_find2 (c := 0) hI (by omega)) (fun a q => w1 a (by omega)) (fun j q => by rw [w1 3 (by decide)]) (fun j q1 q2 => by rw [w1 86 (by decide)]) (w1 65 (by decide)) (w1 76 (by decide)) (by rw [w1 86 (by decide), w1 3 (by decide)]; simp +decide [am_up_ne, am_up_at, reduceIte]))
  · refine am_enter mt_F_as ok_F_as rfl ?_
    refine am_run 400 mt_F_as ok_F_as (fun K S hK hS => ?_)
    iterate 30 (all_goals (first
      | (refine And.intro (by omega) ?_)
      | (refine And.intro (fun hb => absurd hb (by omega)) (fun hb => ?_))
      | (refine And.intro (fun hb => ?_) (fun hb => absurd hb (by omega)))
      | (refine And.intro (fun hb => ?_) (fun hb => ?_))
      | (intro hb)
      | (conv => whnf)))
    refine hK (s_F_noPlace h0 (fun r hr => ?_))
    iterate 30 (all_goals (first
      | (refine And.intro (by omega) ?_)
      | (refine And.intro (fun hb => absurd hb (by omega)) (fun hb => ?_))
      | (refine And.intro (fun hb => ?_) (fun hb => absurd hb (by omega)))
      | (refine And.intro (fun hb => ?_) (fun hb => ?_))
      | (intro hb)
      | (conv => whnf)))
    all_goals refine pr_i (by omega) hJ.1 ?_
    all_goals refine am_enter mt_M_as ok_M_as rfl ?_
    all_goals refine am_run 400 mt_M_as ok_M_as (fun K S hK hS => ?_)
    iterate 30 (all_goals (first
      | (refine And.intro (by omega) ?_)
      | (refine And.intro (fun hb => absurd hb (by omega)) (fun hb => ?_))
      | (refine And.intro (fun hb => ?_) (fun hb => absurd hb (by omega)))
      | (refine And.intro (fun hb => ?_) (fun hb => ?_))
      | (intro hb)
      | (conv => whnf)))
    all_goals refine hK (s_M_isPlace h0 (fun r2 hr2 => ?_))
    iterate 30 (all_goals (first
      | (refine And.intro (by omega) ?_)
      | (refine And.intro (fun hb => absurd hb (by omega)) (fun hb => ?_))
      | (refine And.intro (fun hb => ?_) (fun hb => absurd hb (by omega)))
      | (refine And.intro (fun hb => ?_) (fun hb => ?_))
      | (intro hb)
      | (conv => whnf)))
    all_goals first
      | exact pr_k (II_bad hI)
      | refine hK (s_M_in (by omega) (by omega) (by omega) (fun r3 hr3 => ?_))
    iterate 30 (all_goals (first
      | (refine And.intro (by omega) ?_)
      | (refine And.intro (fun hb => absurd hb (by omega)) (fun hb => ?_))
      | (refine And.intro (fun hb => ?_) (fun hb => absurd hb (by omega)))
      | (refine And.intro (fun hb => ?_) (fun hb => ?_))
      | (intro hb)
      | (conv => whnf)))
    all_goals exact pr_k (II_bad hI)
theorem s_T_isFinerThan {G : am_G} {d : Nat} {sh : Int → Option Nat} {V : am_V} {T : Nat} {Q : Option AV → am_V → am_T → Nat → Prop} {a b : Nat} {n : Int} (ha : th_pl a) (hb : th_pl b) (h1 : 1 ≤ n ∧ n ≤ 10) (ea : V a 0 = n) (eb : V b 0 = n) (ra : ∀ i, 0 ≤ i → i < n → 0 ≤ V (a + 1) i ∧ V (a + 1) i < 10) (rb : ∀ i, 0 ≤ i → i < n → 0 ≤ V (b + 1) i ∧ V (b + 1) i < 10) (hQ1 : m_fin (V (a + 1)) (V (b + 1)) n → Q (some (vI 1)) V (am_RF sh) T) (hQ0 : ¬ m_fin (V (a + 1)) (V (b + 1)) n → Q (some (vI 0)) V (am_RF sh) T) : am_Calls G (d + 2) 162 [vR a, vR b] V (am_RF sh) T Q := by
  have a_0 : 107 ≤ a := ha.1
  have a_l := th_lay ha
  have a_b := th_ble ha
  have a_q := th_beq ha
  have a_m := th_lay1 ha
  have a_c := th_ble1 ha
  have a_r := th_beq1 ha
  have a_R : am_RF sh a 2 = some (a + 1) := th_RF ha
  have a_z : Nat.beq (a + 1) 0 = false := rfl
  have a_3 : Nat.ble 3 (a + 1) = true := th_ble3 ha
  have a_i : ∀ r, am_isr 3 (vR a :: r) = true := th_isr ha
  have b_0 : 107 ≤ b := hb.1
  have b_l := th_lay hb
  have b_b := th_ble hb
  have b_q := th_beq hb
  have b_m := th_lay1 hb
  have b_c := th_ble1 hb
  have b_r := th_beq1 hb
  have b_R : am_RF sh b 2 = some (b + 1) := th_RF hb
  have b_z : Nat.beq (b + 1) 0 = false := rfl
  have b_3 : Nat.ble 3 (b + 1) = true := th_ble3 hb
  have b_i : ∀ r, am_isr 3 (vR b :: r) = true := th_isr hb
  refine am_enter mt_T_isFinerThan ok_T_isFinerThan rfl ?_
  have loop : ∀ (j : Nat) (k : Int) (x4 : Option AV), 0 ≤ k → k ≤ n → n - k < j → (∀ x y, 0 ≤ x → x < y → y < k → V (a + 1) x = V (a + 1) y → V (b + 1) x = V (b + 1) y) → am_Sem G (d + 1) 162 V T Q 14 [some (vR a), some (vR b), some (vI n), some (vI k), x4] [] V (am_RF sh) T 0 0 := by
    intro j
    induction j with
    | zero => intro k x4 q1 q2 q3; omega
    | succ j ih =>
      intro k x4 q1 q2 q3 w
      by_cases hkn : k = n
      · subst hkn
        refine am_run 400 mt_T_isFinerThan ok_T_isFinerThan (fun K S hK hS => ?_)
        iterate 30 (all_goals (first
          | (refine And.intro (by omega) ?_)
          | (refine And.intro (by decide) ?_)
          | (refine And.intro (fun hb => absurd hb (by omega)) (fun hb => ?_))
          | (refine And.intro (fun hb => ?_) (fun hb => absurd hb (by omega)))
          | (refine And.intro (fun hb => ?_) (fun hb => ?_))
          | (intro hb)
          | (refine am_if_mk (a_i _) ?_)
          | (refine am_if_mk (b_i _) ?_)
          | (simp only [a_l, a_b, a_q, a_m, a_c, a_r, a_R, a_z, a_3, b_l, b_b, b_q, b_m, b_c, b_r, b_R, b_z, b_3])
          | (conv => whnf)))
        exact hQ1 w
      have inner : ∀ (j2 : Nat) (x : Int), 0 ≤ x → x ≤ k → k - x < j2 → (∀ x', 0 ≤ x' → x' < x → V (a + 1) x' = V (a + 1) k → V (b + 1) x' = V (b + 1) k) → am_Sem G (d + 1) 162 V T Q 22 [some (vR a), some (vR b), some (vI n), some (vI k), some (vI x)] [] V (am_RF sh) T 0 0 := by
        intro j2
        induction j2 with
        | zero => intro x q1 q2 q3; omega
        | succ j2 ih2 =>
          intro x p1 p2 p3 w2
          by_cases hxk : x = k
          · refine am_run 400 mt_T_isFinerThan ok_T_isFinerThan (fun K S hK hS => ?_)
            iterate 30 (all_goals (first
              | (refine And.intro (by omega) ?_)
              | (refine And.intro (by decide) ?_)
              | (refine And.intro (fun hb => absurd hb (by omega)) (fun hb => ?_))
              | (refine And.intro (fun hb => ?_) (fun hb => absurd hb (by omega)))
              | (refine And.intro (fun hb => ?_) (fun hb => ?_))
              | (intro hb)
              | (refine am_if_mk (a_i _) ?_)
              | (refine am_if_mk (b_i _) ?_)
              | (simp only [a_l, a_b, a_q, a_m, a_c, a_r, a_R, a_z, a_3, b_l, b_b, b_q, b_m, b_c, b_r, b_R, b_z, b_3])
              | (conv => whnf)))
            refine hS (ih (k + 1) _ (by omega) (by omega) (by omega) (fun x' y' c1 c2 c3 c4 => ?_))
            by_cases e : y' = k
            · rw [e] at c4 ⊢
              exact w2 x' c1 (by omega) c4
            · exact w x' y' c1 c2 (by omega) c4
          · have r1 := ra x p1 (by omega)
            have r2 := ra k (by omega) (by omega)
            have r3 := rb x p1 (by omega)
            have r4 := rb k (by omega) (by omega)
            refine am_run 400 mt_T_isFinerThan ok_T_isFinerThan (fun K S hK hS => ?_)
            iterate 50 (all_goals (first
              | (refine And.intro (by omega) ?_)
              | (refine And.intro (by decide) ?_)
              | (refine And.intro (fun hb => absurd hb (by omega)) (fun hb => ?_))
              | (refine And.intro (fun hb => ?_) (fun hb => absurd hb (by omega)))
              | (refine And.intro (fun hb => ?_) (fun hb => ?_))
              | (intro hb)
              | (refine am_if_mk (a_i _) ?_)
              | (refine am_if_mk (b_i _) ?_)
              | (simp only [a_l, a_b, a_q, a_m, a_c, a_r, a_R, a_z, a_3, b_l, b_b, b_q, b_m, b_c, b_r, b_R, b_z, b_3])
              | (conv => whnf)))
            all_goals first
              | (refine hS (ih2 (x + 1) (by omega) (by omega) (by omega) (fun x' c1 c2 c3 => ?_))
                 by_cases e : x' = x
                 · rw [e] at c3 ⊢
                   omega
                 · exact w2 x' c1 (by omega) c3)
              | exact hQ0 (fun q => absurd (q x k p1 (by omega) (by omega) (by assumption)) (by assumption))
      refine am_run 400 mt_T_isFinerThan ok_T_isFinerThan (fun K S hK hS => ?_)
      iterate 30 (all_goals (first
        | (refine And.intro (by omega) ?_)
        | (refine And.intro (by decide) ?_)
        | (refine And.intro (fun hb => absurd hb (by omega)) (fun hb => ?_))
        | (refine And.intro (fun hb => ?_) (fun hb => absurd hb (by omega)))
        | (refine And.intro (fun hb => ?_) (fun hb => ?_))
        | (intro hb)
        | (refine am_if_mk (a_i _) ?_)
        | (refine am_if_mk (b_i _) ?_)
        | (simp only [a_l, a_b, a_q, a_m, a_c, a_r, a_R, a_z, a_3, b_l, b_b, b_q, b_m, b_c, b_r, b_R, b_z, b_3])
        | (conv => whnf)))
      exact hS (inner (k + 1).toNat 0 (by omega) (by omega) (by omega) (fun x' c1 c2 => absurd c2 (by omega)))
  refine am_run 400 mt_T_isFinerThan ok_T_isFinerThan (fun K S hK hS => ?_)
  iterate 30 (all_goals (first
    | (refine And.intro (by omega) ?_)
    | (refine And.intro (by decide) ?_)
    | (refine And.intro (fun hb => absurd hb (by omega)) (fun hb => ?_))
    | (refine And.intro (fun hb => ?_) (fun hb => absurd hb (by omega)))
    | (refine And.intro (fun hb => ?_) (fun hb => ?_))
    | (intro hb)
    | (refine am_if_mk (a_i _) ?_)
    | (refine am_if_mk (b_i _) ?_)
    | (simp only [a_l, a_b, a_q, a_m, a_c, a_r, a_R, a_z, a_3, b_l, b_b, b_q, b_m, b_c, b_r, b_R, b_z, b_3, ea, eb])
    | (conv => whnf)))
  exact hS (loop (n + 1).toNat 0 _ (by omega) (by omega) (by omega) (fun x y c1 c2 c3 => absurd c3 (by omega)))
