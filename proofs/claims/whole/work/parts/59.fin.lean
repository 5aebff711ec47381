/-! finer, count -/
theorem m_fin_eq {g h g' h' : Int → Int} {n : Int} (e1 : ∀ i, 0 ≤ i → i < n → g i = g' i) (e2 : ∀ i, 0 ≤ i → i < n → h i = h' i) (w : m_fin g h n) : m_fin g' h' n := by
  intro x y a b c q
  rw [← e1 x a (by omega), ← e1 y (by omega) c] at q
  rw [← e2 x a (by omega), ← e2 y (by omega) c]
  exact w x y a b c q
theorem m_nfin_not {g h : Int → Int} {n : Int} (w : m_nfin g h n) : ¬ m_fin g h n := by
  obtain ⟨x, y, a, b, c, q1, q2⟩ := w
  exact fun f => q2 (f x y a b c q1)
theorem s_M_finer {G : am_G} {d : Nat} {sh : Int → Option Nat} {V : am_V} {T : Nat} {Q : Option AV → am_V → am_T → Nat → Prop} {a b m n : Int} (h0 : am_in32 a) (h1 : am_in32 b)
    (hV : ∀ k, 0 ≤ k → k < 10 → (V 90 k = -1 ∨ (0 ≤ V 90 k ∧ V 90 k ≤ 4 ∧ 1 ≤ V 91 k ∧ V 91 k ≤ 10 ∧ ∀ j, 0 ≤ j → j < V 91 k → 0 ≤ V 92 (10 * k + j) ∧ V 92 (10 * k + j) < 10)))
    (hB : ¬ ((0 ≤ a ∧ a < 10) ∧ (0 ≤ b ∧ b < 10)) → Q (some (vI (-1000001))) (am_up V 86 0 0) (am_RF sh) T)
    (hF : ((0 ≤ a ∧ a < 10) ∧ (0 ≤ b ∧ b < 10)) → (V 90 a < 0 ∨ V 90 b < 0) → Q (some (vI (-1000011))) (am_up (am_up V 86 0 0) 86 1 1) (am_RF sh) T)
    (hB2 : ((0 ≤ a ∧ a < 10) ∧ (0 ≤ b ∧ b < 10)) → (0 ≤ V 90 a ∧ 0 ≤ V 90 b) → V 91 a ≠ V 91 b → Q (some (vI (-1000001))) (am_up V 86 0 0) (am_RF sh) T)
    (hQ : ((0 ≤ a ∧ a < 10) ∧ (0 ≤ b ∧ b < 10)) → (0 ≤ V 90 a ∧ 0 ≤ V 90 b) → V 91 a = V 91 b → ∀ V' r, ((r = 1 ∧ m_fin (fun j => V 92 (10 * a + j)) (fun j => V 92 (10 * b + j)) (V 91 a)) ∨ (r = 0 ∧ ¬ m_fin (fun j => V 92 (10 * a + j)) (fun j => V 92 (10 * b + j)) (V 91 a))) → (∀ x, x ≠ 93 → V' x = am_up (am_up V 86 0 0) 86 1 0 x) → Q (some (vI r)) V' (am_RF sh) T) : am_Calls G (d + 4) 114 [vR 86, vI a, vI b] V (am_RF sh) T Q := by
  refine am_enter mt_M_finer ok_M_finer rfl ?_
  refine am_run 400 mt_M_finer ok_M_finer (fun K S hK hS => ?_)
  iterate 30 (all_goals (first
    | (refine And.intro (by omega) ?_)
    | (refine And.intro (fun hb => absurd hb (by omega)) (fun hb => ?_))
    | (refine And.intro (fun hb => ?_) (fun hb => absurd hb (by omega)))
    | (refine And.intro (fun hb => ?_) (fun hb => ?_))
    | (intro hb)
    | (conv => whnf)))
  refine hK (s_M_isPlace h0 (fun r hr => ?_))
  iterate 30 (all_goals (first
    | (refine And.intro (by omega) ?_)
    | (refine And.intro (fun hb => absurd hb (by omega)) (fun hb => ?_))
    | (refine And.intro (fun hb => ?_) (fun hb => absurd hb (by omega)))
    | (refine And.intro (fun hb => ?_) (fun hb => ?_))
    | (intro hb)
    | (conv => whnf)))
  · exact hB (by omega)
  refine hK (s_M_isPlace h1 (fun r2 hr2 => ?_))
  by_cases hc : (0 ≤ a ∧ a < 10) ∧ (0 ≤ b ∧ b < 10)
  · have va := hV a hc.1.1 hc.1.2
    have vb := hV b hc.2.1 hc.2.2
    have v1 : V 90 a = -1 ∨ (0 ≤ V 90 a ∧ V 90 a ≤ 4 ∧ 1 ≤ V 91 a ∧ V 91 a ≤ 10) := va.elim Or.inl (fun q => Or.inr ⟨q.1, q.2.1, q.2.2.1, q.2.2.2.1⟩)
    have v2 : V 90 b = -1 ∨ (0 ≤ V 90 b ∧ V 90 b ≤ 4 ∧ 1 ≤ V 91 b ∧ V 91 b ≤ 10) := vb.elim Or.inl (fun q => Or.inr ⟨q.1, q.2.1, q.2.2.1, q.2.2.2.1⟩)
    have ra : 0 ≤ V 90 a → ∀ j, 0 ≤ j → j < V 91 a → 0 ≤ V 92 (10 * a + j) ∧ V 92 (10 * a + j) < 10 := fun q => va.elim (fun e => absurd q (by omega)) (fun e => e.2.2.2.2)
    have rb : 0 ≤ V 90 b → ∀ j, 0 ≤ j → j < V 91 b → 0 ≤ V 92 (10 * b + j) ∧ V 92 (10 * b + j) < 10 := fun q => vb.elim (fun e => absurd q (by omega)) (fun e => e.2.2.2.2)
    clear va vb
    iterate 60 (all_goals (first
      | (refine And.intro (by omega) ?_)
      | (refine And.intro (by decide) ?_)
      | (refine And.intro (fun hb => absurd hb (by omega)) (fun hb => ?_))
      | (refine And.intro (fun hb => ?_) (fun hb => absurd hb (by omega)))
      | (refine And.intro (fun hb => ?_) (fun hb => ?_))
      | (intro hb)
      | (simp +decide only [am_up_ne, am_up_at, reduceIte])
      | (conv => whnf)))
    all_goals (try exact hK (s_M_found (hF hc (by omega))))
    all_goals (try exact hB2 hc (by omega) (by omega))
    have hg : 0 ≤ V 90 a ∧ 0 ≤ V 90 b := by omega
    have he : V 91 a = V 91 b := by assumption
    refine hK (s_M_load (n := V 91 a) hc.1 (by omega) (by simp +decide [am_up_ne, am_up_at, reduceIte]) (by omega) (fun W w1 w2 w3 => ?_))
    have wV : ∀ x, x ≠ 93 → x ≠ 86 → W x = V x := fun x q1 q2 => by rw [w1 x q1, am_up_ne q2, am_up_ne q2]
    iterate 30 (all_goals (first
      | (refine And.intro (by omega) ?_)
      | (refine And.intro (fun hb => absurd hb (by omega)) (fun hb => ?_))
      | (refine And.intro (fun hb => ?_) (fun hb => absurd hb (by omega)))
      | (refine And.intro (fun hb => ?_) (fun hb => ?_))
      | (intro hb)
      | (conv => whnf)))
    refine hK (s_M_load (n := V 91 b) hc.2 (by omega) (by rw [wV 91 (by decide) (by decide)]) (by omega) (fun U u1 u2 u3 => ?_))
    have uV : ∀ x, x ≠ 93 → x ≠ 86 → U x = V x := fun x q1 q2 => by rw [u1 x q1, wV x q1 q2]
    have e91 : U 91 a = V 91 a := by rw [uV 91 (by decide) (by decide)]
    have eA : ∀ j, 0 ≤ j → j < V 91 a → U 93 (0 + j) = V 92 (10 * a + j) := fun j q1 q2 => by
      rw [u3 _ (by omega), w2 j q1 q2]
      simp +decide [am_up_ne, am_up_at, reduceIte]
    have eB : ∀ j, 0 ≤ j → j < V 91 a → U 93 (10 + j) = V 92 (10 * b + j) := fun j q1 q2 => by
      rw [u2 j q1 (by omega), wV 92 (by decide) (by decide)]
    iterate 30 (all_goals (first
      | (refine And.intro (by omega) ?_)
      | (refine And.intro (by decide) ?_)
      | (refine And.intro (fun hb => absurd hb (by omega)) (fun hb => ?_))
      | (refine And.intro (fun hb => ?_) (fun hb => absurd hb (by omega)))
      | (refine And.intro (fun hb => ?_) (fun hb => ?_))
      | (intro hb)
      | (simp only [e91])
      | (conv => whnf)))
    refine hK (s_M_isFiner ⟨by omega, by omega⟩ ⟨by omega, by omega⟩ (by omega) (fun j q1 q2 => ?_) (fun r3 hr3 => ?_))
    · rw [eA j q1 q2, eB j q1 q2]
      have x1 := ra hg.1 j q1 q2
      have x2 := rb hg.2 j q1 (by omega)
      exact ⟨by constructor <;> omega, by constructor <;> omega⟩
    · have hr4 : (r3 = 1 ∧ m_fin (fun j => V 92 (10 * a + j)) (fun j => V 92 (10 * b + j)) (V 91 a)) ∨ (r3 = 0 ∧ ¬ m_fin (fun j => V 92 (10 * a + j)) (fun j => V 92 (10 * b + j)) (V 91 a)) := by
        rcases hr3 with ⟨x1, x2⟩ | ⟨x1, x2⟩
        · exact Or.inl ⟨x1, m_fin_eq eA eB x2⟩
        · exact Or.inr ⟨x1, fun q => m_nfin_not x2 (m_fin_eq (fun i a b => (eA i a b).symm) (fun i a b => (eB i a b).symm) q)⟩
      have h01 : r3 = 0 ∨ r3 = 1 := by rcases hr4 with ⟨x1, -⟩ | ⟨x1, -⟩ <;> omega
      clear hr3
      have fin := hQ hc hg he U r3 hr4 (fun x q => by rw [u1 x q, w1 x q])
      iterate 30 (all_goals (first
        | (refine And.intro (by omega) ?_)
        | (refine And.intro (fun hb => absurd hb (by omega)) (fun hb => ?_))
        | (refine And.intro (fun hb => ?_) (fun hb => absurd hb (by omega)))
        | (refine And.intro (fun hb => ?_) (fun hb => ?_))
        | (intro hb)
        | (conv => whnf)))
      · have e : r3 = 0 := by assumption
        rw [e] at fin
        exact fin
      · have e : r3 = 1 := by omega
        rw [e] at fin
        exact fin
  · iterate 30 (all_goals (first
      | (refine And.intro (by omega) ?_)
      | (refine And.intro (fun hb => absurd hb (by omega)) (fun hb => ?_))
      | (refine And.intro (fun hb => ?_) (fun hb => absurd hb (by omega)))
      | (refine And.intro (fun hb => ?_) (fun hb => ?_))
      | (intro hb)
      | (conv => whnf)))
    exact hB (by omega)
theorem iv_rng {V : am_V} {sh : Int → Option Nat} {T : Nat} (h : iv_tg V sh T) : ∀ k, 0 ≤ k → k < 10 → (V 90 k = -1 ∨ (0 ≤ V 90 k ∧ V 90 k ≤ 4 ∧ 1 ≤ V 91 k ∧ V 91 k ≤ 10 ∧ ∀ j, 0 ≤ j → j < V 91 k → 0 ≤ V 92 (10 * k + j) ∧ V 92 (10 * k + j) < 10)) := by
  intro k a b
  rcases h.2 k a b with ⟨e1, e2⟩ | ⟨c, n, e1, h1, h2, h3, h4, h5, h6⟩
  · exact Or.inl e2
  · have hkd := m_kd_rng h3.2.2.2.2.2
    have hn := h3.2.1
    refine Or.inr ⟨by omega, by omega, by omega, by omega, fun j a b => ?_⟩
    rw [h5] at b
    rw [h6 j a b]
    have := m_rgs_lt h3.2.2.1 a b
    omega
theorem pr_finer {G : am_G} {d : Nat} {sh : Int → Option Nat} {V : am_V} {T : Nat} {p : Int} {f0 : Int → Int} {a b : Int} (hI : II V sh T p f0) (h0 : am_in32 a) (h1 : am_in32 b) : am_Calls G (d + 9) 17 [vR 3, vI a, vI b] V (am_RF sh) T (pr_int G (d + 9) 114 [vR 86, vI a, vI b] p f0) := by
  have hJ := hI.1
  have hVV := iv_rng hJ.2.2.2.1
  by_cases hc : (0 ≤ a ∧ a < 10) ∧ (0 ≤ b ∧ b < 10)
  · have find : (V 90 a < 0 ∨ V 90 b < 0) → pr_int G (d + 9) 114 [vR 86, vI a, vI b] p f0 (some (vI (-1000010 - 1))) (am_up V 3 17 1) (am_RF sh) T := by
      intro hn
      refine pr_i (by omega) (by simp +decide [am_up_ne, am_up_at, reduceIte]; exact hJ.1) (s_M_finer (m := 0) (n := 0) h0 h1 (by simp +decide only [am_up_ne, am_up_at, reduceIte]; exact hVV) (fun q => absurd hc q) (fun _ _ => pr_k (II_find2 hI (by omega))) (fun _ q => ?_) (fun _ q => ?_))
      · exfalso; simp +decide only [am_up_ne, am_up_at, reduceIte] at q; omega
      · exfalso; simp +decide only [am_up_ne, am_up_at, reduceIte] at q; omega
    rcases hJ.2.2.2.1.2 a hc.1.1 hc.1.2 with ⟨e1, e2⟩ | ⟨x, n, e1, x1, x2, x3, x4, x5, x6⟩
    · refine am_enter mt_F_finer ok_F_finer rfl ?_
      refine am_run 400 mt_F_finer ok_F_finer (fun K S hK hS => ?_)
      iterate 30 (all_goals (first
        | (refine And.intro (by omega) ?_)
        | (refine And.intro (fun hb => absurd hb (by omega)) (fun hb => ?_))
        | (refine And.intro (fun hb => ?_) (fun hb => absurd hb (by omega)))
        | (refine And.intro (fun hb => ?_) (fun hb => ?_))
        | (intro hb)
        | (conv => whnf)))
      refine hK (s_F_noPlace h0 (fun r hr => ?_))
      iterate 30 (all_goals (first
        | (refine And.intro (by omega) ?_)
        | (refine And.intro (fun hb => absurd hb (by omega)) (fun hb => ?_))
        | (refine And.intro (fun hb => ?_) (fun hb => absurd hb (by omega)))
        | (refine And.intro (fun hb => ?_) (fun hb => ?_))
        | (intro hb)
        | (conv => whnf)))
      refine hK (s_F_noPlace h1 (fun r2 hr2 => ?_))
      rcases hJ.2.2.2.1.2 b hc.2.1 hc.2.2 with ⟨e3, e4⟩ | ⟨y, m, e3, y1, y2, y3, y4, y5, y6⟩
      · iterate 50 (all_goals (first
          | (refine am_aN e1 ?_)
          | (refine am_aN e3 ?_)
          | (refine And.intro (by omega) ?_)
          | (refine am_nN ?_)
          | (refine am_nS ?_)
          | (refine am_mN ?_)
          | (refine am_mS ?_)
          | (refine And.intro (fun hb => absurd hb (by omega)) (fun hb => ?_))
          | (refine And.intro (fun hb => ?_) (fun hb => absurd hb (by omega)))
          | (refine And.intro (fun hb => ?_) (fun hb => ?_))
          | (intro hb)
          | (conv => whnf)))
        exact hK (s_F_finding (find (by omega)))
      · iterate 50 (all_goals (first
          | (refine am_aN e1 ?_)
          | (refine am_aS e3 ?_)
          | (refine And.intro (by omega) ?_)
          | (refine am_nN ?_)
          | (refine am_nS ?_)
          | (refine am_mN ?_)
          | (refine am_mS ?_)
          | (refine And.intro (fun hb => absurd hb (by omega)) (fun hb => ?_))
          | (refine And.intro (fun hb => ?_) (fun hb => absurd hb (by omega)))
          | (refine And.intro (fun hb => ?_) (fun hb => ?_))
          | (intro hb)
          | (conv => whnf)))
        exact hK (s_F_finding (find (by omega)))
    · have xk := m_kd_rng x3.2.2.2.2.2
      have xn := x3.2.1
      have x0 : V x 0 = n := x3.1
      have x_0 : 107 ≤ x := x1.1
      have x_l := th_lay x1
      have x_b := th_ble x1
      have x_q := th_beq x1
      have x_m := th_lay1 x1
      have x_c := th_ble1 x1
      have x_r := th_beq1 x1
      have x_R : am_RF sh x 2 = some (x + 1) := th_RF x1
      have x_z : Nat.beq (x + 1) 0 = false := rfl
      have x_3 : Nat.ble 3 (x + 1) = true := th_ble3 x1
      have x_i : ∀ r, am_isr 3 (vR x :: r) = true := th_isr x1
      refine am_enter mt_F_finer ok_F_finer rfl ?_
      refine am_run 400 mt_F_finer ok_F_finer (fun K S hK hS => ?_)
      iterate 30 (all_goals (first
        | (refine And.intro (by omega) ?_)
        | (refine And.intro (fun hb => absurd hb (by omega)) (fun hb => ?_))
        | (refine And.intro (fun hb => ?_) (fun hb => absurd hb (by omega)))
        | (refine And.intro (fun hb => ?_) (fun hb => ?_))
        | (intro hb)
        | (conv => whnf)))
      refine hK (s_F_noPlace h0 (fun r hr => ?_))
      iterate 30 (all_goals (first
        | (refine And.intro (by omega) ?_)
        | (refine And.intro (fun hb => absurd hb (by omega)) (fun hb => ?_))
        | (refine And.intro (fun hb => ?_) (fun hb => absurd hb (by omega)))
        | (refine And.intro (fun hb => ?_) (fun hb => ?_))
        | (intro hb)
        | (conv => whnf)))
      refine hK (s_F_noPlace h1 (fun r2 hr2 => ?_))
      rcases hJ.2.2.2.1.2 b hc.2.1 hc.2.2 with ⟨e3, e4⟩ | ⟨y, m, e3, y1, y2, y3, y4, y5, y6⟩
      · iterate 50 (all_goals (first
          | (refine am_aS e1 ?_)
          | (refine am_aN e3 ?_)
          | (refine And.intro (by omega) ?_)
          | (refine am_nN ?_)
          | (refine am_nS ?_)
          | (refine am_mN ?_)
          | (refine am_mS ?_)
          | (refine And.intro (fun hb => absurd hb (by omega)) (fun hb => ?_))
          | (refine And.intro (fun hb => ?_) (fun hb => absurd hb (by omega)))
          | (refine And.intro (fun hb => ?_) (fun hb => ?_))
          | (intro hb)
          | (conv => whnf)))
        exact hK (s_F_finding (find (by omega)))
      · have yk := m_kd_rng y3.2.2.2.2.2
        have yn := y3.2.1
        have y0 : V y 0 = m := y3.1
        have y_0 : 107 ≤ y := y1.1
        have y_l := th_lay y1
        have y_b := th_ble y1
        have y_q := th_beq y1
        have y_m := th_lay1 y1
        have y_c := th_ble1 y1
        have y_r := th_beq1 y1
        have y_R : am_RF sh y 2 = some (y + 1) := th_RF y1
        have y_z : Nat.beq (y + 1) 0 = false := rfl
        have y_3 : Nat.ble 3 (y + 1) = true := th_ble3 y1
        have y_i : ∀ r, am_isr 3 (vR y :: r) = true := th_isr y1
        by_cases hnm : n = m
        · subst hnm
          have fin : ∀ r, ((r = 1 ∧ m_fin (V (x + 1)) (V (y + 1)) n) ∨ (r = 0 ∧ ¬ m_fin (V (x + 1)) (V (y + 1)) n)) → pr_int G (d + 9) 114 [vR 86, vI a, vI b] p f0 (some (vI r)) (am_up V 3 17 0) (am_RF sh) T := by
            intro r hr
            have hr01 : r = 0 ∨ r = 1 := by rcases hr with ⟨q, -⟩ | ⟨q, -⟩ <;> omega
            refine pr_i (by omega) (by simp +decide [am_up_ne, am_up_at, reduceIte]; exact hJ.1) (s_M_finer (m := 0) (n := 0) h0 h1 (by simp +decide only [am_up_ne, am_up_at, reduceIte]; exact hVV) (fun q => absurd hc q) (fun _ q => ?_) (fun _ _ q => ?_) (fun _ _ _ W r' hr' w1 => ?_))
            · exfalso; simp +decide only [am_up_ne, am_up_at, reduceIte] at q; omega
            · exfalso; simp +decide only [am_up_ne, am_up_at, reduceIte] at q; omega
            · simp +decide only [am_up_ne, am_up_at, reduceIte] at hr'
              rw [x5] at hr'
              have er : r' = r := by
                rcases hr with ⟨q1, q2⟩ | ⟨q1, q2⟩ <;> rcases hr' with ⟨q3, q4⟩ | ⟨q3, q4⟩
                · omega
                · exact absurd (m_fin_eq (fun i a b => (x6 i a b).symm) (fun i a b => (y6 i a b).symm) q2) q4
                · exact absurd (m_fin_eq x6 y6 q4) q2
                · omega
              rw [er]
              first | exact pr_k (II_rd (II_find2 (c := 0) hI (by omega)) (fun a q => by rw [w1 a (by omega)]) (fun j q => by rw [w1 3 (by decide)]) (fun j q1 q2 => by rw [w1 86 (by decide)]) (by rw [w1 65 (by decide)]) (by rw [w1 76 (by decide)]) (by rw [w1 86 (by decide), w1 3 (by decide)]; simp +decide [am_up_ne, am_up_at, reduceIte])) | exact pr_k2 (II_rd (II_find2 (c := 0) hI (by omega)) (fun a q => by rw [w1 a (by omega)]) (fun j q => by rw [w1 3 (by decide)]) (fun j q1 q2 => by rw [w1 86 (by decide)]) (by rw [w1 65 (by decide)]) (by rw [w1 76 (by decide)]) (by rw [w1 86 (by decide), w1 3 (by decide)]; simp +decide [am_up_ne, am_up_at, reduceIte]))
          iterate 50 (all_goals (first
            | (refine am_aS e1 ?_)
            | (refine am_aS e3 ?_)
            | (refine And.intro (by omega) ?_)
            | (refine And.intro (by decide) ?_)
            | (refine am_nN ?_)
            | (refine am_nS ?_)
            | (refine am_mN ?_)
            | (refine am_mS ?_)
            | (refine And.intro (fun hb => absurd hb (by omega)) (fun hb => ?_))
            | (refine And.intro (fun hb => ?_) (fun hb => absurd hb (by omega)))
            | (refine And.intro (fun hb => ?_) (fun hb => ?_))
            | (intro hb)
            | (refine am_if_mk (x_i _) ?_)
            | (refine am_if_mk (y_i _) ?_)
            | (simp only [x_l, x_b, x_q, x_m, x_c, x_r, x_R, x_z, x_3, y_l, y_b, y_q, y_m, y_c, y_r, y_R, y_z, y_3, x0, y0])
            | (conv => whnf)))
          refine hK (s_T_isFinerThan x1 y1 xn x0 y0 (fun i a b => by have := m_rgs_lt x3.2.2.1 a b; omega) (fun i a b => by have := m_rgs_lt y3.2.2.1 a b; omega) (fun w => ?_) (fun w => ?_))
          · iterate 30 (all_goals (first
              | (refine And.intro (by omega) ?_)
              | (refine And.intro (fun hb => absurd hb (by omega)) (fun hb => ?_))
              | (refine And.intro (fun hb => ?_) (fun hb => absurd hb (by omega)))
              | (refine And.intro (fun hb => ?_) (fun hb => ?_))
              | (intro hb)
              | (conv => whnf)))
            refine hK (s_F_fine ?_)
            exact fin 1 (Or.inl ⟨rfl, w⟩)
          · iterate 30 (all_goals (first
              | (refine And.intro (by omega) ?_)
              | (refine And.intro (fun hb => absurd hb (by omega)) (fun hb => ?_))
              | (refine And.intro (fun hb => ?_) (fun hb => absurd hb (by omega)))
              | (refine And.intro (fun hb => ?_) (fun hb => ?_))
              | (intro hb)
              | (conv => whnf)))
            refine hK (s_F_fine ?_)
            exact fin 0 (Or.inr ⟨rfl, w⟩)
        · iterate 50 (all_goals (first
            | (refine am_aS e1 ?_)
            | (refine am_aS e3 ?_)
            | (refine And.intro (by omega) ?_)
            | (refine And.intro (by decide) ?_)
            | (refine am_nN ?_)
            | (refine am_nS ?_)
            | (refine am_mN ?_)
            | (refine am_mS ?_)
            | (refine And.intro (fun hb => absurd hb (by omega)) (fun hb => ?_))
            | (refine And.intro (fun hb => ?_) (fun hb => absurd hb (by omega)))
            | (refine And.intro (fun hb => ?_) (fun hb => ?_))
            | (intro hb)
            | (refine am_if_mk (x_i _) ?_)
            | (refine am_if_mk (y_i _) ?_)
            | (simp only [x_l, x_b, x_q, x_m, x_c, x_r, x_R, x_z, x_3, y_l, y_b, y_q, y_m, y_c, y_r, y_R, y_z, y_3, x0, y0])
            | (conv => whnf)))
          refine pr_i (by omega) hJ.1 (s_M_finer (m := 0) (n := 0) h0 h1 hVV (fun q => absurd hc q) (fun _ q => absurd q (by omega)) (fun _ _ _ => pr_k (II_bad hI)) (fun _ _ q => absurd q (by omega)))
  · have bad : pr_int G (d + 9) 114 [vR 86, vI a, vI b] p f0 (some (vI (-1000001))) V (am_RF sh) T := pr_i (by omega) hJ.1 (s_M_finer (m := 0) (n := 0) h0 h1 hVV (fun _ => pr_k (II_bad hI)) (fun q => absurd q hc) (fun q => absurd q hc) (fun q => absurd q hc))
    refine am_enter mt_F_finer ok_F_finer rfl ?_
    refine am_run 400 mt_F_finer ok_F_finer (fun K S hK hS => ?_)
    iterate 30 (all_goals (first
      | (refine And.intro (by omega) ?_)
      | (refine And.intro (fun hb => absurd hb (by omega)) (fun hb => ?_))
      | (refine And.intro (fun hb => ?_) (fun hb => absurd hb (by omega)))
      | (refine And.intro (fun hb => ?_) (fun hb => ?_))
      | (intro hb)
      | (conv => whnf)))
    refine hK (s_F_noPlace h0 (fun r hr => ?_))
    iterate 30 (all_goals (first
      | (refine And.intro (by omega) ?_)
      | (refine And.intro (fun hb => absurd hb (by omega)) (fun hb => ?_))
      | (refine And.intro (fun hb => ?_) (fun hb => absurd hb (by omega)))
      | (refine And.intro (fun hb => ?_) (fun hb => ?_))
      | (intro hb)
      | (conv => whnf)))
    · exact bad
    refine hK (s_F_noPlace h1 (fun r2 hr2 => ?_))
    iterate 30 (all_goals (first
      | (refine And.intro (by omega) ?_)
      | (refine And.intro (fun hb => absurd hb (by omega)) (fun hb => ?_))
      | (refine And.intro (fun hb => ?_) (fun hb => absurd hb (by omega)))
      | (refine And.intro (fun hb => ?_) (fun hb => ?_))
      | (intro hb)
      | (conv => whnf)))
    exact bad
