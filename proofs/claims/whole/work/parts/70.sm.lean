/-! same -/
def sm_I (f g : Int → Int) (k m : Int) : Prop := (m = 1 ∧ ∀ i, 1 ≤ i → i < k → f i = g i) ∨ (m = 0 ∧ ∃ i, 1 ≤ i ∧ i < k ∧ f i ≠ g i)
theorem sm_I_01 {f g : Int → Int} {k m : Int} (w : sm_I f g k m) : m = 0 ∨ m = 1 := by
  rcases w with ⟨a, -⟩ | ⟨a, -⟩
  · exact Or.inr a
  · exact Or.inl a
theorem s_M_same {G : am_G} {d : Nat} {sh : Int → Option Nat} {V : am_V} {T : Nat} {Q : Option AV → am_V → am_T → Nat → Prop} {a b p : Int} (h0 : am_in32 a) (h1 : am_in32 b) (hp : 1 < p ∧ p ≤ 2000000000) (hz : ∀ s, 0 ≤ s → s < 8 → 1 ≤ V 98 s ∧ V 98 s ≤ 8) (hm : ∀ s, 0 ≤ s → s < 8 → sr_rg p (sr_m V s) 8)
    (hB : ¬ ((0 ≤ a ∧ a < 8) ∧ (0 ≤ b ∧ b < 8)) → Q (some (vI (-1000001))) (am_up V 86 0 0) (am_RF sh) T)
    (hQ : ((0 ≤ a ∧ a < 8) ∧ (0 ≤ b ∧ b < 8)) → ∀ r, ((r = 1 ∧ V 98 a = V 98 b ∧ ∀ k, 1 ≤ k → k ≤ V 98 a → sr_m V a k = sr_m V b k) ∨ (r = 0 ∧ ¬ (V 98 a = V 98 b ∧ ∀ k, 1 ≤ k → k ≤ V 98 a → sr_m V a k = sr_m V b k))) → Q (some (vI r)) (am_up V 86 0 0) (am_RF sh) T) : am_Calls G (d + 3) 132 [vR 86, vI a, vI b] V (am_RF sh) T Q := by
  have e98 : ∀ s, am_up V 86 0 0 98 s = V 98 s := fun s => by rw [am_up_ne (by decide)]
  have em : ∀ s, sr_m (am_up V 86 0 0) s = sr_m V s := fun s => by unfold sr_m; rw [am_up_ne (by decide)]
  refine am_enter mt_M_same ok_M_same rfl ?_
  have loop0 : ((0 ≤ a ∧ a < 8) ∧ (0 ≤ b ∧ b < 8)) → ¬ (V 98 a = V 98 b) → ∀ (jj : Nat) (k : Int), 1 ≤ k → k ≤ V 98 a + 1 → V 98 a + 1 - k < jj → am_Sem G (d + 2) 132 V T Q 46 [some (vR 86), some (vI a), some (vI b), some (vI 0), some (vI k)] [] (am_up V 86 0 0) (am_RF sh) T 0 0 := by
    intro hc hne jj
    have za := hz a hc.1.1 hc.1.2
    induction jj with
    | zero => intro k a1 a2 a3; omega
    | succ jj ih =>
      intro k a1 a2 a3
      by_cases hk : k = V 98 a + 1
      · refine am_run 400 mt_M_same ok_M_same (fun K S hK hS => ?_)
        iterate 30 (all_goals (first
          | (refine And.intro (by omega) ?_)
          | (refine And.intro (by decide) ?_)
          | (refine And.intro (fun hb => absurd hb (by omega)) (fun hb => ?_))
          | (refine And.intro (fun hb => ?_) (fun hb => absurd hb (by omega)))
          | (refine And.intro (fun hb => ?_) (fun hb => ?_))
          | (intro hb)
          | (simp only [e98])
          | (conv => whnf)))
        exact hQ hc 0 (Or.inr ⟨rfl, fun q => hne q.1⟩)
      · refine am_run 400 mt_M_same ok_M_same (fun K S hK hS => ?_)
        iterate 30 (all_goals (first
          | (refine And.intro (by omega) ?_)
          | (refine And.intro (by decide) ?_)
          | (refine And.intro (fun hb => absurd hb (by omega)) (fun hb => ?_))
          | (refine And.intro (fun hb => ?_) (fun hb => absurd hb (by omega)))
          | (refine And.intro (fun hb => ?_) (fun hb => ?_))
          | (intro hb)
          | (simp only [e98])
          | (conv => whnf)))
        exact hS (ih (k + 1) (by omega) (by omega) (by omega))
  have loop1 : ((0 ≤ a ∧ a < 8) ∧ (0 ≤ b ∧ b < 8)) → V 98 a = V 98 b → ∀ (jj : Nat) (k m : Int), 1 ≤ k → k ≤ V 98 a + 1 → V 98 a + 1 - k < jj → sm_I (sr_m V a) (sr_m V b) k m → am_Sem G (d + 2) 132 V T Q 46 [some (vR 86), some (vI a), some (vI b), some (vI m), some (vI k)] [] (am_up V 86 0 0) (am_RF sh) T 0 0 := by
    intro hc heq jj
    have za := hz a hc.1.1 hc.1.2
    induction jj with
    | zero => intro k m a1 a2 a3; omega
    | succ jj ih =>
      intro k m a1 a2 a3 w
      have hm01 := sm_I_01 w
      by_cases hk : k = V 98 a + 1
      · have r1 : m ≠ 0 → (V 98 a = V 98 b ∧ ∀ k, 1 ≤ k → k ≤ V 98 a → sr_m V a k = sr_m V b k) := fun q => by
          rcases w with ⟨z1, z2⟩ | ⟨z1, -⟩
          · exact ⟨heq, fun i i1 i2 => z2 i i1 (by omega)⟩
          · exact absurd z1 q
        have r0 : m = 0 → ¬ (V 98 a = V 98 b ∧ ∀ k, 1 ≤ k → k ≤ V 98 a → sr_m V a k = sr_m V b k) := fun q => by
          rcases w with ⟨z1, z2⟩ | ⟨z1, i, z2, z3, z4⟩
          · omega
          · exact fun c => z4 (c.2 i z2 (by omega))
        clear w
        refine am_run 400 mt_M_same ok_M_same (fun K S hK hS => ?_)
        iterate 30 (all_goals (first
          | (refine And.intro (by omega) ?_)
          | (refine And.intro (by decide) ?_)
          | (refine And.intro (fun hb => absurd hb (by omega)) (fun hb => ?_))
          | (refine And.intro (fun hb => ?_) (fun hb => absurd hb (by omega)))
          | (refine And.intro (fun hb => ?_) (fun hb => ?_))
          | (intro hb)
          | (simp only [e98])
          | (conv => whnf)))
        · exact hQ hc 0 (Or.inr ⟨rfl, r0 (by assumption)⟩)
        · exact hQ hc 1 (Or.inl ⟨rfl, r1 (by assumption)⟩)
      · have ra := (hm a hc.1.1 hc.1.2).2 k a1 (by omega)
        have rb := (hm b hc.2.1 hc.2.2).2 k a1 (by omega)
        by_cases hm0 : m = 0
        · have w' : sm_I (sr_m V a) (sr_m V b) (k + 1) 0 := by
            rcases w with ⟨z1, z2⟩ | ⟨z1, i, z2, z3, z4⟩
            · omega
            · exact Or.inr ⟨rfl, i, z2, by omega, z4⟩
          clear w
          refine am_run 400 mt_M_same ok_M_same (fun K S hK hS => ?_)
          iterate 30 (all_goals (first
            | (refine And.intro (by omega) ?_)
            | (refine And.intro (by decide) ?_)
            | (refine And.intro (fun hb => absurd hb (by omega)) (fun hb => ?_))
            | (refine And.intro (fun hb => ?_) (fun hb => absurd hb (by omega)))
            | (refine And.intro (fun hb => ?_) (fun hb => ?_))
            | (intro hb)
            | (simp only [e98])
            | (conv => whnf)))
          exact hS (ih (k + 1) 0 (by omega) (by omega) (by omega) w')
        · have w1 : sr_m V a k = sr_m V b k → sm_I (sr_m V a) (sr_m V b) (k + 1) 1 := fun q => by
            rcases w with ⟨z1, z2⟩ | ⟨z1, -⟩
            · refine Or.inl ⟨rfl, fun i i1 i2 => ?_⟩
              by_cases e : i = k
              · rw [e]; exact q
              · exact z2 i i1 (by omega)
            · exact absurd z1 hm0
          have w0 : ¬ sr_m V a k = sr_m V b k → sm_I (sr_m V a) (sr_m V b) (k + 1) 0 := fun q => Or.inr ⟨rfl, k, a1, by omega, q⟩
          clear w
          refine am_run 400 mt_M_same ok_M_same (fun K S hK hS => ?_)
          iterate 30 (all_goals (first
            | (refine And.intro (by omega) ?_)
            | (refine And.intro (by decide) ?_)
            | (refine And.intro (fun hb => absurd hb (by omega)) (fun hb => ?_))
            | (refine And.intro (fun hb => ?_) (fun hb => absurd hb (by omega)))
            | (refine And.intro (fun hb => ?_) (fun hb => ?_))
            | (intro hb)
            | (simp only [e98])
            | (conv => whnf)))
          refine hK (s_M_m hc.1 (by omega) ?_)
          rw [em]
          iterate 30 (all_goals (first
            | (refine And.intro (by omega) ?_)
            | (refine And.intro (fun hb => absurd hb (by omega)) (fun hb => ?_))
            | (refine And.intro (fun hb => ?_) (fun hb => absurd hb (by omega)))
            | (refine And.intro (fun hb => ?_) (fun hb => ?_))
            | (intro hb)
            | (conv => whnf)))
          refine hK (s_M_m hc.2 (by omega) ?_)
          rw [em]
          obtain ⟨A, hA⟩ : ∃ A, A = sr_m V a k := ⟨_, rfl⟩
          obtain ⟨B, hB⟩ : ∃ B, B = sr_m V b k := ⟨_, rfl⟩
          rw [← hA, ← hB] at w1 w0
          rw [← hA] at ra
          rw [← hB] at rb
          rw [← hA, ← hB]
          iterate 30 (all_goals (first
            | (refine And.intro (by omega) ?_)
            | (refine And.intro (fun hb => absurd hb (by omega)) (fun hb => ?_))
            | (refine And.intro (fun hb => ?_) (fun hb => absurd hb (by omega)))
            | (refine And.intro (fun hb => ?_) (fun hb => ?_))
            | (intro hb)
            | (conv => whnf)))
          · exact hS (ih (k + 1) 0 (by omega) (by omega) (by omega) (w0 (by assumption)))
          · exact hS (ih (k + 1) 1 (by omega) (by omega) (by omega) (w1 (by assumption)))
  refine am_run 400 mt_M_same ok_M_same (fun K S hK hS => ?_)
  iterate 30 (all_goals (first
    | (refine And.intro (by omega) ?_)
    | (refine And.intro (fun hb => absurd hb (by omega)) (fun hb => ?_))
    | (refine And.intro (fun hb => ?_) (fun hb => absurd hb (by omega)))
    | (refine And.intro (fun hb => ?_) (fun hb => ?_))
    | (intro hb)
    | (conv => whnf)))
  refine hK (s_M_isSeries h0 (fun r hr => ?_))
  iterate 30 (all_goals (first
    | (refine And.intro (by omega) ?_)
    | (refine And.intro (fun hb => absurd hb (by omega)) (fun hb => ?_))
    | (refine And.intro (fun hb => ?_) (fun hb => absurd hb (by omega)))
    | (refine And.intro (fun hb => ?_) (fun hb => ?_))
    | (intro hb)
    | (conv => whnf)))
  · exact hB (by omega)
  refine hK (s_M_isSeries h1 (fun r2 hr2 => ?_))
  by_cases hc : (0 ≤ a ∧ a < 8) ∧ (0 ≤ b ∧ b < 8)
  · have za := hz a hc.1.1 hc.1.2
    have zb := hz b hc.2.1 hc.2.2
    by_cases he : V 98 a = V 98 b
    · iterate 40 (all_goals (first
        | (refine And.intro (by omega) ?_)
        | (refine And.intro (by decide) ?_)
        | (refine And.intro (fun hb => absurd hb (by omega)) (fun hb => ?_))
        | (refine And.intro (fun hb => ?_) (fun hb => absurd hb (by omega)))
        | (refine And.intro (fun hb => ?_) (fun hb => ?_))
        | (intro hb)
        | (simp only [e98])
        | (conv => whnf)))
      exact hS (loop1 hc he (V 98 a + 1).toNat 1 1 (by omega) (by omega) (by omega) (Or.inl ⟨rfl, fun i i1 i2 => absurd i2 (by omega)⟩))
    · iterate 40 (all_goals (first
        | (refine And.intro (by omega) ?_)
        | (refine And.intro (by decide) ?_)
        | (refine And.intro (fun hb => absurd hb (by omega)) (fun hb => ?_))
        | (refine And.intro (fun hb => ?_) (fun hb => absurd hb (by omega)))
        | (refine And.intro (fun hb => ?_) (fun hb => ?_))
        | (intro hb)
        | (simp only [e98])
        | (conv => whnf)))
      exact hS (loop0 hc he (V 98 a + 1).toNat 1 (by omega) (by omega) (by omega))
  · iterate 30 (all_goals (first
      | (refine And.intro (by omega) ?_)
      | (refine And.intro (fun hb => absurd hb (by omega)) (fun hb => ?_))
      | (refine And.intro (fun hb => ?_) (fun hb => absurd hb (by omega)))
      | (refine And.intro (fun hb => ?_) (fun hb => ?_))
      | (intro hb)
      | (conv => whnf)))
    exact hB (by omega)
theorem pr_same {G : am_G} {d : Nat} {sh : Int → Option Nat} {V : am_V} {T : Nat} {p : Int} {f0 : Int → Int} {a b : Int} (hI : II V sh T p f0) (h0 : am_in32 a) (h1 : am_in32 b) : am_Calls G (d + 9) 24 [vR 3, vI a, vI b] V (am_RF sh) T (pr_int G (d + 9) 132 [vR 86, vI a, vI b] p f0) := by
  have hJ := hI.1
  have hse := hJ.2.2.2.2.2.1
  obtain ⟨p1, p2, p3, p4, p5, p6, p7⟩ := hJ.2.2.2.2.2.2.1
  have hp : 1 < p ∧ p ≤ 2000000000 := by omega
  have hzz : ∀ s, 0 ≤ s → s < 8 → 1 ≤ V 98 s ∧ V 98 s ≤ 8 := fun s a b => by
    have := hse s a b
    omega
  have hmm : ∀ s, 0 ≤ s → s < 8 → sr_rg p (sr_m V s) 8 := fun s a b => iv_se_rg hp.1 hse a b
  by_cases hc : (0 ≤ a ∧ a < 8) ∧ (0 ≤ b ∧ b < 8)
  · have za := hse a hc.1.1 hc.1.2
    have zb := hse b hc.2.1 hc.2.2
    have za1 : (1 ≤ V 41 a ∧ V 41 a ≤ 8) ∧ V 98 a = V 41 a := ⟨za.1, za.2.1⟩
    have zb1 : (1 ≤ V 41 b ∧ V 41 b ≤ 8) ∧ V 98 b = V 41 b := ⟨zb.1, zb.2.1⟩
    have ea := iv_se_eqm hse hc.1.1 hc.1.2
    have eb := iv_se_eqm hse hc.2.1 hc.2.2
    have ra := iv_se_rgc hp.1 hse hc.1.1 hc.1.2
    have rb := iv_se_rgc hp.1 hse hc.2.1 hc.2.2
    have fin : ∀ r, ((r = 1 ∧ V 41 a = V 41 b ∧ ∀ k, 1 ≤ k → k ≤ V 41 a → V 32 (64 * a + k) = V 32 (64 * b + k)) ∨ (r = 0 ∧ ¬ (V 41 a = V 41 b ∧ ∀ k, 1 ≤ k → k ≤ V 41 a → V 32 (64 * a + k) = V 32 (64 * b + k)))) → pr_int G (d + 9) 132 [vR 86, vI a, vI b] p f0 (some (vI r)) V (am_RF sh) T := by
      intro r hr
      have hr01 : r = 0 ∨ r = 1 := by rcases hr with ⟨q, -⟩ | ⟨q, -⟩ <;> omega
      refine pr_i (by omega) hJ.1 (s_M_same h0 h1 hp hzz hmm (fun q => absurd hc q) (fun _ r' hr' => ?_))
      have er : r' = r := by
        rcases hr with ⟨q1, q2, q3⟩ | ⟨q1, q2⟩ <;> rcases hr' with ⟨q4, q5, q6⟩ | ⟨q4, q5⟩
        · omega
        · exact absurd ⟨by omega, fun k k1 k2 => by rw [← ea k (by omega) (by omega), ← eb k (by omega) (by omega)]; exact q3 k k1 (by omega)⟩ q5
        · exact absurd ⟨by omega, fun k k1 k2 => by rw [ea k (by omega) k2, eb k (by omega) (by omega)]; exact q6 k k1 (by omega)⟩ q2
        · omega
      rw [er]
      exact pr_k (II_bad hI)
    refine am_enter mt_F_same ok_F_same rfl ?_
    have loop : V 41 a = V 41 b → ∀ (jj : Nat) (k : Int), 1 ≤ k → k ≤ V 41 a + 1 → V 41 a + 1 - k < jj → (∀ i, 1 ≤ i → i < k → V 32 (64 * a + i) = V 32 (64 * b + i)) → am_Sem G (d + 8) 24 V T (pr_int G (d + 9) 132 [vR 86, vI a, vI b] p f0) 36 [some (vR 3), some (vI a), some (vI b), some (vI k)] [] V (am_RF sh) T 0 0 := by
      intro heq jj
      induction jj with
      | zero => intro k a1 a2 a3; omega
      | succ jj ih =>
        intro k a1 a2 a3 w
        by_cases hk : k = V 41 a + 1
        · refine am_run 400 mt_F_same ok_F_same (fun K S hK hS => ?_)
          iterate 30 (all_goals (first
            | (refine And.intro (by omega) ?_)
            | (refine And.intro (fun hb => absurd hb (by omega)) (fun hb => ?_))
            | (refine And.intro (fun hb => ?_) (fun hb => absurd hb (by omega)))
            | (refine And.intro (fun hb => ?_) (fun hb => ?_))
            | (intro hb)
            | (conv => whnf)))
          exact fin 1 (Or.inl ⟨rfl, heq, fun i i1 i2 => w i i1 (by omega)⟩)
        · have rak : 0 ≤ V 32 (64 * a + k) ∧ V 32 (64 * a + k) < p := ra.2 k a1 (by omega)
          have rbk : 0 ≤ V 32 (64 * b + k) ∧ V 32 (64 * b + k) < p := rb.2 k a1 (by omega)
          refine am_run 400 mt_F_same ok_F_same (fun K S hK hS => ?_)
          iterate 40 (all_goals (first
            | (refine And.intro (by omega) ?_)
            | (refine And.intro (fun hb => absurd hb (by omega)) (fun hb => ?_))
            | (refine And.intro (fun hb => ?_) (fun hb => absurd hb (by omega)))
            | (refine And.intro (fun hb => ?_) (fun hb => ?_))
            | (intro hb)
            | (conv => whnf)))
          · refine hS (ih (k + 1) (by omega) (by omega) (by omega) (fun i i1 i2 => ?_))
            by_cases e : i = k
            · rw [e]; assumption
            · exact w i i1 (by omega)
          · refine fin 0 (Or.inr ⟨rfl, fun q => absurd (q.2 k a1 (by omega)) (by assumption)⟩)
    refine am_run 400 mt_F_same ok_F_same (fun K S hK hS => ?_)
    iterate 30 (all_goals (first
      | (refine And.intro (by omega) ?_)
      | (refine And.intro (fun hb => absurd hb (by omega)) (fun hb => ?_))
      | (refine And.intro (fun hb => ?_) (fun hb => absurd hb (by omega)))
      | (refine And.intro (fun hb => ?_) (fun hb => ?_))
      | (intro hb)
      | (conv => whnf)))
    refine hK (s_F_noSeries h0 (fun r hr => ?_))
    iterate 30 (all_goals (first
      | (refine And.intro (by omega) ?_)
      | (refine And.intro (fun hb => absurd hb (by omega)) (fun hb => ?_))
      | (refine And.intro (fun hb => ?_) (fun hb => absurd hb (by omega)))
      | (refine And.intro (fun hb => ?_) (fun hb => ?_))
      | (intro hb)
      | (conv => whnf)))
    refine hK (s_F_noSeries h1 (fun r2 hr2 => ?_))
    iterate 40 (all_goals (first
      | (refine And.intro (by omega) ?_)
      | (refine And.intro (fun hb => absurd hb (by omega)) (fun hb => ?_))
      | (refine And.intro (fun hb => ?_) (fun hb => absurd hb (by omega)))
      | (refine And.intro (fun hb => ?_) (fun hb => ?_))
      | (intro hb)
      | (conv => whnf)))
    · exact hS (loop (by assumption) (V 41 a + 1).toNat 1 (by omega) (by omega) (by omega) (fun i i1 i2 => absurd i2 (by omega)))
    · exact fin 0 (Or.inr ⟨rfl, fun q => absurd q.1 (by assumption)⟩)
  · have bad : pr_int G (d + 9) 132 [vR 86, vI a, vI b] p f0 (some (vI (-1000001))) V (am_RF sh) T := pr_i (by omega) hJ.1 (s_M_same h0 h1 hp hzz hmm (fun _ => pr_k (II_bad hI)) (fun q => absurd q hc))
    refine am_enter mt_F_same ok_F_same rfl ?_
    refine am_run 400 mt_F_same ok_F_same (fun K S hK hS => ?_)
    iterate 30 (all_goals (first
      | (refine And.intro (by omega) ?_)
      | (refine And.intro (fun hb => absurd hb (by omega)) (fun hb => ?_))
      | (refine And.intro (fun hb => ?_) (fun hb => absurd hb (by omega)))
      | (refine And.intro (fun hb => ?_) (fun hb => ?_))
      | (intro hb)
      | (conv => whnf)))
    refine hK (s_F_noSeries h0 (fun r hr => ?_))
    iterate 30 (all_goals (first
      | (refine And.intro (by omega) ?_)
      | (refine And.intro (fun hb => absurd hb (by omega)) (fun hb => ?_))
      | (refine And.intro (fun hb => ?_) (fun hb => absurd hb (by omega)))
      | (refine And.intro (fun hb => ?_) (fun hb => ?_))
      | (intro hb)
      | (conv => whnf)))
    · exact bad
    refine hK (s_F_noSeries h1 (fun r2 hr2 => ?_))
    iterate 30 (all_goals (first
      | (refine And.intro (by omega) ?_)
      | (refine And.intro (fun hb => absurd hb (by omega)) (fun hb => ?_))
      | (refine And.intro (fun hb => ?_) (fun hb => absurd hb (by omega)))
      | (refine And.intro (fun hb => ?_) (fun hb => ?_))
      | (intro hb)
      | (conv => whnf)))
    exact bad
