/-! the class: Things made -/
theorem s_T_isCrossed {G : am_G} {d : Nat} {V : am_V} {R : am_T} {T : Nat} {Q : Option AV → am_V → am_T → Nat → Prop} {c : Nat} {n a e : Int} (hc : th_pc c) (h1 : 0 ≤ n ∧ n ≤ 10) (ha : 0 ≤ a ∧ a < e ∧ e < n) (hr : ∀ i, 0 ≤ i → i < n → am_in32 (V c i)) (hQ1 : ∀ b f, a < b → b < e → e < f → f < n → V c b = V c f → V c b ≠ V c a → Q (some (vI 1)) V R T) (hQ0 : (∀ b f, a < b → b < e → e < f → f < n → V c b = V c f → V c b = V c a) → Q (some (vI 0)) V R T) : am_Calls G (d + 1) 160 [vR c, vI n, vI a, vI e] V R T Q := by
  have c_0 : 108 ≤ c := th_pc0 hc
  have c_m := th_pclay hc
  have c_c := th_pcble hc
  have c_r := th_pcbeq hc
  have c_z := th_pcz hc
  have c_3 := th_pc3 hc
  refine am_enter mt_T_isCrossed ok_T_isCrossed rfl ?_
  have loop : ∀ (j : Nat) (b : Int) (x5 : Option AV), a < b → b ≤ e → e - b < j → (∀ b' f, a < b' → b' < b → e < f → f < n → V c b' = V c f → V c b' = V c a) → am_Sem G d 160 V T Q 5 [some (vR c), some (vI n), some (vI a), some (vI e), some (vI b), x5] [] V R T 0 0 := by
    intro j
    induction j with
    | zero => intro b x5 a1 a2 a3; omega
    | succ j ih =>
      intro b x5 a1 a2 a3 w
      by_cases hbe : b = e
      · subst hbe
        refine am_run 400 mt_T_isCrossed ok_T_isCrossed (fun K S hK hS => ?_)
        iterate 30 (all_goals (first
          | (refine And.intro (by omega) ?_)
          | (refine And.intro (by decide) ?_)
          | (refine And.intro (fun hb => absurd hb (by omega)) (fun hb => ?_))
          | (refine And.intro (fun hb => ?_) (fun hb => absurd hb (by omega)))
          | (refine And.intro (fun hb => ?_) (fun hb => ?_))
          | (intro hb)
          | (simp only [c_m, c_c, c_r, c_z, c_3])
          | (conv => whnf)))
        exact hQ0 w
      have inner : ∀ (j2 : Nat) (f : Int), e < f → f ≤ n → n - f < j2 → (∀ f', e < f' → f' < f → V c b = V c f' → V c b = V c a) → am_Sem G d 160 V T Q 16 [some (vR c), some (vI n), some (vI a), some (vI e), some (vI b), some (vI f)] [] V R T 0 0 := by
        intro j2
        induction j2 with
        | zero => intro f b1 b2 b3; omega
        | succ j2 ih2 =>
          intro f b1 b2 b3 w2
          by_cases hfn : f = n
          · subst hfn
            refine am_run 400 mt_T_isCrossed ok_T_isCrossed (fun K S hK hS => ?_)
            iterate 30 (all_goals (first
              | (refine And.intro (by omega) ?_)
              | (refine And.intro (by decide) ?_)
              | (refine And.intro (fun hb => absurd hb (by omega)) (fun hb => ?_))
              | (refine And.intro (fun hb => ?_) (fun hb => absurd hb (by omega)))
              | (refine And.intro (fun hb => ?_) (fun hb => ?_))
              | (intro hb)
              | (simp only [c_m, c_c, c_r, c_z, c_3])
              | (conv => whnf)))
            refine hS (ih (b + 1) _ (by omega) (by omega) (by omega) (fun b' f' q1 q2 q3 q4 q5 => ?_))
            by_cases e2 : b' = b
            · rw [e2] at q5 ⊢
              exact w2 f' q3 q4 q5
            · exact w b' f' q1 (by omega) q3 q4 q5
          have r1 := hr b (by omega) (by omega)
          have r2 := hr f (by omega) (by omega)
          have r3 := hr a (by omega) (by omega)
          refine am_run 400 mt_T_isCrossed ok_T_isCrossed (fun K S hK hS => ?_)
          iterate 30 (all_goals (first
            | (refine And.intro (by omega) ?_)
            | (refine And.intro (by decide) ?_)
            | (refine And.intro (⟨r1, r2⟩) ?_)
            | (refine And.intro (⟨r1, r3⟩) ?_)
            | (refine And.intro (fun hb => absurd hb (by omega)) (fun hb => ?_))
            | (refine And.intro (fun hb => ?_) (fun hb => absurd hb (by omega)))
            | (refine And.intro (fun hb => ?_) (fun hb => ?_))
            | (intro hb)
            | (simp only [c_m, c_c, c_r, c_z, c_3])
            | (conv => whnf)))
          · refine hS (ih2 (f + 1) (by omega) (by omega) (by omega) (fun f' q1 q2 q3 => ?_))
            by_cases e2 : f' = f
            · rw [e2] at q3; contradiction
            · exact w2 f' q1 (by omega) q3
          · refine hS (ih2 (f + 1) (by omega) (by omega) (by omega) (fun f' q1 q2 q3 => ?_))
            by_cases e2 : f' = f
            · assumption
            · exact w2 f' q1 (by omega) q3
          · exact hQ1 b f a1 (by omega) b1 (by omega) (by assumption) (by assumption)
      refine am_run 400 mt_T_isCrossed ok_T_isCrossed (fun K S hK hS => ?_)
      iterate 30 (all_goals (first
        | (refine And.intro (by omega) ?_)
        | (refine And.intro (by decide) ?_)
        | (refine And.intro (fun hb => absurd hb (by omega)) (fun hb => ?_))
        | (refine And.intro (fun hb => ?_) (fun hb => absurd hb (by omega)))
        | (refine And.intro (fun hb => ?_) (fun hb => ?_))
        | (intro hb)
        | (simp only [c_m, c_c, c_r, c_z, c_3])
        | (conv => whnf)))
      exact hS (inner (n - e).toNat (e + 1) (by omega) (by omega) (by omega) (fun f' q1 q2 => absurd q2 (by omega)))
  refine am_run 400 mt_T_isCrossed ok_T_isCrossed (fun K S hK hS => ?_)
  iterate 30 (all_goals (first
    | (refine And.intro (by omega) ?_)
    | (refine And.intro (by decide) ?_)
    | (refine And.intro (fun hb => absurd hb (by omega)) (fun hb => ?_))
    | (refine And.intro (fun hb => ?_) (fun hb => absurd hb (by omega)))
    | (refine And.intro (fun hb => ?_) (fun hb => ?_))
    | (intro hb)
    | (simp only [c_m, c_c, c_r, c_z, c_3])
    | (conv => whnf)))
  exact hS (loop (e - a).toNat (a + 1) _ (by omega) (by omega) (by omega) (fun b' f' q1 q2 => absurd q2 (by omega)))
theorem s_T_crossesItself {G : am_G} {d : Nat} {V : am_V} {R : am_T} {T : Nat} {Q : Option AV → am_V → am_T → Nat → Prop} {c : Nat} {n : Int} (hc : th_pc c) (h1 : 0 ≤ n ∧ n ≤ 10) (hr : ∀ i, 0 ≤ i → i < n → am_in32 (V c i)) (hQ1 : m_Cr (V c) n → Q (some (vI 1)) V R T) (hQ0 : ¬ m_Cr (V c) n → Q (some (vI 0)) V R T) : am_Calls G (d + 2) 159 [vR c, vI n] V R T Q := by
  have c_0 : 108 ≤ c := th_pc0 hc
  have c_m := th_pclay hc
  have c_c := th_pcble hc
  have c_r := th_pcbeq hc
  have c_z := th_pcz hc
  have c_3 := th_pc3 hc
  refine am_enter mt_T_crossesItself ok_T_crossesItself rfl ?_
  have loop : ∀ (j : Nat) (a : Int) (x3 : Option AV), 0 ≤ a → a ≤ n → n - a < j → (∀ a' b' c' d', 0 ≤ a' → a' < a → a' < b' → b' < c' → c' < d' → d' < n → ¬ m_E (V c) a' b' c' d') → am_Sem G (d + 1) 159 V T Q 2 [some (vR c), some (vI n), some (vI a), x3] [] V R T 0 0 := by
    intro j
    induction j with
    | zero => intro a x3 a1 a2 a3; omega
    | succ j ih =>
      intro a x3 a1 a2 a3 w
      by_cases han : a = n
      · subst han
        refine am_run 400 mt_T_crossesItself ok_T_crossesItself (fun K S hK hS => ?_)
        iterate 30 (all_goals (first
          | (refine And.intro (by omega) ?_)
          | (refine And.intro (by decide) ?_)
          | (refine And.intro (fun hb => absurd hb (by omega)) (fun hb => ?_))
          | (refine And.intro (fun hb => ?_) (fun hb => absurd hb (by omega)))
          | (refine And.intro (fun hb => ?_) (fun hb => ?_))
          | (intro hb)
          | (simp only [c_m, c_c, c_r, c_z, c_3])
          | (conv => whnf)))
        exact hQ0 (fun ⟨a', b', c', d', q0, q1, q2, q3, q4, q5⟩ => w a' b' c' d' q0 (by omega) q1 q2 q3 q4 q5)
      have inner : ∀ (j2 : Nat) (e : Int), a + 2 ≤ e → e ≤ n + 1 → n - e < j2 → (∀ b' c' d', c' < e → a < b' → b' < c' → c' < d' → d' < n → ¬ m_E (V c) a b' c' d') → am_Sem G (d + 1) 159 V T Q 11 [some (vR c), some (vI n), some (vI a), some (vI e)] [] V R T 0 0 := by
        intro j2
        induction j2 with
        | zero =>
          intro e b1 b0 b2 w2
          refine am_run 400 mt_T_crossesItself ok_T_crossesItself (fun K S hK hS => ?_)
          iterate 30 (all_goals (first
            | (refine And.intro (by omega) ?_)
            | (refine And.intro (by decide) ?_)
            | (refine And.intro (fun hb => absurd hb (by omega)) (fun hb => ?_))
            | (refine And.intro (fun hb => ?_) (fun hb => absurd hb (by omega)))
            | (refine And.intro (fun hb => ?_) (fun hb => ?_))
            | (intro hb)
            | (simp only [c_m, c_c, c_r, c_z, c_3])
            | (conv => whnf)))
          refine hS (ih (a + 1) _ (by omega) (by omega) (by omega) (fun a' b' c' d' q0 q1 q2 q3 q4 q5 => ?_))
          by_cases e2 : a' = a
          · rw [e2]; exact w2 b' c' d' (by omega) (by omega) q3 q4 q5
          · exact w a' b' c' d' q0 (by omega) q2 q3 q4 q5
        | succ j2 ih2 =>
          intro e b1 b0 b2 w2
          by_cases hen : n ≤ e
          · refine am_run 400 mt_T_crossesItself ok_T_crossesItself (fun K S hK hS => ?_)
            iterate 30 (all_goals (first
              | (refine And.intro (by omega) ?_)
              | (refine And.intro (by decide) ?_)
              | (refine And.intro (fun hb => absurd hb (by omega)) (fun hb => ?_))
              | (refine And.intro (fun hb => ?_) (fun hb => absurd hb (by omega)))
              | (refine And.intro (fun hb => ?_) (fun hb => ?_))
              | (intro hb)
              | (simp only [c_m, c_c, c_r, c_z, c_3])
              | (conv => whnf)))
            refine hS (ih (a + 1) _ (by omega) (by omega) (by omega) (fun a' b' c' d' q0 q1 q2 q3 q4 q5 => ?_))
            by_cases e2 : a' = a
            · rw [e2]; exact w2 b' c' d' (by omega) (by omega) q3 q4 q5
            · exact w a' b' c' d' q0 (by omega) q2 q3 q4 q5
          have r1 := hr a (by omega) (by omega)
          have r2 := hr e (by omega) (by omega)
          have nx : (∀ b' d', a < b' → b' < e → e < d' → d' < n → ¬ m_E (V c) a b' e d') → am_Sem G (d + 1) 159 V T Q 11 [some (vR c), some (vI n), some (vI a), some (vI (e + 1))] [] V R T 0 0 := fun w3 => ih2 (e + 1) (by omega) (by omega) (by omega) (fun b' c' d' q1 q2 q3 q4 q5 => by
            by_cases e2 : c' = e
            · rw [e2] at q3 q4 ⊢; exact w3 b' d' q2 q3 q4 q5
            · exact w2 b' c' d' (by omega) q2 q3 q4 q5)
          refine am_run 400 mt_T_crossesItself ok_T_crossesItself (fun K S hK hS => ?_)
          iterate 30 (all_goals (first
            | (refine And.intro (by omega) ?_)
            | (refine And.intro (by decide) ?_)
            | (refine And.intro (⟨r1, r2⟩) ?_)
            | (refine And.intro (fun hb => absurd hb (by omega)) (fun hb => ?_))
            | (refine And.intro (fun hb => ?_) (fun hb => absurd hb (by omega)))
            | (refine And.intro (fun hb => ?_) (fun hb => ?_))
            | (intro hb)
            | (simp only [c_m, c_c, c_r, c_z, c_3])
            | (conv => whnf)))
          · have q := hb
            exact hS (nx (fun b' d' q1 q2 q3 q4 q5 => q q5.2.2))
          · have q := hb
            refine hK (s_T_isCrossed hc h1 ⟨by omega, by omega, by omega⟩ hr (fun b f q1 q2 q3 q4 q5 q6 => ?_) (fun w4 => ?_))
            · iterate 30 (all_goals (first
                | (refine And.intro (by omega) ?_)
                | (refine And.intro (fun hb => absurd hb (by omega)) (fun hb => ?_))
                | (refine And.intro (fun hb => ?_) (fun hb => absurd hb (by omega)))
                | (refine And.intro (fun hb => ?_) (fun hb => ?_))
                | (intro hb)
                | (conv => whnf)))
              exact hQ1 ⟨a, b, e, f, a1, q1, q2, q3, q4, q5, fun q7 => q6 (by rw [q5, ← q7, q]), q⟩
            · iterate 30 (all_goals (first
                | (refine And.intro (by omega) ?_)
                | (refine And.intro (fun hb => absurd hb (by omega)) (fun hb => ?_))
                | (refine And.intro (fun hb => ?_) (fun hb => absurd hb (by omega)))
                | (refine And.intro (fun hb => ?_) (fun hb => ?_))
                | (intro hb)
                | (conv => whnf)))
              exact hS (nx (fun b' d' q1 q2 q3 q4 q5 => q5.2.1 (by rw [← q, ← w4 b' d' q1 q2 q3 q4 q5.1, q5.1])))
      refine am_run 400 mt_T_crossesItself ok_T_crossesItself (fun K S hK hS => ?_)
      iterate 30 (all_goals (first
        | (refine And.intro (by omega) ?_)
        | (refine And.intro (by decide) ?_)
        | (refine And.intro (fun hb => absurd hb (by omega)) (fun hb => ?_))
        | (refine And.intro (fun hb => ?_) (fun hb => absurd hb (by omega)))
        | (refine And.intro (fun hb => ?_) (fun hb => ?_))
        | (intro hb)
        | (simp only [c_m, c_c, c_r, c_z, c_3])
        | (conv => whnf)))
      exact hS (inner (n - a).toNat (a + 2) (by omega) (by omega) (by omega) (fun b' c' d' q1 q2 q3 => absurd q3 (by omega)))
  refine am_run 400 mt_T_crossesItself ok_T_crossesItself (fun K S hK hS => ?_)
  iterate 30 (all_goals (first
    | (refine And.intro (by omega) ?_)
    | (refine And.intro (by decide) ?_)
    | (refine And.intro (fun hb => absurd hb (by omega)) (fun hb => ?_))
    | (refine And.intro (fun hb => ?_) (fun hb => absurd hb (by omega)))
    | (refine And.intro (fun hb => ?_) (fun hb => ?_))
    | (intro hb)
    | (simp only [c_m, c_c, c_r, c_z, c_3])
    | (conv => whnf)))
  exact hS (loop (n + 1).toNat 0 _ (by omega) (by omega) (by omega) (fun a' b' c' d' q0 q1 => absurd q1 (by omega)))
/-- numbers that never fall are rows, and cross nothing -/
theorem m_mono {g : Int → Int} {n : Int} (h : ∀ k, 1 ≤ k → k < n → g (k - 1) ≤ g k) : ∀ (m : Nat) (i j : Int), 0 ≤ i → i ≤ j → j < n → j - i ≤ m → g i ≤ g j := by
  intro m
  induction m with
  | zero => intro i j a b c e; rw [show i = j by omega]; exact Int.le_refl _
  | succ m ih =>
    intro i j a b c e
    by_cases hij : i = j
    · rw [hij]; exact Int.le_refl _
    · exact Int.le_trans (ih i (j - 1) a (by omega) (by omega) (by omega)) (h j (by omega) c)
theorem m_mono_free {g : Int → Int} {n : Int} (h : ∀ k, 1 ≤ k → k < n → g (k - 1) ≤ g k) : ¬ m_Cr g n := by
  rintro ⟨a, b, c, e, q0, q1, q2, q3, q4, q5, q6, q7⟩
  have h1 := m_mono h (b - a).toNat a b q0 (by omega) (by omega) (by omega)
  have h2 := m_mono h (c - b).toNat b c (by omega) (by omega) (by omega) (by omega)
  have h3 : g c = g b := by omega
  exact q6 (by rw [h3, q5])
theorem m_rows_mono {g : Int → Int} {n : Int} (h : m_rows g n) : ∀ k, 1 ≤ k → k < n → g (k - 1) ≤ g k := fun k a b => by
  rcases h k a b with q | q <;> omega
theorem m_mono_rows {g : Int → Int} {n : Int} (hg : m_rgs g n) (h : ∀ k, 1 ≤ k → k < n → g (k - 1) ≤ g k) : m_rows g n := by
  intro k a b
  have h0 := h k a b
  obtain ⟨h1, h2 | ⟨j, j1, j2, j3⟩⟩ := hg k (by omega) b
  · have := (hg (k - 1) (by omega) (by omega)).1
    omega
  · have := m_mono h (k - 1 - j).toNat j (k - 1) j1 (by omega) (by omega) (by omega)
    omega
/-- every number below the greatest is met -/
theorem m_rgs_all {g : Int → Int} {n : Int} (hg : m_rgs g n) : ∀ (m : Nat) (i b : Int), 0 ≤ i → i < n → 0 ≤ b → b ≤ g i → g i - b ≤ m → ∃ j, 0 ≤ j ∧ j < n ∧ g j = b := by
  intro m
  induction m with
  | zero => intro i b a1 a2 a3 a4 a5; exact ⟨i, a1, a2, by omega⟩
  | succ m ih =>
    intro i b a1 a2 a3 a4 a5
    by_cases e : g i = b
    · exact ⟨i, a1, a2, e⟩
    · obtain ⟨h1, h2 | ⟨j, j1, j2, j3⟩⟩ := hg i a1 a2
      · omega
      · exact ih j b j1 (by omega) a3 (by omega) (by omega)
theorem m_nb_met {g : Int → Int} {n r b : Int} (hg : m_rgs g n) (h : m_nb g n r) (h0 : 0 ≤ b) (h1 : b < r) : ∃ j, 0 ≤ j ∧ j < n ∧ g j = b := by
  obtain ⟨a1, a2, a3 | ⟨i, i1, i2, i3⟩⟩ := h
  · omega
  · exact m_rgs_all hg (g i - b).toNat i b i1 i2 h0 (by omega) (by omega)
theorem s_T_kindToTell {G : am_G} {d : Nat} {V : am_V} {R : am_T} {T : Nat} {Q : Option AV → am_V → am_T → Nat → Prop} {c : Nat} {n f : Int} (hc : th_pc c) (h1 : 1 ≤ n ∧ n ≤ 10) (hg : m_rgs (V c) n) (hf : (f = 1 ∧ m_prs (V c) n) ∨ (f = 0 ∧ ¬ m_prs (V c) n)) (hQ : ∀ r, m_kd (V c) n r → Q (some (vI r)) V R T) : am_Calls G (d + 3) 157 [vR c, vI n, vI f] V R T Q := by
  have hr : ∀ i, 0 ≤ i → i < n → am_in32 (V c i) := fun i a b => by
    have := m_rgs_lt hg a b
    constructor <;> omega
  have hf01 : f = 0 ∨ f = 1 := by
    rcases hf with ⟨a, -⟩ | ⟨a, -⟩
    · exact Or.inr a
    · exact Or.inl a
  have hp1 : f ≠ 0 → m_prs (V c) n := fun q => hf.elim (fun a => a.2) (fun a => absurd a.1 q)
  have hp0 : f = 0 → ¬ m_prs (V c) n := fun q => hf.elim (fun a => absurd (q.symm.trans a.1) (by decide)) (fun a => a.2)
  clear hf
  have c_0 : 108 ≤ c := th_pc0 hc
  have c_m := th_pclay hc
  have c_c := th_pcble hc
  have c_r := th_pcbeq hc
  have c_z := th_pcz hc
  have c_3 := th_pc3 hc
  refine am_enter mt_T_kindToTell ok_T_kindToTell rfl ?_
  refine am_run 400 mt_T_kindToTell ok_T_kindToTell (fun K S hK hS => ?_)
  iterate 30 (all_goals (first
    | (refine And.intro (by omega) ?_)
    | (refine And.intro (fun hb => absurd hb (by omega)) (fun hb => ?_))
    | (refine And.intro (fun hb => ?_) (fun hb => absurd hb (by omega)))
    | (refine And.intro (fun hb => ?_) (fun hb => ?_))
    | (intro hb)
    | (conv => whnf)))
  refine hK (s_T_inRows hc h1 hr (fun w => ?_) (fun k q1 q2 q3 => ?_))
  · iterate 30 (all_goals (first
      | (refine And.intro (by omega) ?_)
      | (refine And.intro (fun hb => absurd hb (by omega)) (fun hb => ?_))
      | (refine And.intro (fun hb => ?_) (fun hb => absurd hb (by omega)))
      | (refine And.intro (fun hb => ?_) (fun hb => ?_))
      | (intro hb)
      | (conv => whnf)))
    exact hQ 2 (Or.inl ⟨rfl, m_mono_free w, m_mono_rows hg w⟩)
  · have nr : ¬ m_rows (V c) n := fun w => absurd (m_rows_mono w k q1 q2) (by omega)
    iterate 30 (all_goals (first
      | (refine And.intro (by omega) ?_)
      | (refine And.intro (fun hb => absurd hb (by omega)) (fun hb => ?_))
      | (refine And.intro (fun hb => ?_) (fun hb => absurd hb (by omega)))
      | (refine And.intro (fun hb => ?_) (fun hb => ?_))
      | (intro hb)
      | (conv => whnf)))
    refine hK (s_T_crossesItself hc (by omega) hr (fun w => ?_) (fun w => ?_))
    · iterate 30 (all_goals (first
        | (refine And.intro (by omega) ?_)
        | (refine And.intro (fun hb => absurd hb (by omega)) (fun hb => ?_))
        | (refine And.intro (fun hb => ?_) (fun hb => absurd hb (by omega)))
        | (refine And.intro (fun hb => ?_) (fun hb => ?_))
        | (intro hb)
        | (conv => whnf)))
      · exact hQ 0 (Or.inr (Or.inr (Or.inr (Or.inr ⟨rfl, w, hp0 (by assumption)⟩))))
      · exact hQ 4 (Or.inr (Or.inr (Or.inr (Or.inl ⟨rfl, w, hp1 (by assumption)⟩))))
    · iterate 30 (all_goals (first
        | (refine And.intro (by omega) ?_)
        | (refine And.intro (fun hb => absurd hb (by omega)) (fun hb => ?_))
        | (refine And.intro (fun hb => ?_) (fun hb => absurd hb (by omega)))
        | (refine And.intro (fun hb => ?_) (fun hb => ?_))
        | (intro hb)
        | (conv => whnf)))
      · exact hQ 1 (Or.inr (Or.inr (Or.inl ⟨rfl, w, nr, hp0 (by assumption)⟩)))
      · exact hQ 3 (Or.inr (Or.inl ⟨rfl, w, nr, hp1 (by assumption)⟩))
