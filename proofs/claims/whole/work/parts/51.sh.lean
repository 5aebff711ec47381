/-! sheets -/
theorem s_M_sheet {G : am_G} {d : Nat} {sh : Int → Option Nat} {V : am_V} {T : Nat} {Q : Option AV → am_V → am_T → Nat → Prop} {s l n : Int} (h0 : am_in32 s) (h1 : am_in32 l) (h2 : am_in32 n)
    (hB : ¬ (0 ≤ s ∧ s < 8 ∧ 0 ≤ l ∧ l ≤ 2 ∧ n ≤ 40) → Q (some (vI (-1000001))) (am_up V 86 0 0) (am_RF sh) T)
    (hZ : (0 ≤ s ∧ s < 8 ∧ 0 ≤ l ∧ l ≤ 2 ∧ n ≤ 40) → n < 0 → Q (some (vI (-1000014))) (am_up (am_up (am_up V 86 0 0) 86 1 0) 86 1 4) (am_RF sh) T)
    (hQ : (0 ≤ s ∧ s < 8 ∧ 0 ≤ l ∧ l ≤ 2 ∧ n ≤ 40) → 0 ≤ n → ∀ V', (∀ a, a ≠ 89 → V' a = am_up (am_up (am_up (am_up V 86 0 0) 86 1 0) 87 s l) 88 s n a) → (∀ k, 0 ≤ k → k < 40 → V' 89 (40 * s + k) = 0) → (∀ j, ¬ (40 * s ≤ j ∧ j < 40 * s + 40) → V' 89 j = V 89 j) → Q (some (vI n)) V' (am_RF sh) T) : am_Calls G (d + 3) 72 [vR 86, vI s, vI l, vI n] V (am_RF sh) T Q := by
  refine am_enter mt_M_sheet ok_M_sheet rfl ?_
  have loop : ∀ (j : Nat) (k : Int) (W : am_V), (0 ≤ s ∧ s < 8 ∧ 0 ≤ l ∧ l ≤ 2 ∧ n ≤ 40) → 0 ≤ n → 0 ≤ k → k ≤ 40 → 40 - k < j → (∀ a, a ≠ 89 → W a = am_up (am_up (am_up (am_up V 86 0 0) 86 1 0) 87 s l) 88 s n a) → (∀ i, 0 ≤ i → i < k → W 89 (40 * s + i) = 0) → (∀ j, ¬ (40 * s ≤ j ∧ j < 40 * s + k) → W 89 j = V 89 j) → am_Sem G (d + 2) 72 V T Q 65 [some (vR 86), some (vI s), some (vI l), some (vI n), some (vI k)] [] W (am_RF sh) T 0 0 := by
    intro j
    induction j with
    | zero => intro k W hc q0 q1 q2 q3; omega
    | succ j ih =>
      intro k W hc q0 q1 q2 q3 w1 w2 w3
      by_cases hk : k = 40
      · subst hk
        refine am_run 400 mt_M_sheet ok_M_sheet (fun K S hK hS => ?_)
        iterate 30 (all_goals (first
          | (refine And.intro (by omega) ?_)
          | (refine And.intro (fun hb => absurd hb (by omega)) (fun hb => ?_))
          | (refine And.intro (fun hb => ?_) (fun hb => absurd hb (by omega)))
          | (refine And.intro (fun hb => ?_) (fun hb => ?_))
          | (intro hb)
          | (conv => whnf)))
        exact hQ hc q0 W w1 w2 w3
      · refine am_run 400 mt_M_sheet ok_M_sheet (fun K S hK hS => ?_)
        iterate 30 (all_goals (first
          | (refine And.intro (by omega) ?_)
          | (refine And.intro (fun hb => absurd hb (by omega)) (fun hb => ?_))
          | (refine And.intro (fun hb => ?_) (fun hb => absurd hb (by omega)))
          | (refine And.intro (fun hb => ?_) (fun hb => ?_))
          | (intro hb)
          | (conv => whnf)))
        refine hS (ih (k + 1) _ hc q0 (by omega) (by omega) (by omega) (fun a ha => by rw [am_up_ne ha, w1 a ha]) (fun i a b => ?_) (fun i a => by rw [am_up_at, if_neg (by omega), w3 i (by omega)]))
        rw [am_up_at]
        by_cases e : i = k
        · rw [if_pos (by omega)]
        · rw [if_neg (by omega), w2 i a (by omega)]
  refine am_run 400 mt_M_sheet ok_M_sheet (fun K S hK hS => ?_)
  iterate 30 (all_goals (first
    | (refine And.intro (by omega) ?_)
    | (refine And.intro (fun hb => absurd hb (by omega)) (fun hb => ?_))
    | (refine And.intro (fun hb => ?_) (fun hb => absurd hb (by omega)))
    | (refine And.intro (fun hb => ?_) (fun hb => ?_))
    | (intro hb)
    | (conv => whnf)))
  refine hK (s_M_isSheet h0 (fun r hr => ?_))
  iterate 30 (all_goals (first
    | (refine And.intro (by omega) ?_)
    | (refine And.intro (fun hb => absurd hb (by omega)) (fun hb => ?_))
    | (refine And.intro (fun hb => ?_) (fun hb => absurd hb (by omega)))
    | (refine And.intro (fun hb => ?_) (fun hb => ?_))
    | (intro hb)
    | (conv => whnf)))
  · exact hB (by omega)
  refine hK (s_M_in (by omega) (by omega) (by omega) (fun r2 hr2 => ?_))
  iterate 30 (all_goals (first
    | (refine And.intro (by omega) ?_)
    | (refine And.intro (fun hb => absurd hb (by omega)) (fun hb => ?_))
    | (refine And.intro (fun hb => ?_) (fun hb => absurd hb (by omega)))
    | (refine And.intro (fun hb => ?_) (fun hb => ?_))
    | (intro hb)
    | (conv => whnf)))
  · exact hB (by omega)
  · exact hS (loop 41 0 _ (by omega) (by omega) (by omega) (by omega) (by omega) (fun _ _ => rfl) (fun i a b => absurd b (by omega)) (fun _ _ => rfl))
  · refine hK (s_M_found ?_)
    iterate 30 (all_goals (first
      | (refine And.intro (by omega) ?_)
      | (refine And.intro (fun hb => absurd hb (by omega)) (fun hb => ?_))
      | (refine And.intro (fun hb => ?_) (fun hb => absurd hb (by omega)))
      | (refine And.intro (fun hb => ?_) (fun hb => ?_))
      | (intro hb)
      | (conv => whnf)))
    exact hZ (by omega) (by omega)
  · exact hB (by omega)
theorem pr_sheet {G : am_G} {d : Nat} {sh : Int → Option Nat} {V : am_V} {T : Nat} {p : Int} {f0 : Int → Int} {s l n : Int} (hI : II V sh T p f0) (h0 : am_in32 s) (h1 : am_in32 l) (h2 : am_in32 n) : am_Calls G (d + 9) 1 [vR 3, vI s, vI l, vI n] V (am_RF sh) T (pr_int G (d + 9) 72 [vR 86, vI s, vI l, vI n] p f0) := by
  obtain ⟨hJ, hst⟩ := hI
  have bad : ¬ (0 ≤ s ∧ s < 8 ∧ 0 ≤ l ∧ l ≤ 2 ∧ n ≤ 40) → pr_int G (d + 9) 72 [vR 86, vI s, vI l, vI n] p f0 (some (vI (-1000001))) V (am_RF sh) T := fun hc =>
    pr_i ⟨by omega, by omega⟩ hJ.1 (s_M_sheet h0 h1 h2 (fun _ => pr_e (IJ_86 hJ (Or.inl rfl)) (by rw [am_up_at, if_neg (by decide), am_up_ne (by decide)]; exact hst)) (fun q => absurd q hc) (fun q => absurd q hc))
  refine am_enter mt_F_sheet ok_F_sheet rfl ?_
  refine am_run 400 mt_F_sheet ok_F_sheet (fun K S hK hS => ?_)
  iterate 30 (all_goals (first
    | (refine And.intro (by omega) ?_)
    | (refine And.intro (fun hb => absurd hb (by omega)) (fun hb => ?_))
    | (refine And.intro (fun hb => ?_) (fun hb => absurd hb (by omega)))
    | (refine And.intro (fun hb => ?_) (fun hb => ?_))
    | (intro hb)
    | (conv => whnf)))
  refine hK (s_F_noSheet h0 (fun r hr => ?_))
  iterate 30 (all_goals (first
    | (refine And.intro (by omega) ?_)
    | (refine And.intro (fun hb => absurd hb (by omega)) (fun hb => ?_))
    | (refine And.intro (fun hb => ?_) (fun hb => absurd hb (by omega)))
    | (refine And.intro (fun hb => ?_) (fun hb => ?_))
    | (intro hb)
    | (conv => whnf)))
  all_goals (try exact bad (by omega))
  · have hc : 0 ≤ s ∧ s < 8 ∧ 0 ≤ l ∧ l ≤ 2 ∧ n ≤ 40 := by omega
    refine hK (s_JA_fillJrow (by omega) (fun W w1 w2 w3 => ?_))
    iterate 30 (all_goals (first
      | (refine And.intro (by omega) ?_)
      | (refine And.intro (fun hb => absurd hb (by omega)) (fun hb => ?_))
      | (refine And.intro (fun hb => ?_) (fun hb => absurd hb (by omega)))
      | (refine And.intro (fun hb => ?_) (fun hb => ?_))
      | (intro hb)
      | (conv => whnf)))
    refine hK (s_F_fine ?_)
    iterate 30 (all_goals (first
      | (refine And.intro (by omega) ?_)
      | (refine And.intro (fun hb => absurd hb (by omega)) (fun hb => ?_))
      | (refine And.intro (fun hb => ?_) (fun hb => absurd hb (by omega)))
      | (refine And.intro (fun hb => ?_) (fun hb => ?_))
      | (intro hb)
      | (conv => whnf)))
    refine pr_i (by omega) (by rw [am_up_ne (by decide), w1 0 (by decide)]; exact hJ.1) (s_M_sheet h0 h1 h2 (fun q => absurd hc q) (fun _ q => absurd q (by omega)) (fun _ _ U u1 u2 u3 => ?_))
    have fU : ∀ a, a ≠ 3 → a ≠ 86 → a ≠ 4 → a ≠ 13 → a ≠ 14 → a ≠ 87 → a ≠ 88 → a ≠ 89 → U a = V a := fun a q1 q2 q3 q4 q5 q6 q7 q8 => by
      rw [u1 a q8, am_up_ne q7, am_up_ne q6, am_up_ne q2, am_up_ne q2, am_up_ne q1, w1 a q3, am_up_ne q5, am_up_ne q4]
    have e3 : ∀ j, U 3 j = am_up V 3 17 0 3 j := fun j => by
      rw [u1 3 (by decide), am_up_ne (by decide), am_up_ne (by decide), am_up_ne (by decide), am_up_ne (by decide), am_up_at, am_up_at, w1 3 (by decide), am_up_ne (by decide), am_up_ne (by decide)]
    have e86 : ∀ j, U 86 j = am_up (am_up V 86 0 0) 86 1 0 86 j := fun j => by
      rw [u1 86 (by decide), am_up_ne (by decide), am_up_ne (by decide), am_up_at, am_up_at, am_up_at, am_up_at, am_up_ne (by decide), w1 86 (by decide), am_up_ne (by decide), am_up_ne (by decide)]
    have e13 : ∀ j, U 13 j = if j = s then l else V 13 j := fun j => by
      rw [u1 13 (by decide), am_up_ne (by decide), am_up_ne (by decide), am_up_ne (by decide), am_up_ne (by decide), am_up_ne (by decide), w1 13 (by decide), am_up_ne (by decide), am_up_at]
    have e14 : ∀ j, U 14 j = if j = s then n else V 14 j := fun j => by
      rw [u1 14 (by decide), am_up_ne (by decide), am_up_ne (by decide), am_up_ne (by decide), am_up_ne (by decide), am_up_ne (by decide), w1 14 (by decide), am_up_at, am_up_ne (by decide)]
    have e87 : ∀ j, U 87 j = if j = s then l else V 87 j := fun j => by
      rw [u1 87 (by decide), am_up_ne (by decide), am_up_at, am_up_ne (by decide), am_up_ne (by decide), am_up_ne (by decide), w1 87 (by decide), am_up_ne (by decide), am_up_ne (by decide)]
    have e88 : ∀ j, U 88 j = if j = s then n else V 88 j := fun j => by
      rw [u1 88 (by decide), am_up_at, am_up_ne (by decide), am_up_ne (by decide), am_up_ne (by decide), am_up_ne (by decide), w1 88 (by decide), am_up_ne (by decide), am_up_ne (by decide)]
    have e4 : U 4 = W 4 := by
      rw [u1 4 (by decide), am_up_ne (by decide), am_up_ne (by decide), am_up_ne (by decide), am_up_ne (by decide), am_up_ne (by decide)]
    refine pr_e (IJ_sh hJ (fun a q q1 q2 q3 q4 q5 q6 => fU a (by omega) (by omega) q1 q2 q3 q4 q5 q6) (fun j q => by rw [e3, am_up_at, if_neg q]) (fun j q1 q2 => by rw [e86, am_up_at, if_neg q2, am_up_at, if_neg q1]) ⟨fU 65 (by decide) (by decide) (by decide) (by decide) (by decide) (by decide) (by decide) (by decide), fU 76 (by decide) (by decide) (by decide) (by decide) (by decide) (by decide) (by decide) (by decide)⟩ (fun x a b => ?_) (fun x a b i c e => ?_)) (by rw [e3, e86, am_up_same, am_up_same]; exact ⟨rfl, by omega, by omega⟩)
    · rw [e13, e14, e87, e88]
      by_cases e : x = s
      · rw [if_pos e, if_pos e, if_pos e, if_pos e]
        exact Or.inr ⟨by omega, rfl, by omega, rfl⟩
      · rw [if_neg e, if_neg e, if_neg e, if_neg e]
        exact hJ.2.1 x a b
    · rw [e4]
      by_cases e2 : x = s
      · rw [e2, w2 i c e, u2 i c e]
        exact ⟨⟨by omega, by omega⟩, rfl⟩
      · rw [w3 _ (by omega), u3 _ (by omega), am_up_ne (by decide), am_up_ne (by decide), am_up_ne (by decide), w1 89 (by decide), am_up_ne (by decide), am_up_ne (by decide)]
        exact hJ.2.2.1 x a b i c e
  · have hc : 0 ≤ s ∧ s < 8 ∧ 0 ≤ l ∧ l ≤ 2 ∧ n ≤ 40 := by omega
    refine hK (s_F_finding ?_)
    iterate 30 (all_goals (first
      | (refine And.intro (by omega) ?_)
      | (refine And.intro (fun hb => absurd hb (by omega)) (fun hb => ?_))
      | (refine And.intro (fun hb => ?_) (fun hb => absurd hb (by omega)))
      | (refine And.intro (fun hb => ?_) (fun hb => ?_))
      | (intro hb)
      | (conv => whnf)))
    refine pr_i ⟨by omega, by omega⟩ (by rw [am_up_ne (by decide)]; exact hJ.1) (s_M_sheet h0 h1 h2 (fun q => absurd hc q) (fun _ _ => pr_e (IJ_86 (IJ_86 (IJ_86 (IJ_3 hJ) (Or.inl rfl)) (Or.inr rfl)) (Or.inr rfl)) ?_) (fun _ q => absurd q (by omega)))
    rw [am_up_at, if_pos rfl, am_up_ne (by decide), am_up_ne (by decide), am_up_ne (by decide), am_up_at, if_pos rfl]
    exact ⟨rfl, by omega, by omega⟩
theorem pr_drop {G : am_G} {d : Nat} {sh : Int → Option Nat} {V : am_V} {T : Nat} {p : Int} {f0 : Int → Int} {s : Int} (hI : II V sh T p f0) (h0 : am_in32 s) : am_Calls G (d + 9) 4 [vR 3, vI s] V (am_RF sh) T (pr_int G (d + 9) 75 [vR 86, vI s] p f0) := by
  obtain ⟨hJ, hst⟩ := hI
  have hst2 : V 86 1 = V 3 17 ∧ 0 ≤ V 3 17 ∧ V 3 17 ≤ 5 := hst
  by_cases hs : 0 ≤ s ∧ s < 8
  · have hsh := hJ.2.1 s hs.1 hs.2
    refine am_enter mt_F_drop ok_F_drop rfl ?_
    refine am_run 400 mt_F_drop ok_F_drop (fun K S hK hS => ?_)
    iterate 30 (all_goals (first
      | (refine And.intro (by omega) ?_)
      | (refine And.intro (fun hb => absurd hb (by omega)) (fun hb => ?_))
      | (refine And.intro (fun hb => ?_) (fun hb => absurd hb (by omega)))
      | (refine And.intro (fun hb => ?_) (fun hb => ?_))
      | (intro hb)
      | (conv => whnf)))
    refine hK (s_F_noSheet h0 (fun r hr => ?_))
    iterate 30 (all_goals (first
      | (refine And.intro (by omega) ?_)
      | (refine And.intro (fun hb => absurd hb (by omega)) (fun hb => ?_))
      | (refine And.intro (fun hb => ?_) (fun hb => absurd hb (by omega)))
      | (refine And.intro (fun hb => ?_) (fun hb => ?_))
      | (intro hb)
      | (conv => whnf)))
    · refine hK (s_F_fine ?_)
      iterate 30 (all_goals (first
        | (refine And.intro (by omega) ?_)
        | (refine And.intro (fun hb => absurd hb (by omega)) (fun hb => ?_))
        | (refine And.intro (fun hb => ?_) (fun hb => absurd hb (by omega)))
        | (refine And.intro (fun hb => ?_) (fun hb => ?_))
        | (intro hb)
        | (conv => whnf)))
      have e14 : 0 ≤ V 14 s ∧ V 14 s ≤ 40 := by omega
      have e87 : V 87 s = V 13 s ∧ 0 ≤ V 13 s ∧ V 13 s ≤ 2 := by omega
      have e88 : V 88 s = V 14 s := by omega
      have k87 : am_up (am_up V 14 s (-1)) 3 17 0 87 s = V 87 s := by simp +decide [am_up_ne, am_up_at, reduceIte]
      have k88 : am_up (am_up V 14 s (-1)) 3 17 0 88 s = V 88 s := by simp +decide [am_up_ne, am_up_at, reduceIte]
      refine pr_i (by omega) (by simp +decide [am_up_ne, am_up_at, reduceIte]; exact hJ.1) ?_
      generalize hW : am_up (am_up V 14 s (-1)) 3 17 0 = W at k87 k88
      refine am_enter mt_M_drop ok_M_drop rfl ?_
      refine am_run 400 mt_M_drop ok_M_drop (fun K S hK hS => ?_)
      iterate 30 (all_goals (first
        | (refine And.intro (by omega) ?_)
        | (refine And.intro (fun hb => absurd hb (by omega)) (fun hb => ?_))
        | (refine And.intro (fun hb => ?_) (fun hb => absurd hb (by omega)))
        | (refine And.intro (fun hb => ?_) (fun hb => ?_))
        | (intro hb)
        | (conv => whnf)))
      refine hK (s_M_isSheet h0 (fun r2 hr2 => ?_))
      iterate 30 (all_goals (first
        | (refine And.intro (by omega) ?_)
        | (refine And.intro (by decide) ?_)
        | (refine And.intro (fun hb => absurd hb (by omega)) (fun hb => ?_))
        | (refine And.intro (fun hb => ?_) (fun hb => absurd hb (by omega)))
        | (refine And.intro (fun hb => ?_) (fun hb => ?_))
        | (intro hb)
        | (simp +decide only [am_up_ne, am_up_at, reduceIte])
        | (conv => whnf)))
      · rw [k88, e88]
        refine pr_e (IJ_sh hJ (fun a q q1 q2 q3 q4 q5 q6 => ?_) (fun j q => ?_) (fun j q1 q2 => ?_) ⟨?_, ?_⟩ (fun x a b => ?_) (fun x a b i c e => ?_)) ?_
        · rw [← hW]; simp +decide [am_up_ne, am_up_at, reduceIte, q.1, q.2.1, q3, q4]
        · rw [← hW]; simp +decide [am_up_ne, am_up_at, reduceIte, q]
        · rw [← hW]; simp +decide [am_up_ne, am_up_at, reduceIte, q1, q2]
        · rw [← hW]; simp +decide [am_up_ne, am_up_at, reduceIte]
        · rw [← hW]; simp +decide [am_up_ne, am_up_at, reduceIte]
        · rw [← hW]
          have := hJ.2.1 x a b
          by_cases e2 : x = s
          · simp +decide [am_up_ne, am_up_at, reduceIte, e2]
          · simp +decide [am_up_ne, am_up_at, reduceIte, e2]; exact this
        · rw [← hW]; simp +decide [am_up_ne, am_up_at, reduceIte]; exact hJ.2.2.1 x a b i c e
        · rw [← hW]; simp +decide [am_up_ne, am_up_at, reduceIte]
    · refine hK (s_F_finding ?_)
      iterate 30 (all_goals (first
        | (refine And.intro (by omega) ?_)
        | (refine And.intro (fun hb => absurd hb (by omega)) (fun hb => ?_))
        | (refine And.intro (fun hb => ?_) (fun hb => absurd hb (by omega)))
        | (refine And.intro (fun hb => ?_) (fun hb => ?_))
        | (intro hb)
        | (conv => whnf)))
      have e87 : V 87 s = -1 := by omega
      have k87 : am_up V 3 17 1 87 s = V 87 s := by simp +decide [am_up_ne, am_up_at, reduceIte]
      refine pr_i (by omega) (by simp +decide [am_up_ne, am_up_at, reduceIte]; exact hJ.1) ?_
      generalize hW : am_up V 3 17 1 = W at k87
      refine am_enter mt_M_drop ok_M_drop rfl ?_
      refine am_run 400 mt_M_drop ok_M_drop (fun K S hK hS => ?_)
      iterate 30 (all_goals (first
        | (refine And.intro (by omega) ?_)
        | (refine And.intro (fun hb => absurd hb (by omega)) (fun hb => ?_))
        | (refine And.intro (fun hb => ?_) (fun hb => absurd hb (by omega)))
        | (refine And.intro (fun hb => ?_) (fun hb => ?_))
        | (intro hb)
        | (conv => whnf)))
      refine hK (s_M_isSheet h0 (fun r2 hr2 => ?_))
      have e : am_up (am_up W 86 0 0) 86 1 0 87 s = -1 := by simp +decide [am_up_ne, am_up_at, reduceIte, k87, e87]
      iterate 30 (all_goals (first
        | (refine And.intro (by omega) ?_)
        | (refine And.intro (by decide) ?_)
        | (refine And.intro (fun hb => absurd hb (by omega)) (fun hb => ?_))
        | (refine And.intro (fun hb => ?_) (fun hb => absurd hb (by omega)))
        | (refine And.intro (fun hb => ?_) (fun hb => ?_))
        | (intro hb)
        | (simp only [e])
        | (conv => whnf)))
      refine hK (s_M_found ?_)
      iterate 30 (all_goals (first
        | (refine And.intro (by omega) ?_)
        | (refine And.intro (fun hb => absurd hb (by omega)) (fun hb => ?_))
        | (refine And.intro (fun hb => ?_) (fun hb => absurd hb (by omega)))
        | (refine And.intro (fun hb => ?_) (fun hb => ?_))
        | (intro hb)
        | (conv => whnf)))
      refine pr_e ?_ ?_
      · rw [← hW]
        exact IJ_86 (IJ_86 (IJ_86 (IJ_3 hJ) (Or.inl rfl)) (Or.inr rfl)) (Or.inr rfl)
      · rw [← hW]; simp +decide [am_up_ne, am_up_at, reduceIte]
  · refine am_enter mt_F_drop ok_F_drop rfl ?_
    refine am_run 400 mt_F_drop ok_F_drop (fun K S hK hS => ?_)
    iterate 30 (all_goals (first
      | (refine And.intro (by omega) ?_)
      | (refine And.intro (fun hb => absurd hb (by omega)) (fun hb => ?_))
      | (refine And.intro (fun hb => ?_) (fun hb => absurd hb (by omega)))
      | (refine And.intro (fun hb => ?_) (fun hb => ?_))
      | (intro hb)
      | (conv => whnf)))
    refine hK (s_F_noSheet h0 (fun r hr => ?_))
    iterate 30 (all_goals (first
      | (refine And.intro (by omega) ?_)
      | (refine And.intro (fun hb => absurd hb (by omega)) (fun hb => ?_))
      | (refine And.intro (fun hb => ?_) (fun hb => absurd hb (by omega)))
      | (refine And.intro (fun hb => ?_) (fun hb => ?_))
      | (intro hb)
      | (conv => whnf)))
    refine pr_i (by omega) hJ.1 ?_
    refine am_enter mt_M_drop ok_M_drop rfl ?_
    refine am_run 400 mt_M_drop ok_M_drop (fun K S hK hS => ?_)
    iterate 30 (all_goals (first
      | (refine And.intro (by omega) ?_)
      | (refine And.intro (fun hb => absurd hb (by omega)) (fun hb => ?_))
      | (refine And.intro (fun hb => ?_) (fun hb => absurd hb (by omega)))
      | (refine And.intro (fun hb => ?_) (fun hb => ?_))
      | (intro hb)
      | (conv => whnf)))
    refine hK (s_M_isSheet h0 (fun r2 hr2 => ?_))
    iterate 30 (all_goals (first
      | (refine And.intro (by omega) ?_)
      | (refine And.intro (fun hb => absurd hb (by omega)) (fun hb => ?_))
      | (refine And.intro (fun hb => ?_) (fun hb => absurd hb (by omega)))
      | (refine And.intro (fun hb => ?_) (fun hb => ?_))
      | (intro hb)
      | (conv => whnf)))
    refine pr_e (IJ_86 hJ (Or.inl rfl)) ?_
    simp +decide [am_up_ne, am_up_at, reduceIte]; exact hst2
