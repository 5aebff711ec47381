/-! the class: small methods -/
theorem s_F_noSheet {G : am_G} {d : Nat} {V : am_V} {R : am_T} {T : Nat} {Q : Option AV → am_V → am_T → Nat → Prop} {a : Int} (h0 : am_in32 a) (hQ : ∀ r, (r = 0 ∧ 0 ≤ a ∧ a < 8) ∨ (r = 1 ∧ ¬ (0 ≤ a ∧ a < 8)) → Q (some (vI r)) V R T) : am_Calls G (d + 1) 30 [vI a] V R T Q := by
  refine am_enter mt_F_noSheet ok_F_noSheet rfl ?_
  refine am_run 400 mt_F_noSheet ok_F_noSheet (fun K S hK hS => ?_)
  iterate 30 (all_goals (first
    | (refine And.intro (by omega) ?_)
    | (refine And.intro (fun hb => absurd hb (by omega)) (fun hb => ?_))
    | (refine And.intro (fun hb => ?_) (fun hb => absurd hb (by omega)))
    | (refine And.intro (fun hb => ?_) (fun hb => ?_))
    | (intro hb)
    | (conv => whnf)))
  all_goals exact hQ _ (by omega)
theorem s_F_noPlace {G : am_G} {d : Nat} {V : am_V} {R : am_T} {T : Nat} {Q : Option AV → am_V → am_T → Nat → Prop} {a : Int} (h0 : am_in32 a) (hQ : ∀ r, (r = 0 ∧ 0 ≤ a ∧ a < 10) ∨ (r = 1 ∧ ¬ (0 ≤ a ∧ a < 10)) → Q (some (vI r)) V R T) : am_Calls G (d + 1) 31 [vI a] V R T Q := by
  refine am_enter mt_F_noPlace ok_F_noPlace rfl ?_
  refine am_run 400 mt_F_noPlace ok_F_noPlace (fun K S hK hS => ?_)
  iterate 30 (all_goals (first
    | (refine And.intro (by omega) ?_)
    | (refine And.intro (fun hb => absurd hb (by omega)) (fun hb => ?_))
    | (refine And.intro (fun hb => ?_) (fun hb => absurd hb (by omega)))
    | (refine And.intro (fun hb => ?_) (fun hb => ?_))
    | (intro hb)
    | (conv => whnf)))
  all_goals exact hQ _ (by omega)
theorem s_F_noSeries {G : am_G} {d : Nat} {V : am_V} {R : am_T} {T : Nat} {Q : Option AV → am_V → am_T → Nat → Prop} {a : Int} (h0 : am_in32 a) (hQ : ∀ r, (r = 0 ∧ 0 ≤ a ∧ a < 8) ∨ (r = 1 ∧ ¬ (0 ≤ a ∧ a < 8)) → Q (some (vI r)) V R T) : am_Calls G (d + 1) 32 [vI a] V R T Q := by
  refine am_enter mt_F_noSeries ok_F_noSeries rfl ?_
  refine am_run 400 mt_F_noSeries ok_F_noSeries (fun K S hK hS => ?_)
  iterate 30 (all_goals (first
    | (refine And.intro (by omega) ?_)
    | (refine And.intro (fun hb => absurd hb (by omega)) (fun hb => ?_))
    | (refine And.intro (fun hb => ?_) (fun hb => absurd hb (by omega)))
    | (refine And.intro (fun hb => ?_) (fun hb => ?_))
    | (intro hb)
    | (conv => whnf)))
  all_goals exact hQ _ (by omega)
theorem s_F_noSort {G : am_G} {d : Nat} {V : am_V} {R : am_T} {T : Nat} {Q : Option AV → am_V → am_T → Nat → Prop} {a : Int} (h0 : am_in32 a) (hQ : ∀ r, (r = 0 ∧ (a = -1000000 ∨ (0 ≤ a ∧ a ≤ 2))) ∨ (r = 1 ∧ ¬ (a = -1000000 ∨ (0 ≤ a ∧ a ≤ 2))) → Q (some (vI r)) V R T) : am_Calls G (d + 1) 33 [vI a] V R T Q := by
  refine am_enter mt_F_noSort ok_F_noSort rfl ?_
  refine am_run 400 mt_F_noSort ok_F_noSort (fun K S hK hS => ?_)
  iterate 30 (all_goals (first
    | (refine And.intro (by omega) ?_)
    | (refine And.intro (fun hb => absurd hb (by omega)) (fun hb => ?_))
    | (refine And.intro (fun hb => ?_) (fun hb => absurd hb (by omega)))
    | (refine And.intro (fun hb => ?_) (fun hb => ?_))
    | (intro hb)
    | (conv => whnf)))
  all_goals exact hQ _ (by omega)
theorem s_F_noPairs {G : am_G} {d : Nat} {V : am_V} {R : am_T} {T : Nat} {Q : Option AV → am_V → am_T → Nat → Prop} {a : Int} (h0 : am_in32 a) (hQ : ∀ r, (r = 0 ∧ 1 ≤ a ∧ a ≤ 10) ∨ (r = 1 ∧ ¬ (1 ≤ a ∧ a ≤ 10)) → Q (some (vI r)) V R T) : am_Calls G (d + 1) 34 [vI a] V R T Q := by
  refine am_enter mt_F_noPairs ok_F_noPairs rfl ?_
  refine am_run 400 mt_F_noPairs ok_F_noPairs (fun K S hK hS => ?_)
  iterate 30 (all_goals (first
    | (refine And.intro (by omega) ?_)
    | (refine And.intro (fun hb => absurd hb (by omega)) (fun hb => ?_))
    | (refine And.intro (fun hb => ?_) (fun hb => absurd hb (by omega)))
    | (refine And.intro (fun hb => ?_) (fun hb => ?_))
    | (intro hb)
    | (conv => whnf)))
  all_goals exact hQ _ (by omega)
theorem s_F_noRun {G : am_G} {d : Nat} {sh : Int → Option Nat} {V : am_V} {T : Nat} {Q : Option AV → am_V → am_T → Nat → Prop} {s i n : Int} (hs : 0 ≤ s ∧ s < 8) (h1 : am_in32 i) (h2 : am_in32 n) (h3 : 0 ≤ V 14 s ∧ V 14 s ≤ 40) (hQ : ∀ r, (r = 0 ∧ 0 ≤ i ∧ 0 ≤ n ∧ i + n ≤ V 14 s) ∨ (r = 1 ∧ ¬ (0 ≤ i ∧ 0 ≤ n ∧ i + n ≤ V 14 s)) → Q (some (vI r)) V (am_RF sh) T) : am_Calls G (d + 1) 35 [vR 3, vI s, vI i, vI n] V (am_RF sh) T Q := by
  refine am_enter mt_F_noRun ok_F_noRun rfl ?_
  refine am_run 400 mt_F_noRun ok_F_noRun (fun K S hK hS => ?_)
  iterate 30 (all_goals (first
    | (refine And.intro (by omega) ?_)
    | (refine And.intro (fun hb => absurd hb (by omega)) (fun hb => ?_))
    | (refine And.intro (fun hb => ?_) (fun hb => absurd hb (by omega)))
    | (refine And.intro (fun hb => ?_) (fun hb => ?_))
    | (intro hb)
    | (conv => whnf)))
  all_goals exact hQ _ (by omega)
theorem s_F_finding {G : am_G} {d : Nat} {V : am_V} {R : am_T} {T : Nat} {Q : Option AV → am_V → am_T → Nat → Prop} {a : Int} (hQ : Q (some (vI (-1000010 - a))) (am_up V 3 17 a) R T) : am_Calls G (d + 1) 36 [vR 3, vI a] V R T Q := by
  refine am_enter mt_F_finding ok_F_finding rfl ?_
  refine am_run 400 mt_F_finding ok_F_finding (fun K S hK hS => ?_)
  iterate 30 (all_goals (first
    | (refine And.intro (by omega) ?_)
    | (refine And.intro (fun hb => absurd hb (by omega)) (fun hb => ?_))
    | (refine And.intro (fun hb => ?_) (fun hb => absurd hb (by omega)))
    | (refine And.intro (fun hb => ?_) (fun hb => ?_))
    | (intro hb)
    | (conv => whnf)))
  exact hQ
theorem s_F_fine {G : am_G} {d : Nat} {V : am_V} {R : am_T} {T : Nat} {Q : Option AV → am_V → am_T → Nat → Prop} {a : Int} (hQ : Q (some (vI a)) (am_up V 3 17 0) R T) : am_Calls G (d + 1) 37 [vR 3, vI a] V R T Q := by
  refine am_enter mt_F_fine ok_F_fine rfl ?_
  refine am_run 400 mt_F_fine ok_F_fine (fun K S hK hS => ?_)
  iterate 30 (all_goals (first
    | (refine And.intro (by omega) ?_)
    | (refine And.intro (fun hb => absurd hb (by omega)) (fun hb => ?_))
    | (refine And.intro (fun hb => ?_) (fun hb => absurd hb (by omega)))
    | (refine And.intro (fun hb => ?_) (fun hb => ?_))
    | (intro hb)
    | (conv => whnf)))
  exact hQ
/-- the lowest bits of a number, by the lane -/
def m_low (l v : Int) : Int := if l = 0 then Int.bmod (Int.bmod v 4294967296) 256 else if l = 1 then Int.bmod v 4294967296 else v
theorem m_bm32 (v : Int) : am_in32 (Int.bmod v 4294967296) := by
  have h1 := Int.le_bmod (x := v) (m := 4294967296) (by decide)
  have h2 := Int.bmod_lt (x := v) (m := 4294967296) (by decide)
  constructor <;> omega
theorem m_bm8 (v : Int) : am_in32 (Int.bmod v 256) := by
  have h1 := Int.le_bmod (x := v) (m := 256) (by decide)
  have h2 := Int.bmod_lt (x := v) (m := 256) (by decide)
  constructor <;> omega
theorem m_low_in {l v : Int} (h : am_in64 v) : am_in64 (m_low l v) := by
  unfold m_low
  have h1 := m_bm32 v
  have h2 := m_bm8 (Int.bmod v 4294967296)
  split
  · constructor <;> omega
  · split
    · constructor <;> omega
    · exact h
theorem s_F_lowestBits {G : am_G} {d : Nat} {V : am_V} {R : am_T} {T : Nat} {Q : Option AV → am_V → am_T → Nat → Prop} {l v : Int} (h0 : am_in32 l) (hQ : Q (some (vJ (m_low l v))) V R T) : am_Calls G (d + 1) 38 [vI l, vJ v] V R T Q := by
  refine am_enter mt_F_lowestBits ok_F_lowestBits rfl ?_
  have b32 := m_bm32 v
  have b8 := m_bm8 (Int.bmod v 4294967296)
  refine am_run 400 mt_F_lowestBits ok_F_lowestBits (fun K S hK hS => ?_)
  iterate 30 (all_goals (first
    | (refine And.intro (by omega) ?_)
    | (refine And.intro (b32) ?_)
    | (refine And.intro (b8) ?_)
    | (refine And.intro (fun hb => absurd hb (by omega)) (fun hb => ?_))
    | (refine And.intro (fun hb => ?_) (fun hb => absurd hb (by omega)))
    | (refine And.intro (fun hb => ?_) (fun hb => ?_))
    | (intro hb)
    | (conv => whnf)))
  · rw [m_low, if_neg (by assumption), if_neg (by assumption)] at hQ
    exact hQ
  · rw [m_low, if_neg (by omega), if_pos (by assumption)] at hQ
    exact hQ
  · rw [m_low, if_pos (by assumption)] at hQ
    exact hQ
theorem s_JA_fillI14 {G : am_G} {d : Nat} {V : am_V} {R : am_T} {T : Nat} {Q : Option AV → am_V → am_T → Nat → Prop} {v : Int} (hQ : ∀ V', (∀ a, a ≠ 14 → V' a = V a) → (∀ j : Int, 0 ≤ j → j < 8 → V' 14 j = v) → (∀ j : Int, ¬ (0 ≤ j ∧ j < 8) → V' 14 j = V 14 j) → Q none V' R T) : am_Calls G (d + 1) 169 [vR 14, vI v] V R T Q := by
  refine am_enter mt_JA_fillI ok_JA_fillI rfl ?_
  have loop : ∀ (j : Nat) (k : Int) (W : am_V), 0 ≤ k → k ≤ 8 → 8 - k < j → (∀ a, a ≠ 14 → W a = V a) → (∀ j, 0 ≤ j → j < k → W 14 j = v) → (∀ j, ¬ (0 ≤ j ∧ j < k) → W 14 j = V 14 j) → am_Sem G d 169 V T Q 5 [some (vR 14), some (vI v), some (vI k), some (vI 8)] [] W R T 0 0 := by
    intro j
    induction j with
    | zero => intro k W h0 h1 h2; omega
    | succ j ih =>
      intro k W h0 h1 h2 w1 w2 w3
      by_cases hk : k = 8
      · subst hk
        refine am_run 400 mt_JA_fillI ok_JA_fillI (fun K S hK hS => ?_)
        iterate 30 (all_goals (first
          | (refine And.intro (by omega) ?_)
          | (refine And.intro (fun hb => absurd hb (by omega)) (fun hb => ?_))
          | (refine And.intro (fun hb => ?_) (fun hb => absurd hb (by omega)))
          | (refine And.intro (fun hb => ?_) (fun hb => ?_))
          | (intro hb)
          | (conv => whnf)))
        exact hQ W w1 w2 w3
      · refine am_run 400 mt_JA_fillI ok_JA_fillI (fun K S hK hS => ?_)
        iterate 30 (all_goals (first
          | (refine And.intro (by omega) ?_)
          | (refine And.intro (fun hb => absurd hb (by omega)) (fun hb => ?_))
          | (refine And.intro (fun hb => ?_) (fun hb => absurd hb (by omega)))
          | (refine And.intro (fun hb => ?_) (fun hb => ?_))
          | (intro hb)
          | (conv => whnf)))
        refine hS (ih (k + 1) _ (by omega) (by omega) (by omega) (fun a ha => by rw [am_up_ne ha, w1 a ha]) (fun i a b => ?_) (fun i a => by rw [am_up_at, if_neg (by omega), w3 i (by omega)]))
        rw [am_up_at]
        by_cases e : i = k
        · rw [if_pos e]
        · rw [if_neg e, w2 i a (by omega)]
  refine am_run 400 mt_JA_fillI ok_JA_fillI (fun K S hK hS => ?_)
  iterate 30 (all_goals (first
    | (refine And.intro (by omega) ?_)
    | (refine And.intro (fun hb => absurd hb (by omega)) (fun hb => ?_))
    | (refine And.intro (fun hb => ?_) (fun hb => absurd hb (by omega)))
    | (refine And.intro (fun hb => ?_) (fun hb => ?_))
    | (intro hb)
    | (conv => whnf)))
  exact hS (loop (8 + 1) 0 V (by omega) (by omega) (by omega) (fun _ _ => rfl) (fun j a b => absurd b (by omega)) (fun _ _ => rfl))
theorem s_JA_fillI41 {G : am_G} {d : Nat} {V : am_V} {R : am_T} {T : Nat} {Q : Option AV → am_V → am_T → Nat → Prop} {v : Int} (hQ : ∀ V', (∀ a, a ≠ 41 → V' a = V a) → (∀ j : Int, 0 ≤ j → j < 8 → V' 41 j = v) → (∀ j : Int, ¬ (0 ≤ j ∧ j < 8) → V' 41 j = V 41 j) → Q none V' R T) : am_Calls G (d + 1) 169 [vR 41, vI v] V R T Q := by
  refine am_enter mt_JA_fillI ok_JA_fillI rfl ?_
  have loop : ∀ (j : Nat) (k : Int) (W : am_V), 0 ≤ k → k ≤ 8 → 8 - k < j → (∀ a, a ≠ 41 → W a = V a) → (∀ j, 0 ≤ j → j < k → W 41 j = v) → (∀ j, ¬ (0 ≤ j ∧ j < k) → W 41 j = V 41 j) → am_Sem G d 169 V T Q 5 [some (vR 41), some (vI v), some (vI k), some (vI 8)] [] W R T 0 0 := by
    intro j
    induction j with
    | zero => intro k W h0 h1 h2; omega
    | succ j ih =>
      intro k W h0 h1 h2 w1 w2 w3
      by_cases hk : k = 8
      · subst hk
        refine am_run 400 mt_JA_fillI ok_JA_fillI (fun K S hK hS => ?_)
        iterate 30 (all_goals (first
          | (refine And.intro (by omega) ?_)
          | (refine And.intro (fun hb => absurd hb (by omega)) (fun hb => ?_))
          | (refine And.intro (fun hb => ?_) (fun hb => absurd hb (by omega)))
          | (refine And.intro (fun hb => ?_) (fun hb => ?_))
          | (intro hb)
          | (conv => whnf)))
        exact hQ W w1 w2 w3
      · refine am_run 400 mt_JA_fillI ok_JA_fillI (fun K S hK hS => ?_)
        iterate 30 (all_goals (first
          | (refine And.intro (by omega) ?_)
          | (refine And.intro (fun hb => absurd hb (by omega)) (fun hb => ?_))
          | (refine And.intro (fun hb => ?_) (fun hb => absurd hb (by omega)))
          | (refine And.intro (fun hb => ?_) (fun hb => ?_))
          | (intro hb)
          | (conv => whnf)))
        refine hS (ih (k + 1) _ (by omega) (by omega) (by omega) (fun a ha => by rw [am_up_ne ha, w1 a ha]) (fun i a b => ?_) (fun i a => by rw [am_up_at, if_neg (by omega), w3 i (by omega)]))
        rw [am_up_at]
        by_cases e : i = k
        · rw [if_pos e]
        · rw [if_neg e, w2 i a (by omega)]
  refine am_run 400 mt_JA_fillI ok_JA_fillI (fun K S hK hS => ?_)
  iterate 30 (all_goals (first
    | (refine And.intro (by omega) ?_)
    | (refine And.intro (fun hb => absurd hb (by omega)) (fun hb => ?_))
    | (refine And.intro (fun hb => ?_) (fun hb => absurd hb (by omega)))
    | (refine And.intro (fun hb => ?_) (fun hb => ?_))
    | (intro hb)
    | (conv => whnf)))
  exact hS (loop (8 + 1) 0 V (by omega) (by omega) (by omega) (fun _ _ => rfl) (fun j a b => absurd b (by omega)) (fun _ _ => rfl))
theorem s_JA_fillI30 {G : am_G} {d : Nat} {V : am_V} {R : am_T} {T : Nat} {Q : Option AV → am_V → am_T → Nat → Prop} {v : Int} (hQ : ∀ V', (∀ a, a ≠ 30 → V' a = V a) → (∀ j : Int, 0 ≤ j → j < 10 → V' 30 j = v) → (∀ j : Int, ¬ (0 ≤ j ∧ j < 10) → V' 30 j = V 30 j) → Q none V' R T) : am_Calls G (d + 1) 169 [vR 30, vI v] V R T Q := by
  refine am_enter mt_JA_fillI ok_JA_fillI rfl ?_
  have loop : ∀ (j : Nat) (k : Int) (W : am_V), 0 ≤ k → k ≤ 10 → 10 - k < j → (∀ a, a ≠ 30 → W a = V a) → (∀ j, 0 ≤ j → j < k → W 30 j = v) → (∀ j, ¬ (0 ≤ j ∧ j < k) → W 30 j = V 30 j) → am_Sem G d 169 V T Q 5 [some (vR 30), some (vI v), some (vI k), some (vI 10)] [] W R T 0 0 := by
    intro j
    induction j with
    | zero => intro k W h0 h1 h2; omega
    | succ j ih =>
      intro k W h0 h1 h2 w1 w2 w3
      by_cases hk : k = 10
      · subst hk
        refine am_run 400 mt_JA_fillI ok_JA_fillI (fun K S hK hS => ?_)
        iterate 30 (all_goals (first
          | (refine And.intro (by omega) ?_)
          | (refine And.intro (fun hb => absurd hb (by omega)) (fun hb => ?_))
          | (refine And.intro (fun hb => ?_) (fun hb => absurd hb (by omega)))
          | (refine And.intro (fun hb => ?_) (fun hb => ?_))
          | (intro hb)
          | (conv => whnf)))
        exact hQ W w1 w2 w3
      · refine am_run 400 mt_JA_fillI ok_JA_fillI (fun K S hK hS => ?_)
        iterate 30 (all_goals (first
          | (refine And.intro (by omega) ?_)
          | (refine And.intro (fun hb => absurd hb (by omega)) (fun hb => ?_))
          | (refine And.intro (fun hb => ?_) (fun hb => absurd hb (by omega)))
          | (refine And.intro (fun hb => ?_) (fun hb => ?_))
          | (intro hb)
          | (conv => whnf)))
        refine hS (ih (k + 1) _ (by omega) (by omega) (by omega) (fun a ha => by rw [am_up_ne ha, w1 a ha]) (fun i a b => ?_) (fun i a => by rw [am_up_at, if_neg (by omega), w3 i (by omega)]))
        rw [am_up_at]
        by_cases e : i = k
        · rw [if_pos e]
        · rw [if_neg e, w2 i a (by omega)]
  refine am_run 400 mt_JA_fillI ok_JA_fillI (fun K S hK hS => ?_)
  iterate 30 (all_goals (first
    | (refine And.intro (by omega) ?_)
    | (refine And.intro (fun hb => absurd hb (by omega)) (fun hb => ?_))
    | (refine And.intro (fun hb => ?_) (fun hb => absurd hb (by omega)))
    | (refine And.intro (fun hb => ?_) (fun hb => ?_))
    | (intro hb)
    | (conv => whnf)))
  exact hS (loop (10 + 1) 0 V (by omega) (by omega) (by omega) (fun _ _ => rfl) (fun j a b => absurd b (by omega)) (fun _ _ => rfl))
theorem s_JA_fillJrow {G : am_G} {d : Nat} {V : am_V} {R : am_T} {T : Nat} {Q : Option AV → am_V → am_T → Nat → Prop} {s v : Int} (hs : 0 ≤ s ∧ s < 8) (hQ : ∀ V', (∀ a, a ≠ 4 → V' a = V a) → (∀ j, 0 ≤ j → j < 40 → V' 4 (64 * s + j) = v) → (∀ j, ¬ (64 * s ≤ j ∧ j < 64 * s + 40) → V' 4 j = V 4 j) → Q none V' R T) : am_Calls G (d + 1) 170 [vW 4 s, vJ v] V R T Q := by
  refine am_enter mt_JA_fillJ ok_JA_fillJ rfl ?_
  have loop : ∀ (j : Nat) (k : Int) (W : am_V), 0 ≤ k → k ≤ 40 → 40 - k < j → (∀ a, a ≠ 4 → W a = V a) → (∀ j, 0 ≤ j → j < k → W 4 (64 * s + j) = v) → (∀ j, ¬ (64 * s ≤ j ∧ j < 64 * s + k) → W 4 j = V 4 j) → am_Sem G d 170 V T Q 6 [some (vW 4 s), some (vJ v), none, some (vI k), some (vI 40)] [] W R T 0 0 := by
    intro j
    induction j with
    | zero => intro k W h0 h1 h2; omega
    | succ j ih =>
      intro k W h0 h1 h2 w1 w2 w3
      refine am_run 400 mt_JA_fillJ ok_JA_fillJ (fun K S hK hS => ?_)
      iterate 30 (all_goals (first
        | (refine And.intro (by omega) ?_)
        | (refine And.intro (fun hb => absurd hb (by omega)) (fun hb => ?_))
        | (refine And.intro (fun hb => ?_) (fun hb => absurd hb (by omega)))
        | (refine And.intro (fun hb => ?_) (fun hb => ?_))
        | (intro hb)
        | (conv => whnf)))
      · rw [show k = 40 by omega] at w2 w3
        exact hQ W w1 w2 w3
      · refine hS (ih (k + 1) _ (by omega) (by omega) (by omega) (fun a ha => by rw [am_up_ne ha, w1 a ha]) (fun i a b => ?_) (fun i a => by rw [am_up_at, if_neg (by omega), w3 i (by omega)]))
        rw [am_up_at]
        by_cases e : i = k
        · rw [if_pos (by omega)]
        · rw [if_neg (by omega), w2 i a (by omega)]
  refine am_run 400 mt_JA_fillJ ok_JA_fillJ (fun K S hK hS => ?_)
  iterate 30 (all_goals (first
    | (refine And.intro (by omega) ?_)
    | (refine And.intro (fun hb => absurd hb (by omega)) (fun hb => ?_))
    | (refine And.intro (fun hb => ?_) (fun hb => absurd hb (by omega)))
    | (refine And.intro (fun hb => ?_) (fun hb => ?_))
    | (intro hb)
    | (conv => whnf)))
  exact hS (loop 41 0 V (by omega) (by omega) (by omega) (fun _ _ => rfl) (fun j a b => absurd b (by omega)) (fun _ _ => rfl))
theorem s_JA_fillJ62 {G : am_G} {d : Nat} {V : am_V} {R : am_T} {T : Nat} {Q : Option AV → am_V → am_T → Nat → Prop} {v : Int} (hQ : ∀ V', (∀ a, a ≠ 62 → V' a = V a) → (∀ j, 0 ≤ j → j < 14 → V' 62 j = v) → Q none V' R T) : am_Calls G (d + 1) 170 [vR 62, vJ v] V R T Q := by
  refine am_enter mt_JA_fillJ ok_JA_fillJ rfl ?_
  have loop : ∀ (j : Nat) (k : Int) (W : am_V), 0 ≤ k → k ≤ 14 → 14 - k < j → (∀ a, a ≠ 62 → W a = V a) → (∀ j, 0 ≤ j → j < k → W 62 j = v) → am_Sem G d 170 V T Q 6 [some (vR 62), some (vJ v), none, some (vI k), some (vI 14)] [] W R T 0 0 := by
    intro j
    induction j with
    | zero => intro k W h0 h1 h2; omega
    | succ j ih =>
      intro k W h0 h1 h2 w1 w2
      refine am_run 400 mt_JA_fillJ ok_JA_fillJ (fun K S hK hS => ?_)
      iterate 30 (all_goals (first
        | (refine And.intro (by omega) ?_)
        | (refine And.intro (fun hb => absurd hb (by omega)) (fun hb => ?_))
        | (refine And.intro (fun hb => ?_) (fun hb => absurd hb (by omega)))
        | (refine And.intro (fun hb => ?_) (fun hb => ?_))
        | (intro hb)
        | (conv => whnf)))
      · rw [show k = 14 by omega] at w2
        exact hQ W w1 w2
      · refine hS (ih (k + 1) _ (by omega) (by omega) (by omega) (fun a ha => by rw [am_up_ne ha, w1 a ha]) (fun i a b => ?_))
        rw [am_up_at]
        by_cases e : i = k
        · rw [if_pos (by omega)]
        · rw [if_neg (by omega), w2 i a (by omega)]
  refine am_run 400 mt_JA_fillJ ok_JA_fillJ (fun K S hK hS => ?_)
  iterate 30 (all_goals (first
    | (refine And.intro (by omega) ?_)
    | (refine And.intro (fun hb => absurd hb (by omega)) (fun hb => ?_))
    | (refine And.intro (fun hb => ?_) (fun hb => absurd hb (by omega)))
    | (refine And.intro (fun hb => ?_) (fun hb => ?_))
    | (intro hb)
    | (conv => whnf)))
  exact hS (loop 15 0 V (by omega) (by omega) (by omega) (fun _ _ => rfl) (fun j a b => absurd b (by omega)))
