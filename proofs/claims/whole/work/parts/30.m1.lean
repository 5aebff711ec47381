/-! the reference's small methods -/
theorem s_M_in {G : am_G} {d : Nat} {V : am_V} {R : am_T} {T : Nat} {Q : Option AV → am_V → am_T → Nat → Prop} {a b c : Int} (h0 : am_in64 a) (h1 : am_in64 b) (h2 : am_in64 c) (hQ : ∀ r, (r = 1 ∧ b ≤ a ∧ a ≤ c) ∨ (r = 0 ∧ ¬ (b ≤ a ∧ a ≤ c)) → Q (some (vI r)) V R T) : am_Calls G (d + 1) 67 [vJ a, vJ b, vJ c] V R T Q := by
  refine am_enter mt_M_in ok_M_in rfl ?_
  refine am_run 400 mt_M_in ok_M_in (fun K S hK hS => ?_)
  iterate 30 (all_goals (first
    | (refine And.intro (by omega) ?_)
    | (refine And.intro (fun hb => absurd hb (by omega)) (fun hb => ?_))
    | (refine And.intro (fun hb => ?_) (fun hb => absurd hb (by omega)))
    | (refine And.intro (fun hb => ?_) (fun hb => ?_))
    | (intro hb)
    | (conv => whnf)))
  all_goals exact hQ _ (by omega)
theorem s_M_isSheet {G : am_G} {d : Nat} {V : am_V} {R : am_T} {T : Nat} {Q : Option AV → am_V → am_T → Nat → Prop} {a : Int} (h0 : am_in32 a) (hQ : ∀ r, (r = 1 ∧ 0 ≤ a ∧ a ≤ 7) ∨ (r = 0 ∧ ¬ (0 ≤ a ∧ a ≤ 7)) → Q (some (vI r)) V R T) : am_Calls G (d + 2) 71 [vI a] V R T Q := by
  refine am_enter mt_M_isSheet ok_M_isSheet rfl ?_
  refine am_run 400 mt_M_isSheet ok_M_isSheet (fun K S hK hS => ?_)
  iterate 30 (all_goals (first
    | (refine And.intro (by omega) ?_)
    | (refine And.intro (fun hb => absurd hb (by omega)) (fun hb => ?_))
    | (refine And.intro (fun hb => ?_) (fun hb => absurd hb (by omega)))
    | (refine And.intro (fun hb => ?_) (fun hb => ?_))
    | (intro hb)
    | (conv => whnf)))
  refine hK (s_M_in (by omega) (by omega) (by omega) (fun r hr => ?_))
  iterate 30 (all_goals (first
    | (refine And.intro (by omega) ?_)
    | (refine And.intro (fun hb => absurd hb (by omega)) (fun hb => ?_))
    | (refine And.intro (fun hb => ?_) (fun hb => absurd hb (by omega)))
    | (refine And.intro (fun hb => ?_) (fun hb => ?_))
    | (intro hb)
    | (conv => whnf)))
  exact hQ _ (by omega)
theorem s_M_isPlace {G : am_G} {d : Nat} {V : am_V} {R : am_T} {T : Nat} {Q : Option AV → am_V → am_T → Nat → Prop} {a : Int} (h0 : am_in32 a) (hQ : ∀ r, (r = 1 ∧ 0 ≤ a ∧ a ≤ 9) ∨ (r = 0 ∧ ¬ (0 ≤ a ∧ a ≤ 9)) → Q (some (vI r)) V R T) : am_Calls G (d + 2) 76 [vI a] V R T Q := by
  refine am_enter mt_M_isPlace ok_M_isPlace rfl ?_
  refine am_run 400 mt_M_isPlace ok_M_isPlace (fun K S hK hS => ?_)
  iterate 30 (all_goals (first
    | (refine And.intro (by omega) ?_)
    | (refine And.intro (fun hb => absurd hb (by omega)) (fun hb => ?_))
    | (refine And.intro (fun hb => ?_) (fun hb => absurd hb (by omega)))
    | (refine And.intro (fun hb => ?_) (fun hb => ?_))
    | (intro hb)
    | (conv => whnf)))
  refine hK (s_M_in (by omega) (by omega) (by omega) (fun r hr => ?_))
  iterate 30 (all_goals (first
    | (refine And.intro (by omega) ?_)
    | (refine And.intro (fun hb => absurd hb (by omega)) (fun hb => ?_))
    | (refine And.intro (fun hb => ?_) (fun hb => absurd hb (by omega)))
    | (refine And.intro (fun hb => ?_) (fun hb => ?_))
    | (intro hb)
    | (conv => whnf)))
  exact hQ _ (by omega)
theorem s_M_isSeries {G : am_G} {d : Nat} {V : am_V} {R : am_T} {T : Nat} {Q : Option AV → am_V → am_T → Nat → Prop} {a : Int} (h0 : am_in32 a) (hQ : ∀ r, (r = 1 ∧ 0 ≤ a ∧ a ≤ 7) ∨ (r = 0 ∧ ¬ (0 ≤ a ∧ a ≤ 7)) → Q (some (vI r)) V R T) : am_Calls G (d + 2) 118 [vI a] V R T Q := by
  refine am_enter mt_M_isSeries ok_M_isSeries rfl ?_
  refine am_run 400 mt_M_isSeries ok_M_isSeries (fun K S hK hS => ?_)
  iterate 30 (all_goals (first
    | (refine And.intro (by omega) ?_)
    | (refine And.intro (fun hb => absurd hb (by omega)) (fun hb => ?_))
    | (refine And.intro (fun hb => ?_) (fun hb => absurd hb (by omega)))
    | (refine And.intro (fun hb => ?_) (fun hb => ?_))
    | (intro hb)
    | (conv => whnf)))
  refine hK (s_M_in (by omega) (by omega) (by omega) (fun r hr => ?_))
  iterate 30 (all_goals (first
    | (refine And.intro (by omega) ?_)
    | (refine And.intro (fun hb => absurd hb (by omega)) (fun hb => ?_))
    | (refine And.intro (fun hb => ?_) (fun hb => absurd hb (by omega)))
    | (refine And.intro (fun hb => ?_) (fun hb => ?_))
    | (intro hb)
    | (conv => whnf)))
  exact hQ _ (by omega)
theorem s_M_found {G : am_G} {d : Nat} {V : am_V} {R : am_T} {T : Nat} {Q : Option AV → am_V → am_T → Nat → Prop} {a : Int} (hQ : Q (some (vI (-1000010 - a))) (am_up V 86 1 a) R T) : am_Calls G (d + 1) 68 [vR 86, vI a] V R T Q := by
  refine am_enter mt_M_found ok_M_found rfl ?_
  refine am_run 400 mt_M_found ok_M_found (fun K S hK hS => ?_)
  iterate 30 (all_goals (first
    | (refine And.intro (by omega) ?_)
    | (refine And.intro (fun hb => absurd hb (by omega)) (fun hb => ?_))
    | (refine And.intro (fun hb => ?_) (fun hb => absurd hb (by omega)))
    | (refine And.intro (fun hb => ?_) (fun hb => ?_))
    | (intro hb)
    | (conv => whnf)))
  exact hQ
theorem s_M_isOf {G : am_G} {d : Nat} {V : am_V} {R : am_T} {T : Nat} {Q : Option AV → am_V → am_T → Nat → Prop} {a b : Int} (h0 : am_in32 a) (h1 : am_in32 b) (hQ : ∀ r, (r = 1 ∧ 0 ≤ a ∧ (b = 0 ∨ a = b ∨ (b = 1 ∧ (a = 2 ∨ a = 3)))) ∨ (r = 0 ∧ ¬ (0 ≤ a ∧ (b = 0 ∨ a = b ∨ (b = 1 ∧ (a = 2 ∨ a = 3))))) → Q (some (vI r)) V R T) : am_Calls G (d + 1) 91 [vI a, vI b] V R T Q := by
  refine am_enter mt_M_isOf ok_M_isOf rfl ?_
  refine am_run 400 mt_M_isOf ok_M_isOf (fun K S hK hS => ?_)
  iterate 30 (all_goals (first
    | (refine And.intro (by omega) ?_)
    | (refine And.intro (fun hb => absurd hb (by omega)) (fun hb => ?_))
    | (refine And.intro (fun hb => ?_) (fun hb => absurd hb (by omega)))
    | (refine And.intro (fun hb => ?_) (fun hb => ?_))
    | (intro hb)
    | (conv => whnf)))
  all_goals exact hQ _ (by omega)
theorem s_M_asked {G : am_G} {d : Nat} {sh : Int → Option Nat} {V : am_V} {T : Nat} {Q : Option AV → am_V → am_T → Nat → Prop} {a b : Int} (h0 : 0 ≤ a ∧ a < 10) (hk : am_in32 (V 90 a)) (h1 : am_in32 b) (hQ : ∀ r, (r = 1 ∧ V 90 a < 0) ∨ (r = 0 ∧ 0 ≤ V 90 a ∧ (b = 0 ∨ V 90 a = b ∨ (b = 1 ∧ (V 90 a = 2 ∨ V 90 a = 3)))) ∨ (r = 3 ∧ 0 ≤ V 90 a ∧ ¬ (b = 0 ∨ V 90 a = b ∨ (b = 1 ∧ (V 90 a = 2 ∨ V 90 a = 3)))) → Q (some (vI r)) V (am_RF sh) T) : am_Calls G (d + 2) 92 [vR 86, vI a, vI b] V (am_RF sh) T Q := by
  refine am_enter mt_M_asked ok_M_asked rfl ?_
  refine am_run 400 mt_M_asked ok_M_asked (fun K S hK hS => ?_)
  iterate 30 (all_goals (first
    | (refine And.intro (by omega) ?_)
    | (refine And.intro (fun hb => absurd hb (by omega)) (fun hb => ?_))
    | (refine And.intro (fun hb => ?_) (fun hb => absurd hb (by omega)))
    | (refine And.intro (fun hb => ?_) (fun hb => ?_))
    | (intro hb)
    | (conv => whnf)))
  all_goals (try exact hQ _ (by omega))
  refine hK (s_M_isOf hk h1 (fun r hr => ?_))
  iterate 30 (all_goals (first
    | (refine And.intro (by omega) ?_)
    | (refine And.intro (fun hb => absurd hb (by omega)) (fun hb => ?_))
    | (refine And.intro (fun hb => ?_) (fun hb => absurd hb (by omega)))
    | (refine And.intro (fun hb => ?_) (fun hb => ?_))
    | (intro hb)
    | (conv => whnf)))
  all_goals exact hQ _ (by omega)
theorem s_M_load {G : am_G} {d : Nat} {sh : Int → Option Nat} {V : am_V} {T : Nat} {Q : Option AV → am_V → am_T → Nat → Prop} {q p n : Int} (h0 : 0 ≤ q ∧ q < 10) (h1 : 0 ≤ p ∧ p ≤ 20) (hn : V 91 q = n) (h2 : 0 ≤ n ∧ n ≤ 10) (hQ : ∀ V', (∀ a, a ≠ 93 → V' a = V a) → (∀ j, 0 ≤ j → j < n → V' 93 (p + j) = V 92 (10 * q + j)) → (∀ j, ¬ (p ≤ j ∧ j < p + n) → V' 93 j = V 93 j) → Q none V' (am_RF sh) T) : am_Calls G (d + 1) 77 [vR 86, vI q, vI p] V (am_RF sh) T Q := by
  refine am_enter mt_M_load ok_M_load rfl ?_
  have loop : ∀ (j : Nat) (k : Int) (W : am_V), 0 ≤ k → k + j = n → (∀ a, a ≠ 93 → W a = V a) → (∀ i, 0 ≤ i → i < k → W 93 (p + i) = V 92 (10 * q + i)) → (∀ i, ¬ (p ≤ i ∧ i < p + k) → W 93 i = V 93 i) → am_Sem G d 77 V T Q 2 [some (vR 86), some (vI q), some (vI p), some (vI k)] [] W (am_RF sh) T 0 0 := by
    intro j
    induction j with
    | zero =>
      intro k W hk hkn w1 w2 w3
      have e91 : W 91 q = n := by rw [w1 91 (by decide)]; exact hn
      refine am_run 400 mt_M_load ok_M_load (fun K S hK hS => ?_)
      iterate 30 (all_goals (first
        | (refine And.intro (by omega) ?_)
        | (refine And.intro (fun hb => absurd hb (by omega)) (fun hb => ?_))
        | (refine And.intro (fun hb => ?_) (fun hb => absurd hb (by omega)))
        | (refine And.intro (fun hb => ?_) (fun hb => ?_))
        | (intro hb)
        | (conv => whnf)))
      exact hQ W w1 (fun i a b => w2 i a (by omega)) (fun i a => w3 i (by omega))
    | succ j ih =>
      intro k W hk hkn w1 w2 w3
      have e91 : W 91 q = n := by rw [w1 91 (by decide)]; exact hn
      refine am_run 400 mt_M_load ok_M_load (fun K S hK hS => ?_)
      iterate 30 (all_goals (first
        | (refine And.intro (by omega) ?_)
        | (refine And.intro (fun hb => absurd hb (by omega)) (fun hb => ?_))
        | (refine And.intro (fun hb => ?_) (fun hb => absurd hb (by omega)))
        | (refine And.intro (fun hb => ?_) (fun hb => ?_))
        | (intro hb)
        | (conv => whnf)))
      refine hS (ih (k + 1) _ (by omega) (by omega) (fun a ha => ?_) (fun i a b => ?_) (fun i a => ?_))
      · rw [am_up_ne ha, w1 a ha]
      · rw [am_up_at]
        by_cases e : i = k
        · subst e
          rw [if_pos rfl, w1 92 (by decide)]
        · rw [if_neg (by omega), w2 i a (by omega)]
      · rw [am_up_at, if_neg (by omega), w3 i (by omega)]
  refine am_run 400 mt_M_load ok_M_load (fun K S hK hS => ?_)
  iterate 30 (all_goals (first
    | (refine And.intro (by omega) ?_)
    | (refine And.intro (fun hb => absurd hb (by omega)) (fun hb => ?_))
    | (refine And.intro (fun hb => ?_) (fun hb => absurd hb (by omega)))
    | (refine And.intro (fun hb => ?_) (fun hb => ?_))
    | (intro hb)
    | (conv => whnf)))
  exact hS (loop n.toNat 0 V (by omega) (by omega) (fun _ _ => rfl) (fun i a b => absurd b (by omega)) (fun _ _ => rfl))
