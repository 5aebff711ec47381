/-! turn, how 1 -/
theorem s_M_turn1 {G : am_G} {d : Nat} {sh : Int → Option Nat} {V : am_V} {T : Nat} {Q : Option AV → am_V → am_T → Nat → Prop} {q k w : Int} (h0 : am_in32 q) (h1 : am_in32 k) (h2 : am_in32 w) (hw : w ≠ 0)
    (hV : ∀ k, 0 ≤ k → k < 10 → (V 90 k = -1 ∨ (0 ≤ V 90 k ∧ V 90 k ≤ 4 ∧ 1 ≤ V 91 k ∧ V 91 k ≤ 10 ∧ ∀ j, 0 ≤ j → j < V 91 k → 0 ≤ V 92 (10 * k + j) ∧ V 92 (10 * k + j) < 10)))
    (hB : ¬ ((0 ≤ q ∧ q < 10) ∧ (0 ≤ k ∧ k < 10) ∧ w = 1) → Q (some (vI (-1000001))) (am_up V 86 0 0) (am_RF sh) T)
    (hF : ((0 ≤ q ∧ q < 10) ∧ (0 ≤ k ∧ k < 10) ∧ w = 1) → V 90 k < 0 → Q (some (vI (-1000011))) (am_up (am_up V 86 0 0) 86 1 1) (am_RF sh) T)
    (hQ : ((0 ≤ q ∧ q < 10) ∧ (0 ≤ k ∧ k < 10) ∧ w = 1) → 0 ≤ V 90 k → ∀ (V' : am_V) (r : Int) (g : Int → Int), m_rgs g (V 91 k) → (∀ x y, 0 ≤ x → x < V 91 k → 0 ≤ y → y < V 91 k → (g x = g y ↔ V 92 (10 * k + (if x + 1 < V 91 k then x + 1 else x + 1 - V 91 k)) = V 92 (10 * k + (if y + 1 < V 91 k then y + 1 else y + 1 - V 91 k)))) → m_kd g (V 91 k) r → V' 90 q = r → (∀ j, j ≠ q → V' 90 j = V 90 j) → V' 91 q = V 91 k → (∀ j, j ≠ q → V' 91 j = V 91 j) → (∀ j, 0 ≤ j → j < V 91 k → V' 92 (10 * q + j) = g j) → (∀ j, ¬ (10 * q ≤ j ∧ j < 10 * q + V 91 k) → V' 92 j = V 92 j) → V' 86 1 = 0 → (∀ j, j ≠ 0 → j ≠ 1 → V' 86 j = V 86 j) → (∀ a, a ≠ 86 → a ≠ 90 → a ≠ 91 → a ≠ 92 → a ≠ 93 → a ≠ 94 → V' a = V a) → Q (some (vI r)) V' (am_RF sh) T) : am_Calls G (d + 6) 97 [vR 86, vI q, vI k, vI w] V (am_RF sh) T Q := by
  refine am_enter mt_M_turn ok_M_turn rfl ?_
  obtain ⟨n, hn⟩ : ∃ n, n = V 91 k := ⟨_, rfl⟩
  rw [← hn] at hQ
  have loop : ((0 ≤ q ∧ q < 10) ∧ (0 ≤ k ∧ k < 10) ∧ w = 1) → 0 ≤ V 90 k → 1 ≤ n ∧ n ≤ 10 → (∀ j, 0 ≤ j → j < n → 0 ≤ V 92 (10 * k + j) ∧ V 92 (10 * k + j) < 10) → ∀ (y4 : Int) (jj : Nat) (i : Int) (W : am_V), 0 ≤ i → i ≤ n → n - i < jj → (∀ a, a ≠ 93 → W a = am_up V 86 0 0 a) → (∀ j, 0 ≤ j → j < n → W 93 (0 + j) = V 92 (10 * k + j)) → (1 ≤ i → W 93 (20 + (n - 1)) = V 92 (10 * k + 0)) → (∀ t, 0 ≤ t → t < i - 1 → W 93 (20 + t) = V 92 (10 * k + (t + 1))) → am_Sem G (d + 5) 97 V T Q 91 [some (vR 86), some (vI q), some (vI k), some (vI w), some (vI y4), some (vI n), some (vI i)] [] W (am_RF sh) T 0 0 := by
    intro hc hk0 hn1 hr y4 jj
    induction jj with
    | zero => intro i W a1 a2 a3; omega
    | succ jj ih =>
      intro i W a1 a2 a3 w1 w2 w3 w4
      by_cases hi : i = n
      · have all : ∀ x, 0 ≤ x → x < n → W 93 (20 + x) = V 92 (10 * k + (if x + 1 < n then x + 1 else x + 1 - n)) := fun x x0 x1 => by
          by_cases z : x + 1 < n
          · rw [if_pos z]; exact w4 x x0 (by omega)
          · rw [if_neg z, show x = n - 1 by omega, w3 (by omega)]
            congr 1; omega
        refine am_run 400 mt_M_turn ok_M_turn (fun K S hK hS => ?_)
        iterate 30 (all_goals (first
          | (refine And.intro (by omega) ?_)
          | (refine And.intro (fun hb => absurd hb (by omega)) (fun hb => ?_))
          | (refine And.intro (fun hb => ?_) (fun hb => absurd hb (by omega)))
          | (refine And.intro (fun hb => ?_) (fun hb => ?_))
          | (intro hb)
          | (conv => whnf)))
        refine hK (s_M_lay hc.1 (by omega) hn1 (by omega) (fun j b1 b2 => ?_) (fun V' r g e1 e2 e3 e4 e5 e6 e7 e8 e9 e10 e11 e12 => ?_))
        · have := all (j - 20) (by omega) (by omega)
          rw [show 20 + (j - 20) = j by omega] at this
          rw [this]
          have := hr (if j - 20 + 1 < n then j - 20 + 1 else j - 20 + 1 - n) (by split <;> omega) (by split <;> omega)
          constructor <;> omega
        · iterate 30 (all_goals (first
            | (refine And.intro (by omega) ?_)
            | (refine And.intro (fun hb => absurd hb (by omega)) (fun hb => ?_))
            | (refine And.intro (fun hb => ?_) (fun hb => absurd hb (by omega)))
            | (refine And.intro (fun hb => ?_) (fun hb => ?_))
            | (intro hb)
            | (conv => whnf)))
          refine hQ hc hk0 V' r g e1 (fun x y x0 x1 y0 y1 => by rw [e2 x y x0 x1 y0 y1, all x x0 x1, all y y0 y1]) e3 e4 (fun j z => by rw [e5 j z, w1 90 (by decide), am_up_ne (by decide)]) e6 (fun j z => by rw [e7 j z, w1 91 (by decide), am_up_ne (by decide)]) e8 (fun j z => by rw [e9 j z, w1 92 (by decide), am_up_ne (by decide)]) e10 (fun j z1 z2 => by rw [e11 j z2, w1 86 (by decide), am_up_at, if_neg z1]) (fun a z1 z2 z3 z4 z5 z6 => by rw [e12 a z1 z2 z3 z4 z5 z6, w1 a z5, am_up_ne z1])
      · have f0 := w2 i a1 (by omega)
        by_cases hi0 : i = 0
        · subst hi0
          have em : (0 + n - 1) % n = n - 1 := by rw [show 0 + n - 1 = n - 1 by omega]; exact Int.emod_eq_of_lt (by omega) (by omega)
          have nx := ih (0 + 1) (am_up W 93 (20 + (n - 1)) (V 92 (10 * k + 0))) (by omega) (by omega) (by omega) (fun a ha => by rw [am_up_ne ha, w1 a ha]) (fun j j0 j1 => by rw [am_up_at, if_neg (by omega), w2 j j0 j1]) (fun _ => by rw [am_up_same]) (fun t t0 t1 => absurd t1 (by omega))
          clear ih w3 w4
          refine am_run 400 mt_M_turn ok_M_turn (fun K S hK hS => ?_)
          iterate 40 (all_goals (first
            | (refine And.intro (by omega) ?_)
            | (refine And.intro (by decide) ?_)
            | (refine And.intro (fun hb => absurd hb (by omega)) (fun hb => ?_))
            | (refine And.intro (fun hb => ?_) (fun hb => absurd hb (by omega)))
            | (refine And.intro (fun hb => ?_) (fun hb => ?_))
            | (intro hb)
            | (simp only [em, f0])
            | (conv => whnf)))
          exact hS nx
        · have em : (i + n - 1) % n = i - 1 := by
            rw [show i + n - 1 = i - 1 + n by omega, Int.add_emod_right]
            exact Int.emod_eq_of_lt (by omega) (by omega)
          have nx := ih (i + 1) (am_up W 93 (20 + (i - 1)) (V 92 (10 * k + i))) (by omega) (by omega) (by omega) (fun a ha => by rw [am_up_ne ha, w1 a ha]) (fun j j0 j1 => by rw [am_up_at, if_neg (by omega), w2 j j0 j1]) (fun z => by rw [am_up_at, if_neg (by omega)]; exact w3 (by omega)) (fun t t0 t1 => by
            rw [am_up_at]
            by_cases z : t = i - 1
            · rw [if_pos (by omega), show t + 1 = i by omega]
            · rw [if_neg (by omega)]; exact w4 t t0 (by omega))
          clear ih w3 w4
          refine am_run 400 mt_M_turn ok_M_turn (fun K S hK hS => ?_)
          iterate 40 (all_goals (first
            | (refine And.intro (by omega) ?_)
            | (refine And.intro (by decide) ?_)
            | (refine And.intro (fun hb => absurd hb (by omega)) (fun hb => ?_))
            | (refine And.intro (fun hb => ?_) (fun hb => absurd hb (by omega)))
            | (refine And.intro (fun hb => ?_) (fun hb => ?_))
            | (intro hb)
            | (simp only [em, f0])
            | (conv => whnf)))
          exact hS nx
  have e90 : am_up V 86 0 0 90 k = V 90 k := by rw [am_up_ne (by decide)]
  have e91 : am_up V 86 0 0 91 k = n := by rw [am_up_ne (by decide)]; exact hn.symm
  refine am_run 400 mt_M_turn ok_M_turn (fun K S hK hS => ?_)
  iterate 30 (all_goals (first
    | (refine And.intro (by omega) ?_)
    | (refine And.intro (fun hb => absurd hb (by omega)) (fun hb => ?_))
    | (refine And.intro (fun hb => ?_) (fun hb => absurd hb (by omega)))
    | (refine And.intro (fun hb => ?_) (fun hb => ?_))
    | (intro hb)
    | (conv => whnf)))
  refine hK (s_M_isPlace h0 (fun r hr => ?_))
  iterate 30 (all_goals (first
    | (refine And.intro (by omega) ?_)
    | (refine And.intro (fun hb => absurd hb (by omega)) (fun hb => ?_))
    | (refine And.intro (fun hb => ?_) (fun hb => absurd hb (by omega)))
    | (refine And.intro (fun hb => ?_) (fun hb => ?_))
    | (intro hb)
    | (conv => whnf)))
  · exact hB (by omega)
  refine hK (s_M_isPlace h1 (fun r2 hr2 => ?_))
  iterate 30 (all_goals (first
    | (refine And.intro (by omega) ?_)
    | (refine And.intro (fun hb => absurd hb (by omega)) (fun hb => ?_))
    | (refine And.intro (fun hb => ?_) (fun hb => absurd hb (by omega)))
    | (refine And.intro (fun hb => ?_) (fun hb => ?_))
    | (intro hb)
    | (conv => whnf)))
  · exact hB (by omega)
  refine hK (s_M_in (by omega) (by omega) (by omega) (fun r3 hr3 => ?_))
  by_cases hc : (0 ≤ q ∧ q < 10) ∧ (0 ≤ k ∧ k < 10) ∧ w = 1
  · have vk := hV k hc.2.1.1 hc.2.1.2
    have v1 : V 90 k = -1 ∨ (0 ≤ V 90 k ∧ V 90 k ≤ 4) := vk.elim Or.inl (fun z => Or.inr ⟨z.1, z.2.1⟩)
    have v2 : 0 ≤ V 90 k → 1 ≤ n ∧ n ≤ 10 := fun z => vk.elim (fun e => absurd z (by omega)) (fun e => by rw [hn]; exact ⟨e.2.2.1, e.2.2.2.1⟩)
    have v3 : 0 ≤ V 90 k → ∀ j, 0 ≤ j → j < n → 0 ≤ V 92 (10 * k + j) ∧ V 92 (10 * k + j) < 10 := fun z => vk.elim (fun e => absurd z (by omega)) (fun e => by rw [hn]; exact e.2.2.2.2)
    clear vk
    iterate 30 (all_goals (first
      | (refine And.intro (by omega) ?_)
      | (refine And.intro (fun hb => absurd hb (by omega)) (fun hb => ?_))
      | (refine And.intro (fun hb => ?_) (fun hb => absurd hb (by omega)))
      | (refine And.intro (fun hb => ?_) (fun hb => ?_))
      | (intro hb)
      | (conv => whnf)))
    refine hK (s_M_asked hc.2.1 (by rw [e90]; omega) (by omega) (fun r4 hr4 => ?_))
    rw [e90] at hr4
    by_cases hk : V 90 k < 0
    · obtain rfl : r4 = 1 := by omega
      iterate 30 (all_goals (first
        | (refine And.intro (by omega) ?_)
        | (refine And.intro (fun hb => absurd hb (by omega)) (fun hb => ?_))
        | (refine And.intro (fun hb => ?_) (fun hb => absurd hb (by omega)))
        | (refine And.intro (fun hb => ?_) (fun hb => ?_))
        | (intro hb)
        | (conv => whnf)))
      exact hK (s_M_found (hF hc hk))
    · obtain rfl : r4 = 0 := by omega
      have n1 := v2 (by omega)
      iterate 30 (all_goals (first
        | (refine And.intro (by omega) ?_)
        | (refine And.intro (by decide) ?_)
        | (refine And.intro (fun hb => absurd hb (by omega)) (fun hb => ?_))
        | (refine And.intro (fun hb => ?_) (fun hb => absurd hb (by omega)))
        | (refine And.intro (fun hb => ?_) (fun hb => ?_))
        | (intro hb)
        | (simp only [e91])
        | (conv => whnf)))
      refine hK (s_M_load (n := n) hc.2.1 (by omega) e91 (by omega) (fun W w1 w2 w3 => ?_))
      have w2' : ∀ j, 0 ≤ j → j < n → W 93 (0 + j) = V 92 (10 * k + j) := fun j j0 j1 => by rw [w2 j j0 j1, am_up_ne (by decide)]
      iterate 30 (all_goals (first
        | (refine And.intro (by omega) ?_)
        | (refine And.intro (by decide) ?_)
        | (refine And.intro (fun hb => absurd hb (by omega)) (fun hb => ?_))
        | (refine And.intro (fun hb => ?_) (fun hb => absurd hb (by omega)))
        | (refine And.intro (fun hb => ?_) (fun hb => ?_))
        | (intro hb)
        | (simp only [e91])
        | (conv => whnf)))
      exact hS (loop hc (by omega) n1 (v3 (by omega)) _ (n + 1).toNat 0 W (by omega) (by omega) (by omega) w1 w2' (fun z => absurd z (by omega)) (fun t t0 t1 => absurd t1 (by omega)))
  · iterate 30 (all_goals (first
      | (refine And.intro (by omega) ?_)
      | (refine And.intro (fun hb => absurd hb (by omega)) (fun hb => ?_))
      | (refine And.intro (fun hb => ?_) (fun hb => absurd hb (by omega)))
      | (refine And.intro (fun hb => ?_) (fun hb => ?_))
      | (intro hb)
      | (conv => whnf)))
    exact hB (by omega)
