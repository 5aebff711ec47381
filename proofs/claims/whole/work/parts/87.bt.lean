/-! both, how 0 (meet): the reference -/
theorem s_M_both0 {G : am_G} {d : Nat} {sh : Int → Option Nat} {V : am_V} {T : Nat} {Q : Option AV → am_V → am_T → Nat → Prop} {q a b w : Int} (h0 : am_in32 q) (h1 : am_in32 a) (h2 : am_in32 b) (h3 : am_in32 w) (hw : w ≠ 1)
    (hV : ∀ k, 0 ≤ k → k < 10 → (V 90 k = -1 ∨ (0 ≤ V 90 k ∧ V 90 k ≤ 4 ∧ 1 ≤ V 91 k ∧ V 91 k ≤ 10 ∧ ∀ j, 0 ≤ j → j < V 91 k → 0 ≤ V 92 (10 * k + j) ∧ V 92 (10 * k + j) < 10)))
    (hB : ¬ ((0 ≤ q ∧ q < 10) ∧ (0 ≤ a ∧ a < 10) ∧ (0 ≤ b ∧ b < 10) ∧ w = 0) → Q (some (vI (-1000001))) (am_up V 86 0 0) (am_RF sh) T)
    (hF : ∀ c, ((0 ≤ q ∧ q < 10) ∧ (0 ≤ a ∧ a < 10) ∧ (0 ≤ b ∧ b < 10) ∧ w = 0) → ((c = 1 ∧ V 90 a < 0) ∨ (c = 3 ∧ (V 90 a = 0 ∨ V 90 a = 4)) ∨ ((1 ≤ V 90 a ∧ V 90 a ≤ 3) ∧ ((c = 1 ∧ V 90 b < 0) ∨ (c = 3 ∧ (V 90 b = 0 ∨ V 90 b = 4))))) → Q (some (vI (-1000010 - c))) (am_up (am_up V 86 0 0) 86 1 c) (am_RF sh) T)
    (hB2 : ((0 ≤ q ∧ q < 10) ∧ (0 ≤ a ∧ a < 10) ∧ (0 ≤ b ∧ b < 10) ∧ w = 0) → (1 ≤ V 90 a ∧ V 90 a ≤ 3) → (1 ≤ V 90 b ∧ V 90 b ≤ 3) → V 91 a ≠ V 91 b → Q (some (vI (-1000001))) (am_up V 86 0 0) (am_RF sh) T)
    (hQ : ((0 ≤ q ∧ q < 10) ∧ (0 ≤ a ∧ a < 10) ∧ (0 ≤ b ∧ b < 10) ∧ w = 0) → (1 ≤ V 90 a ∧ V 90 a ≤ 3) → (1 ≤ V 90 b ∧ V 90 b ≤ 3) → V 91 a = V 91 b → ∀ (V' : am_V) (r : Int) (g : Int → Int), m_rgs g (V 91 a) → (∀ x y, 0 ≤ x → x < V 91 a → 0 ≤ y → y < V 91 a → (g x = g y ↔ (V 92 (10 * a + x) = V 92 (10 * a + y) ∧ V 92 (10 * b + x) = V 92 (10 * b + y)))) → m_kd g (V 91 a) r → V' 90 q = r → (∀ j, j ≠ q → V' 90 j = V 90 j) → V' 91 q = V 91 a → (∀ j, j ≠ q → V' 91 j = V 91 j) → (∀ j, 0 ≤ j → j < V 91 a → V' 92 (10 * q + j) = g j) → (∀ j, ¬ (10 * q ≤ j ∧ j < 10 * q + V 91 a) → V' 92 j = V 92 j) → V' 86 1 = 0 → (∀ j, j ≠ 0 → j ≠ 1 → V' 86 j = V 86 j) → (∀ a, a ≠ 86 → a ≠ 90 → a ≠ 91 → a ≠ 92 → a ≠ 93 → a ≠ 94 → V' a = V a) → Q (some (vI r)) V' (am_RF sh) T) : am_Calls G (d + 6) 93 [vR 86, vI q, vI a, vI b, vI w] V (am_RF sh) T Q := by
  refine am_enter mt_M_both ok_M_both rfl ?_
  obtain ⟨n, hn⟩ : ∃ n, n = V 91 a := ⟨_, rfl⟩
  rw [← hn] at hQ hB2
  have loop : ((0 ≤ q ∧ q < 10) ∧ (0 ≤ a ∧ a < 10) ∧ (0 ≤ b ∧ b < 10) ∧ w = 0) → (1 ≤ V 90 a ∧ V 90 a ≤ 3) → (1 ≤ V 90 b ∧ V 90 b ≤ 3) → n = V 91 b → 1 ≤ n ∧ n ≤ 10 → (∀ j, 0 ≤ j → j < n → (0 ≤ V 92 (10 * a + j) ∧ V 92 (10 * a + j) < 10) ∧ (0 ≤ V 92 (10 * b + j) ∧ V 92 (10 * b + j) < 10)) → ∀ (y5 : Int) (jj : Nat) (i : Int) (W : am_V), 0 ≤ i → i ≤ n → n - i < jj → (∀ x, x ≠ 93 → W x = am_up V 86 0 0 x) → (∀ j, 0 ≤ j → j < n → W 93 (0 + j) = V 92 (10 * a + j) ∧ W 93 (10 + j) = V 92 (10 * b + j)) → (∀ j, 0 ≤ j → j < i → W 93 (20 + j) = 10 * V 92 (10 * a + j) + V 92 (10 * b + j)) → am_Sem G (d + 5) 93 V T Q 121 [some (vR 86), some (vI q), some (vI a), some (vI b), some (vI w), some (vI y5), some (vI n), some (vI i), none, none, none] [] W (am_RF sh) T 0 0 := by
    intro hc ka kb hnb hn1 hr y5 jj
    induction jj with
    | zero => intro i W a1 a2 a3; omega
    | succ jj ih =>
      intro i W a1 a2 a3 w1 w2 w3
      by_cases hi : i = n
      · refine am_run 400 mt_M_both ok_M_both (fun K S hK hS => ?_)
        iterate 30 (all_goals (first
          | (refine And.intro (by omega) ?_)
          | (refine And.intro (fun hb => absurd hb (by omega)) (fun hb => ?_))
          | (refine And.intro (fun hb => ?_) (fun hb => absurd hb (by omega)))
          | (refine And.intro (fun hb => ?_) (fun hb => ?_))
          | (intro hb)
          | (conv => whnf)))
        refine hK (s_M_lay hc.1 (by omega) hn1 (by omega) (fun j b1 b2 => ?_) (fun V' r g e1 e2 e3 e4 e5 e6 e7 e8 e9 e10 e11 e12 => ?_))
        · have := w3 (j - 20) (by omega) (by omega)
          rw [show 20 + (j - 20) = j by omega] at this
          rw [this]
          have := hr (j - 20) (by omega) (by omega)
          constructor <;> omega
        · iterate 30 (all_goals (first
            | (refine And.intro (by omega) ?_)
            | (refine And.intro (fun hb => absurd hb (by omega)) (fun hb => ?_))
            | (refine And.intro (fun hb => ?_) (fun hb => absurd hb (by omega)))
            | (refine And.intro (fun hb => ?_) (fun hb => ?_))
            | (intro hb)
            | (conv => whnf)))
          refine hQ hc ka kb hnb V' r g e1 (fun x y x0 x1 y0 y1 => ?_) e3 e4 (fun j z => by rw [e5 j z, w1 90 (by decide), am_up_ne (by decide)]) e6 (fun j z => by rw [e7 j z, w1 91 (by decide), am_up_ne (by decide)]) e8 (fun j z => by rw [e9 j z, w1 92 (by decide), am_up_ne (by decide)]) e10 (fun j z1 z2 => by rw [e11 j z2, w1 86 (by decide), am_up_at, if_neg z1]) (fun a z1 z2 z3 z4 z5 z6 => by rw [e12 a z1 z2 z3 z4 z5 z6, w1 a z5, am_up_ne z1])
          rw [e2 x y x0 x1 y0 y1, w3 x x0 (by omega), w3 y y0 (by omega)]
          have := hr x x0 x1
          have := hr y y0 y1
          omega
      · have f1 := (w2 i a1 (by omega)).1
        have f2 := (w2 i a1 (by omega)).2
        have nx := ih (i + 1) (am_up W 93 (20 + i) (10 * V 92 (10 * a + i) + V 92 (10 * b + i))) (by omega) (by omega) (by omega) (fun x hx => by rw [am_up_ne hx, w1 x hx]) (fun j j0 j1 => by rw [am_up_at, if_neg (by omega), am_up_at, if_neg (by omega)]; exact w2 j j0 j1) (fun j j0 j1 => by
          rw [am_up_at]
          by_cases z : j = i
          · rw [if_pos (by omega), z]
          · rw [if_neg (by omega), w3 j j0 (by omega)])
        clear ih w3
        refine am_run 400 mt_M_both ok_M_both (fun K S hK hS => ?_)
        iterate 40 (all_goals (first
          | (refine And.intro (by omega) ?_)
          | (refine And.intro (by decide) ?_)
          | (refine And.intro (fun hb => absurd hb (by omega)) (fun hb => ?_))
          | (refine And.intro (fun hb => ?_) (fun hb => absurd hb (by omega)))
          | (refine And.intro (fun hb => ?_) (fun hb => ?_))
          | (intro hb)
          | (simp only [f1, f2])
          | (conv => whnf)))
        exact hS nx
  have e90 : ∀ k, am_up V 86 0 0 90 k = V 90 k := fun k => by rw [am_up_ne (by decide)]
  have e91 : ∀ k, am_up V 86 0 0 91 k = V 91 k := fun k => by rw [am_up_ne (by decide)]
  refine am_run 400 mt_M_both ok_M_both (fun K S hK hS => ?_)
  iterate 30 (all_goals (first
    | (refine And.intro (by omega) ?_)
    | (refine And.intro (fun hb => absurd hb (by omega)) (fun hb => ?_))
    | (refine And.intro (fun hb => ?_) (fun hb => absurd hb (by omega)))
    | (refine And.intro (fun hb => ?_) (fun hb => ?_))
    | (intro hb)
    | (conv => whnf)))
  refine hK (s_M_isPlace h0 (fun r hr => ?_))
  iterate 30 (all_goals (first
    | (refine And.intro (by omega) ?_)
    | (refine And.intro (fun hb => absurd hb (by omega)) (fun hb => ?_))
    | (refine And.intro (fun hb => ?_) (fun hb => absurd hb (by omega)))
    | (refine And.intro (fun hb => ?_) (fun hb => ?_))
    | (intro hb)
    | (conv => whnf)))
  · exact hB (by omega)
  refine hK (s_M_isPlace h1 (fun r2 hr2 => ?_))
  iterate 30 (all_goals (first
    | (refine And.intro (by omega) ?_)
    | (refine And.intro (fun hb => absurd hb (by omega)) (fun hb => ?_))
    | (refine And.intro (fun hb => ?_) (fun hb => absurd hb (by omega)))
    | (refine And.intro (fun hb => ?_) (fun hb => ?_))
    | (intro hb)
    | (conv => whnf)))
  · exact hB (by omega)
  refine hK (s_M_isPlace h2 (fun r3 hr3 => ?_))
  iterate 30 (all_goals (first
    | (refine And.intro (by omega) ?_)
    | (refine And.intro (fun hb => absurd hb (by omega)) (fun hb => ?_))
    | (refine And.intro (fun hb => ?_) (fun hb => absurd hb (by omega)))
    | (refine And.intro (fun hb => ?_) (fun hb => ?_))
    | (intro hb)
    | (conv => whnf)))
  · exact hB (by omega)
  refine hK (s_M_in (by omega) (by omega) (by omega) (fun r4 hr4 => ?_))
  by_cases hc : (0 ≤ q ∧ q < 10) ∧ (0 ≤ a ∧ a < 10) ∧ (0 ≤ b ∧ b < 10) ∧ w = 0
  · have va := hV a hc.2.1.1 hc.2.1.2
    have vb := hV b hc.2.2.1.1 hc.2.2.1.2
    have va1 : V 90 a = -1 ∨ (0 ≤ V 90 a ∧ V 90 a ≤ 4) := va.elim Or.inl (fun z => Or.inr ⟨z.1, z.2.1⟩)
    have vb1 : V 90 b = -1 ∨ (0 ≤ V 90 b ∧ V 90 b ≤ 4) := vb.elim Or.inl (fun z => Or.inr ⟨z.1, z.2.1⟩)
    have va2 : 0 ≤ V 90 a → 1 ≤ V 91 a ∧ V 91 a ≤ 10 := fun z => va.elim (fun e => absurd z (by omega)) (fun e => ⟨e.2.2.1, e.2.2.2.1⟩)
    have vb2 : 0 ≤ V 90 b → 1 ≤ V 91 b ∧ V 91 b ≤ 10 := fun z => vb.elim (fun e => absurd z (by omega)) (fun e => ⟨e.2.2.1, e.2.2.2.1⟩)
    have va3 : 0 ≤ V 90 a → ∀ j, 0 ≤ j → j < V 91 a → 0 ≤ V 92 (10 * a + j) ∧ V 92 (10 * a + j) < 10 := fun z => va.elim (fun e => absurd z (by omega)) (fun e => e.2.2.2.2)
    have vb3 : 0 ≤ V 90 b → ∀ j, 0 ≤ j → j < V 91 b → 0 ≤ V 92 (10 * b + j) ∧ V 92 (10 * b + j) < 10 := fun z => vb.elim (fun e => absurd z (by omega)) (fun e => e.2.2.2.2)
    clear va vb
    iterate 30 (all_goals (first
      | (refine And.intro (by omega) ?_)
      | (refine And.intro (fun hb => absurd hb (by omega)) (fun hb => ?_))
      | (refine And.intro (fun hb => ?_) (fun hb => absurd hb (by omega)))
      | (refine And.intro (fun hb => ?_) (fun hb => ?_))
      | (intro hb)
      | (conv => whnf)))
    refine hK (s_M_asked hc.2.1 (by rw [e90]; omega) (by omega) (fun r5 hr5 => ?_))
    rw [e90] at hr5
    by_cases ka : 1 ≤ V 90 a ∧ V 90 a ≤ 3
    · obtain rfl : r5 = 0 := by omega
      iterate 30 (all_goals (first
        | (refine And.intro (by omega) ?_)
        | (refine And.intro (fun hb => absurd hb (by omega)) (fun hb => ?_))
        | (refine And.intro (fun hb => ?_) (fun hb => absurd hb (by omega)))
        | (refine And.intro (fun hb => ?_) (fun hb => ?_))
        | (intro hb)
        | (conv => whnf)))
      refine hK (s_M_asked hc.2.2.1 (by rw [e90]; omega) (by omega) (fun r6 hr6 => ?_))
      rw [e90] at hr6
      by_cases kb : 1 ≤ V 90 b ∧ V 90 b ≤ 3
      · obtain rfl : r6 = 0 := by omega
        have na := va2 (by omega)
        have nb := vb2 (by omega)
        by_cases hnb : n = V 91 b
        · iterate 60 (all_goals (first
            | (refine And.intro (by omega) ?_)
            | (refine And.intro (by decide) ?_)
            | (refine And.intro (fun hb => absurd hb (by omega)) (fun hb => ?_))
            | (refine And.intro (fun hb => ?_) (fun hb => absurd hb (by omega)))
            | (refine And.intro (fun hb => ?_) (fun hb => ?_))
            | (intro hb)
            | (simp only [e91])
            | (conv => whnf)))
          refine hK (s_M_load (n := n) hc.2.1 (by omega) (by rw [e91]; exact hn.symm) (by omega) (fun W w1 w2 w3 => ?_))
          have wV : ∀ x, x ≠ 93 → x ≠ 86 → W x = V x := fun x z1 z2 => by rw [w1 x z1, am_up_ne z2]
          iterate 30 (all_goals (first
            | (refine And.intro (by omega) ?_)
            | (refine And.intro (fun hb => absurd hb (by omega)) (fun hb => ?_))
            | (refine And.intro (fun hb => ?_) (fun hb => absurd hb (by omega)))
            | (refine And.intro (fun hb => ?_) (fun hb => ?_))
            | (intro hb)
            | (conv => whnf)))
          refine hK (s_M_load (n := n) hc.2.2.1 (by omega) (by rw [wV 91 (by decide) (by decide)]; exact hnb.symm) (by omega) (fun U u1 u2 u3 => ?_))
          rw [← hn]
          iterate 40 (all_goals (first
            | (refine And.intro (by omega) ?_)
            | (refine And.intro (fun hb => absurd hb (by omega)) (fun hb => ?_))
            | (refine And.intro (fun hb => ?_) (fun hb => absurd hb (by omega)))
            | (refine And.intro (fun hb => ?_) (fun hb => ?_))
            | (intro hb)
            | (conv => whnf)))
          refine hS (loop hc ka kb hnb (by omega) (fun j j0 j1 => ⟨va3 (by omega) j j0 (by omega), vb3 (by omega) j j0 (by omega)⟩) _ (n + 1).toNat 0 U (by omega) (by omega) (by omega) (fun x hx => by rw [u1 x hx, w1 x hx]) (fun j j0 j1 => ⟨?_, ?_⟩) (fun j j0 j1 => absurd j1 (by omega)))
          · rw [u3 _ (by omega), w2 j j0 j1, am_up_ne (by decide)]
          · rw [u2 j j0 j1, wV 92 (by decide) (by decide)]
        · iterate 60 (all_goals (first
            | (refine And.intro (by omega) ?_)
            | (refine And.intro (by decide) ?_)
            | (refine And.intro (fun hb => absurd hb (by omega)) (fun hb => ?_))
            | (refine And.intro (fun hb => ?_) (fun hb => absurd hb (by omega)))
            | (refine And.intro (fun hb => ?_) (fun hb => ?_))
            | (intro hb)
            | (simp only [e91])
            | (conv => whnf)))
          exact hB2 hc ka kb hnb
      · iterate 40 (all_goals (first
          | (refine And.intro (by omega) ?_)
          | (refine And.intro (fun hb => absurd hb (by omega)) (fun hb => ?_))
          | (refine And.intro (fun hb => ?_) (fun hb => absurd hb (by omega)))
          | (refine And.intro (fun hb => ?_) (fun hb => ?_))
          | (intro hb)
          | (conv => whnf)))
        refine hK (s_M_found (hF r6 hc (by omega)))
    · iterate 40 (all_goals (first
        | (refine And.intro (by omega) ?_)
        | (refine And.intro (fun hb => absurd hb (by omega)) (fun hb => ?_))
        | (refine And.intro (fun hb => ?_) (fun hb => absurd hb (by omega)))
        | (refine And.intro (fun hb => ?_) (fun hb => ?_))
        | (intro hb)
        | (conv => whnf)))
      refine hK (s_M_found (hF r5 hc (by omega)))
  · iterate 30 (all_goals (first
      | (refine And.intro (by omega) ?_)
      | (refine And.intro (fun hb => absurd hb (by omega)) (fun hb => ?_))
      | (refine And.intro (fun hb => ?_) (fun hb => absurd hb (by omega)))
      | (refine And.intro (fun hb => ?_) (fun hb => ?_))
      | (intro hb)
      | (conv => whnf)))
    exact hB (by omega)
