/-! turn, how 0: rows that are alike -/
theorem m_cl_eq {g g' : Int → Int} {n j k : Int} (e : ∀ x, 0 ≤ x → x < n → g x = g' x) (h0 : 0 ≤ j) (h1 : k < n) (h : m_cl g n j k) : m_cl g' n j k := fun x y a b c f i => by rw [← e x (by omega) (by omega), ← e y c f]; exact h x y a b c f i
theorem m_cp_eq {g g' : Int → Int} {n k v : Int} (e : ∀ x, 0 ≤ x → x < n → g x = g' x) (hk : 0 ≤ k ∧ k < n) (h : m_cp g n k v) : m_cp g' n k v := by
  obtain ⟨a, b, c, f⟩ := h
  exact ⟨a, b, c.elim Or.inl (fun z => Or.inr (m_cl_eq e a hk.2 z)), fun i i0 i1 z => f i i0 i1 (m_cl_eq (fun x z0 z1 => (e x z0 z1).symm) i0 hk.2 z)⟩
theorem m_kr_eq {g g' : Int → Int} {n x y : Int} (e : ∀ x, 0 ≤ x → x < n → g x = g' x) (hx : 0 ≤ x ∧ x < n) (hy : 0 ≤ y ∧ y < n) (h : m_kr g n x y) : m_kr g' n x y := by
  rcases h with ⟨a, b⟩ | ⟨a, b⟩
  · exact Or.inl ⟨a, m_cl_eq e hx.1 hy.2 b⟩
  · exact Or.inr ⟨a, m_cl_eq e hy.1 hx.2 b⟩
theorem m_kr_iff {g g' : Int → Int} {n x y : Int} (e : ∀ x, 0 ≤ x → x < n → g x = g' x) (hx : 0 ≤ x ∧ x < n) (hy : 0 ≤ y ∧ y < n) : m_kr g n x y ↔ m_kr g' n x y := ⟨m_kr_eq e hx hy, m_kr_eq (fun x a b => (e x a b).symm) hx hy⟩
/-! turn, how 0 -/
theorem s_M_turn0 {G : am_G} {d : Nat} {sh : Int → Option Nat} {V : am_V} {T : Nat} {Q : Option AV → am_V → am_T → Nat → Prop} {q k : Int} (h0 : am_in32 q) (h1 : am_in32 k)
    (hV : ∀ k, 0 ≤ k → k < 10 → (V 90 k = -1 ∨ (0 ≤ V 90 k ∧ V 90 k ≤ 4 ∧ 1 ≤ V 91 k ∧ V 91 k ≤ 10 ∧ ∀ j, 0 ≤ j → j < V 91 k → 0 ≤ V 92 (10 * k + j) ∧ V 92 (10 * k + j) < 10)))
    (hB : ¬ ((0 ≤ q ∧ q < 10) ∧ (0 ≤ k ∧ k < 10)) → Q (some (vI (-1000001))) (am_up V 86 0 0) (am_RF sh) T)
    (hF : ((0 ≤ q ∧ q < 10) ∧ (0 ≤ k ∧ k < 10)) → V 90 k < 0 → Q (some (vI (-1000011))) (am_up (am_up V 86 0 0) 86 1 1) (am_RF sh) T)
    (hX : ((0 ≤ q ∧ q < 10) ∧ (0 ≤ k ∧ k < 10)) → 0 ≤ V 90 k → ¬ (V 90 k = 1 ∨ V 90 k = 2 ∨ V 90 k = 3) → Q (some (vI (-1000013))) (am_up (am_up V 86 0 0) 86 1 3) (am_RF sh) T)
    (hQ : ((0 ≤ q ∧ q < 10) ∧ (0 ≤ k ∧ k < 10)) → (V 90 k = 1 ∨ V 90 k = 2 ∨ V 90 k = 3) → ∀ (V' : am_V) (r : Int) (g : Int → Int), m_rgs g (V 91 k) → (∀ x y, 0 ≤ x → x < V 91 k → 0 ≤ y → y < V 91 k → (g x = g y ↔ m_kr (fun j => V 92 (10 * k + j)) (V 91 k) x y)) → m_kd g (V 91 k) r → V' 90 q = r → (∀ j, j ≠ q → V' 90 j = V 90 j) → V' 91 q = V 91 k → (∀ j, j ≠ q → V' 91 j = V 91 j) → (∀ j, 0 ≤ j → j < V 91 k → V' 92 (10 * q + j) = g j) → (∀ j, ¬ (10 * q ≤ j ∧ j < 10 * q + V 91 k) → V' 92 j = V 92 j) → V' 86 1 = 0 → (∀ j, j ≠ 0 → j ≠ 1 → V' 86 j = V 86 j) → (∀ a, a ≠ 86 → a ≠ 90 → a ≠ 91 → a ≠ 92 → a ≠ 93 → a ≠ 94 → V' a = V a) → Q (some (vI r)) V' (am_RF sh) T) : am_Calls G (d + 6) 97 [vR 86, vI q, vI k, vI 0] V (am_RF sh) T Q := by
  refine am_enter mt_M_turn ok_M_turn rfl ?_
  obtain ⟨n, hn⟩ : ∃ n, n = V 91 k := ⟨_, rfl⟩
  rw [← hn] at hQ
  have e90 : am_up V 86 0 0 90 k = V 90 k := by rw [am_up_ne (by decide)]
  have e91 : am_up V 86 0 0 91 k = n := by rw [am_up_ne (by decide)]; exact hn.symm
  refine am_run 400 mt_M_turn ok_M_turn (fun K S hK hS => ?_)
  iterate 30 (all_goals (first
    | (refine And.intro (by omega) ?_)
    | (refine And.intro (fun hb => absurd hb (by omega)) (fun hb => ?_))
    | (refine And.intro (fun hb => ?_) (fun hb => absurd hb (by omega)))
    | (refine And.intro (fun hb => ?_) (fun hb => ?_))
    | (intro hb)
    | (conv => whnf)))
  refine hK (s_M_isPlace h0 (fun r hr => ?_))
  iterate 30 (all_goals (first
    | (refine And.intro (by omega) ?_)
    | (refine And.intro (fun hb => absurd hb (by omega)) (fun hb => ?_))
    | (refine And.intro (fun hb => ?_) (fun hb => absurd hb (by omega)))
    | (refine And.intro (fun hb => ?_) (fun hb => ?_))
    | (intro hb)
    | (conv => whnf)))
  · exact hB (by omega)
  refine hK (s_M_isPlace h1 (fun r2 hr2 => ?_))
  iterate 30 (all_goals (first
    | (refine And.intro (by omega) ?_)
    | (refine And.intro (fun hb => absurd hb (by omega)) (fun hb => ?_))
    | (refine And.intro (fun hb => ?_) (fun hb => absurd hb (by omega)))
    | (refine And.intro (fun hb => ?_) (fun hb => ?_))
    | (intro hb)
    | (conv => whnf)))
  · exact hB (by omega)
  refine hK (s_M_in (by omega) (by omega) (by omega) (fun r3 hr3 => ?_))
  have hc : (0 ≤ q ∧ q < 10) ∧ (0 ≤ k ∧ k < 10) := by omega
  have vk := hV k hc.2.1 hc.2.2
  have v1 : V 90 k = -1 ∨ (0 ≤ V 90 k ∧ V 90 k ≤ 4) := vk.elim Or.inl (fun z => Or.inr ⟨z.1, z.2.1⟩)
  have v2 : 0 ≤ V 90 k → 1 ≤ n ∧ n ≤ 10 := fun z => vk.elim (fun e => absurd z (by omega)) (fun e => by rw [hn]; exact ⟨e.2.2.1, e.2.2.2.1⟩)
  have v3 : 0 ≤ V 90 k → ∀ j, 0 ≤ j → j < n → 0 ≤ V 92 (10 * k + j) ∧ V 92 (10 * k + j) < 10 := fun z => vk.elim (fun e => absurd z (by omega)) (fun e => by rw [hn]; exact e.2.2.2.2)
  clear vk
  iterate 30 (all_goals (first
    | (refine And.intro (by omega) ?_)
    | (refine And.intro (fun hb => absurd hb (by omega)) (fun hb => ?_))
    | (refine And.intro (fun hb => ?_) (fun hb => absurd hb (by omega)))
    | (refine And.intro (fun hb => ?_) (fun hb => ?_))
    | (intro hb)
    | (conv => whnf)))
  refine hK (s_M_asked hc.2 (by rw [e90]; omega) (by omega) (fun r4 hr4 => ?_))
  rw [e90] at hr4
  by_cases hk : V 90 k < 0
  · obtain rfl : r4 = 1 := by omega
    iterate 30 (all_goals (first
      | (refine And.intro (by omega) ?_)
      | (refine And.intro (fun hb => absurd hb (by omega)) (fun hb => ?_))
      | (refine And.intro (fun hb => ?_) (fun hb => absurd hb (by omega)))
      | (refine And.intro (fun hb => ?_) (fun hb => ?_))
      | (intro hb)
      | (conv => whnf)))
    exact hK (s_M_found (hF hc hk))
  by_cases hk2 : V 90 k = 1 ∨ V 90 k = 2 ∨ V 90 k = 3
  · obtain rfl : r4 = 0 := by omega
    have n1 := v2 (by omega)
    have v3 := v3 (by omega)
    iterate 30 (all_goals (first
      | (refine And.intro (by omega) ?_)
      | (refine And.intro (by decide) ?_)
      | (refine And.intro (fun hb => absurd hb (by omega)) (fun hb => ?_))
      | (refine And.intro (fun hb => ?_) (fun hb => absurd hb (by omega)))
      | (refine And.intro (fun hb => ?_) (fun hb => ?_))
      | (intro hb)
      | (simp only [e91])
      | (conv => whnf)))
    refine hK (s_M_load (n := n) hc.2 (by omega) e91 (by omega) (fun W w1 w2 w3 => ?_))
    have w2' : ∀ j, 0 ≤ j → j < n → W 93 (0 + j) = V 92 (10 * k + j) := fun j j0 j1 => by rw [w2 j j0 j1, am_up_ne (by decide)]
    iterate 30 (all_goals (first
      | (refine And.intro (by omega) ?_)
      | (refine And.intro (by decide) ?_)
      | (refine And.intro (fun hb => absurd hb (by omega)) (fun hb => ?_))
      | (refine And.intro (fun hb => ?_) (fun hb => absurd hb (by omega)))
      | (refine And.intro (fun hb => ?_) (fun hb => ?_))
      | (intro hb)
      | (simp only [e91])
      | (conv => whnf)))
    refine hK (s_M_complement (by omega) (by omega) (by omega) (fun i z0 z1 => by have := v3 i z0 z1; rw [w2' i z0 z1]; constructor <;> omega) (fun X x1 x2 x3 => ?_))
    have x3' : ∀ i, 0 ≤ i → i < n → m_cp (fun j => V 92 (10 * k + j)) n i (X 93 (20 + i)) := fun i z0 z1 => m_cp_eq w2' ⟨z0, z1⟩ (x3 i z0 z1)
    iterate 30 (all_goals (first
      | (refine And.intro (by omega) ?_)
      | (refine And.intro (by decide) ?_)
      | (refine And.intro (fun hb => absurd hb (by omega)) (fun hb => ?_))
      | (refine And.intro (fun hb => ?_) (fun hb => absurd hb (by omega)))
      | (refine And.intro (fun hb => ?_) (fun hb => ?_))
      | (intro hb)
      | (simp only [e91])
      | (conv => whnf)))
    refine hK (s_M_lay hc.1 (by omega) n1 (by omega) (fun j b1 b2 => ?_) (fun V' r g e1 e2 e3 e4 e5 e6 e7 e8 e9 e10 e11 e12 => ?_))
    · have := x3' (j - 20) (by omega) (by omega)
      rw [show 20 + (j - 20) = j by omega] at this
      have z1 := this.1
      have z2 := this.2.1
      constructor <;> omega
    · iterate 30 (all_goals (first
        | (refine And.intro (by omega) ?_)
        | (refine And.intro (fun hb => absurd hb (by omega)) (fun hb => ?_))
        | (refine And.intro (fun hb => ?_) (fun hb => absurd hb (by omega)))
        | (refine And.intro (fun hb => ?_) (fun hb => ?_))
        | (intro hb)
        | (conv => whnf)))
      have f : ∀ a, a ≠ 93 → a ≠ 86 → X a = V a := fun a z z' => by rw [x1 a z, w1 a z, am_up_ne z']
      have f86 : ∀ j, j ≠ 0 → X 86 j = V 86 j := fun j z => by rw [x1 86 (by decide), w1 86 (by decide), am_up_at, if_neg z]
      exact hQ hc hk2 V' r g e1 (fun x y x0 x1 y0 y1 => by rw [e2 x y x0 x1 y0 y1]; exact m_cp_kr ⟨x0, x1⟩ ⟨y0, y1⟩ (x3' x x0 x1) (x3' y y0 y1)) e3 e4 (fun j z => by rw [e5 j z, f 90 (by decide) (by decide)]) e6 (fun j z => by rw [e7 j z, f 91 (by decide) (by decide)]) e8 (fun j z => by rw [e9 j z, f 92 (by decide) (by decide)]) e10 (fun j z1 z2 => by rw [e11 j z2, f86 j z1]) (fun a z1 z2 z3 z4 z5 z6 => by rw [e12 a z1 z2 z3 z4 z5 z6, f a z5 z1])
  · obtain rfl : r4 = 3 := by omega
    iterate 30 (all_goals (first
      | (refine And.intro (by omega) ?_)
      | (refine And.intro (fun hb => absurd hb (by omega)) (fun hb => ?_))
      | (refine And.intro (fun hb => ?_) (fun hb => absurd hb (by omega)))
      | (refine And.intro (fun hb => ?_) (fun hb => ?_))
      | (intro hb)
      | (conv => whnf)))
    exact hK (s_M_found (hX hc (by omega) hk2))
