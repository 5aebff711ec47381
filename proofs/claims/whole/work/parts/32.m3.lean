/-! the reference: numbering by least points, kinds, laying down -/
/-- numbers rise as they come -/
def m_rgs (g : Int → Int) (n : Int) : Prop := ∀ k, 0 ≤ k → k < n → 0 ≤ g k ∧ (g k = 0 ∨ ∃ j, 0 ≤ j ∧ j < k ∧ g j = g k - 1)
theorem m_rgs_le {g : Int → Int} {n : Int} (h : m_rgs g n) : ∀ (m : Nat) (k : Int), k ≤ m → 0 ≤ k → k < n → g k ≤ k := by
  intro m
  induction m with
  | zero =>
    intro k h1 h2 h3
    obtain ⟨a, b | ⟨j, c1, c2, c3⟩⟩ := h k h2 h3
    · omega
    · omega
  | succ m ih =>
    intro k h1 h2 h3
    obtain ⟨a, b | ⟨j, c1, c2, c3⟩⟩ := h k h2 h3
    · omega
    · have := ih j (by omega) c1 (by omega)
      omega
theorem m_rgs_lt {g : Int → Int} {n k : Int} (h : m_rgs g n) (h0 : 0 ≤ k) (h1 : k < n) : 0 ≤ g k ∧ g k ≤ k := ⟨(h k h0 h1).1, m_rgs_le h k.toNat k (by omega) h0 h1⟩
theorem s_M_first {G : am_G} {d : Nat} {sh : Int → Option Nat} {V : am_V} {T : Nat} {Q : Option AV → am_V → am_T → Nat → Prop} {p n : Int} (h0 : 0 ≤ p) (h1 : 0 ≤ n) (h2 : p + n ≤ 30) (hQ : ∀ V', (∀ a, a ≠ 93 → V' a = V a) → (∀ j, ¬ (p ≤ j ∧ j < p + n) → V' 93 j = V 93 j) → (∀ j, 0 ≤ j → j < n → V' 93 (p + j) = 0) → Q none V' (am_RF sh) T) : am_Calls G (d + 1) 89 [vR 86, vI p, vI n] V (am_RF sh) T Q := by
  refine am_enter mt_M_first ok_M_first rfl ?_
  have loop : ∀ (j : Nat) (k : Int) (W : am_V), 0 ≤ k → k + j = n → (∀ a, a ≠ 93 → W a = V a) → (∀ j, ¬ (p ≤ j ∧ j < p + k) → W 93 j = V 93 j) → (∀ j, 0 ≤ j → j < k → W 93 (p + j) = 0) → am_Sem G d 89 V T Q 2 [some (vR 86), some (vI p), some (vI n), some (vI k)] [] W (am_RF sh) T 0 0 := by
    intro j
    induction j with
    | zero =>
      intro k W hk hkn w1 w2 w3
      refine am_run 400 mt_M_first ok_M_first (fun K S hK hS => ?_)
      iterate 30 (all_goals (first
        | (refine And.intro (by omega) ?_)
        | (refine And.intro (fun hb => absurd hb (by omega)) (fun hb => ?_))
        | (refine And.intro (fun hb => ?_) (fun hb => absurd hb (by omega)))
        | (refine And.intro (fun hb => ?_) (fun hb => ?_))
        | (intro hb)
        | (conv => whnf)))
      rw [show k = n by omega] at w2 w3
      exact hQ W w1 w2 w3
    | succ j ih =>
      intro k W hk hkn w1 w2 w3
      refine am_run 400 mt_M_first ok_M_first (fun K S hK hS => ?_)
      iterate 30 (all_goals (first
        | (refine And.intro (by omega) ?_)
        | (refine And.intro (fun hb => absurd hb (by omega)) (fun hb => ?_))
        | (refine And.intro (fun hb => ?_) (fun hb => absurd hb (by omega)))
        | (refine And.intro (fun hb => ?_) (fun hb => ?_))
        | (intro hb)
        | (conv => whnf)))
      refine hS (ih (k + 1) _ (by omega) (by omega) (fun a ha => by rw [am_up_ne ha, w1 a ha]) (fun i a => by rw [am_up_at, if_neg (by omega), w2 i (by omega)]) (fun i a b => ?_))
      rw [am_up_at]
      by_cases e : i = k
      · rw [if_pos (by omega)]
      · rw [if_neg (by omega), w3 i a (by omega)]
  refine am_run 400 mt_M_first ok_M_first (fun K S hK hS => ?_)
  iterate 30 (all_goals (first
    | (refine And.intro (by omega) ?_)
    | (refine And.intro (fun hb => absurd hb (by omega)) (fun hb => ?_))
    | (refine And.intro (fun hb => ?_) (fun hb => absurd hb (by omega)))
    | (refine And.intro (fun hb => ?_) (fun hb => ?_))
    | (intro hb)
    | (conv => whnf)))
  exact hS (loop n.toNat 0 V (by omega) (by omega) (fun _ _ => rfl) (fun _ _ => rfl) (fun i a b => absurd b (by omega)))
theorem s_M_relabel {G : am_G} {d : Nat} {sh : Int → Option Nat} {V : am_V} {T : Nat} {Q : Option AV → am_V → am_T → Nat → Prop} {p n : Int} (h0 : 0 ≤ p) (h1 : 0 ≤ n ∧ n ≤ 10) (h2 : p + n ≤ 30) (hr : ∀ i, p ≤ i → i < p + n → am_in32 (V 93 i)) (hQ : ∀ V', (∀ a, a ≠ 93 → a ≠ 94 → V' a = V a) → (∀ j, ¬ (p ≤ j ∧ j < p + n) → V' 93 j = V 93 j) → (∀ i j, 0 ≤ i → i < n → 0 ≤ j → j < n → (V' 93 (p + i) = V' 93 (p + j) ↔ V 93 (p + i) = V 93 (p + j))) → m_rgs (fun i => V' 93 (p + i)) n → Q none V' (am_RF sh) T) : am_Calls G (d + 1) 78 [vR 86, vI p, vI n] V (am_RF sh) T Q := by
  refine am_enter mt_M_relabel ok_M_relabel rfl ?_
  have loop2 : ∀ (U : am_V), (∀ a, a ≠ 94 → U a = V a) → m_rgs (U 94) n → (∀ i j, 0 ≤ i → i < n → 0 ≤ j → j < n → (U 94 i = U 94 j ↔ V 93 (p + i) = V 93 (p + j))) → ∀ (j : Nat) (k : Int) (W : am_V) (x3 : Int) (x5 x6 : Option AV), 0 ≤ k → k + j = n → (∀ a, a ≠ 93 → W a = U a) → (∀ j, ¬ (p ≤ j ∧ j < p + k) → W 93 j = V 93 j) → (∀ j, 0 ≤ j → j < k → W 93 (p + j) = U 94 j) → am_Sem G d 78 V T Q 110 [some (vR 86), some (vI p), some (vI n), some (vI x3), some (vI k), x5, x6] [] W (am_RF sh) T 0 0 := by
    intro U u1 u2 u3 j
    induction j with
    | zero =>
      intro k W x3 x5 x6 hk hkn w1 w2 w3
      refine am_run 400 mt_M_relabel ok_M_relabel (fun K S hK hS => ?_)
      iterate 30 (all_goals (first
        | (refine And.intro (by omega) ?_)
        | (refine And.intro (fun hb => absurd hb (by omega)) (fun hb => ?_))
        | (refine And.intro (fun hb => ?_) (fun hb => absurd hb (by omega)))
        | (refine And.intro (fun hb => ?_) (fun hb => ?_))
        | (intro hb)
        | (conv => whnf)))
      rw [show k = n by omega] at w2 w3
      refine hQ W (fun a a1 a2 => by rw [w1 a a1, u1 a a2]) w2 (fun i j a1 a2 a3 a4 => by rw [w3 i a1 a2, w3 j a3 a4]; exact u3 i j a1 a2 a3 a4) (fun i a1 a2 => ?_)
      obtain ⟨q1, q2⟩ := u2 i a1 a2
      show 0 ≤ W 93 (p + i) ∧ (W 93 (p + i) = 0 ∨ ∃ j, 0 ≤ j ∧ j < i ∧ W 93 (p + j) = W 93 (p + i) - 1)
      rw [w3 i a1 a2]
      refine ⟨q1, q2.elim Or.inl (fun ⟨j, c1, c2, c3⟩ => Or.inr ⟨j, c1, c2, ?_⟩)⟩
      rw [w3 j c1 (by omega)]
      exact c3
    | succ j ih =>
      intro k W x3 x5 x6 hk hkn w1 w2 w3
      refine am_run 400 mt_M_relabel ok_M_relabel (fun K S hK hS => ?_)
      iterate 30 (all_goals (first
        | (refine And.intro (by omega) ?_)
        | (refine And.intro (fun hb => absurd hb (by omega)) (fun hb => ?_))
        | (refine And.intro (fun hb => ?_) (fun hb => absurd hb (by omega)))
        | (refine And.intro (fun hb => ?_) (fun hb => ?_))
        | (intro hb)
        | (conv => whnf)))
      refine hS (ih (k + 1) _ _ _ _ (by omega) (by omega) (fun a ha => by rw [am_up_ne ha, w1 a ha]) (fun i a => by rw [am_up_at, if_neg (by omega), w2 i (by omega)]) (fun i a b => ?_))
      rw [am_up_at]
      by_cases e : i = k
      · rw [if_pos (by omega), w1 94 (by decide), e]
      · rw [if_neg (by omega), w3 i a (by omega)]
  have loop1 : ∀ (j : Nat) (k next : Int) (W : am_V) (x5 x6 : Option AV), 0 ≤ k → k + j = n → (∀ a, a ≠ 94 → W a = V a) → m_rgs (W 94) k → (∀ i j, 0 ≤ i → i < k → 0 ≤ j → j < k → (W 94 i = W 94 j ↔ V 93 (p + i) = V 93 (p + j))) → 0 ≤ next → next ≤ k → (∀ i, 0 ≤ i → i < k → W 94 i < next) → (next = 0 ∨ ∃ i, 0 ≤ i ∧ i < k ∧ W 94 i = next - 1) → am_Sem G d 78 V T Q 5 [some (vR 86), some (vI p), some (vI n), some (vI next), some (vI k), x5, x6] [] W (am_RF sh) T 0 0 := by
    intro j
    induction j with
    | zero =>
      intro k next W x5 x6 hk hkn w1 w2 w3 w4 w5 w6 w7
      rw [show k = n by omega] at w2 w3
      refine am_run 400 mt_M_relabel ok_M_relabel (fun K S hK hS => ?_)
      iterate 30 (all_goals (first
        | (refine And.intro (by omega) ?_)
        | (refine And.intro (fun hb => absurd hb (by omega)) (fun hb => ?_))
        | (refine And.intro (fun hb => ?_) (fun hb => absurd hb (by omega)))
        | (refine And.intro (fun hb => ?_) (fun hb => ?_))
        | (intro hb)
        | (conv => whnf)))
      exact hS (loop2 W w1 w2 w3 n.toNat 0 W _ _ _ (by omega) (by omega) (fun _ _ => rfl) (fun i _ => by rw [w1 93 (by decide)]) (fun i a b => absurd b (by omega)))
    | succ j ih =>
      intro k next W x5 x6 hk hkn w1 w2 w3 w4 w5 w6 w7
      have e93 : ∀ i, W 93 i = V 93 i := fun i => by rw [w1 93 (by decide)]
      have rk := hr (p + k) (by omega) (by omega)
      rw [← e93] at rk
      have fin : ∀ (v next' : Int), 0 ≤ v → v ≤ next → ((next' = next + 1 ∧ v = next ∧ ∀ i, 0 ≤ i → i < k → V 93 (p + i) ≠ V 93 (p + k)) ∨ (next' = next ∧ ∃ o, 0 ≤ o ∧ o < k ∧ v = W 94 o ∧ V 93 (p + o) = V 93 (p + k))) → ∀ x5 x6, am_Sem G d 78 V T Q 5 [some (vR 86), some (vI p), some (vI n), some (vI next'), some (vI (k + 1)), x5, x6] [] (am_up W 94 k v) (am_RF sh) T 0 0 := by
        intro v next' v0 v1 hv x5 x6
        have at_lt : ∀ i, i < k → am_up W 94 k v 94 i = W 94 i := fun i hi => by rw [am_up_at, if_neg (by omega)]
        have at_k : am_up W 94 k v 94 k = v := by rw [am_up_at, if_pos rfl]
        refine ih (k + 1) next' _ _ _ (by omega) (by omega) (fun a ha => by rw [am_up_ne ha, w1 a ha]) (fun i a b => ?_) (fun i i' a1 a2 a3 a4 => ?_) (by omega) (by rcases hv with ⟨q, -⟩ | ⟨q, -⟩ <;> omega) (fun i a b => ?_) ?_
        · by_cases e : i = k
          · subst e
            rw [at_k]
            refine ⟨v0, ?_⟩
            rcases hv with ⟨q1, q2, q3⟩ | ⟨q1, o, q2, q3, q4, q5⟩
            · rcases w7 with w | ⟨z, z1, z2, z3⟩
              · exact Or.inl (by omega)
              · exact Or.inr ⟨z, z1, z2, by rw [at_lt z z2]; omega⟩
            · obtain ⟨-, z⟩ := w2 o q2 q3
              rcases z with z | ⟨y, y1, y2, y3⟩
              · exact Or.inl (by omega)
              · exact Or.inr ⟨y, y1, by omega, by rw [at_lt y (by omega)]; omega⟩
          · obtain ⟨z1, z2⟩ := w2 i a (by omega)
            rw [at_lt i (by omega)]
            exact ⟨z1, z2.elim Or.inl (fun ⟨y, y1, y2, y3⟩ => Or.inr ⟨y, y1, y2, by rw [at_lt y (by omega)]; exact y3⟩)⟩
        · have key : ∀ i, 0 ≤ i → i < k → (W 94 i = v ↔ V 93 (p + i) = V 93 (p + k)) := by
            intro i a b
            rcases hv with ⟨q1, q2, q3⟩ | ⟨q1, o, q2, q3, q4, q5⟩
            · have := w6 i a b
              have := q3 i a b
              constructor
              · intro; omega
              · intro; contradiction
            · rw [q4, w3 i o a b q2 q3, q5]
          by_cases e : i = k <;> by_cases e' : i' = k
          · subst e; subst e'; simp
          · subst e
            rw [at_k, at_lt i' (by omega)]
            have := key i' a3 (by omega)
            constructor
            · intro h; exact (this.mp h.symm).symm
            · intro h; exact (this.mpr h.symm).symm
          · subst e'
            rw [at_k, at_lt i (by omega)]
            exact key i a1 (by omega)
          · rw [at_lt i (by omega), at_lt i' (by omega)]
            exact w3 i i' a1 (by omega) a3 (by omega)
        · by_cases e : i = k
          · subst e
            rw [at_k]
            rcases hv with ⟨q1, q2, q3⟩ | ⟨q1, o, q2, q3, q4, q5⟩
            · omega
            · have := w6 o q2 q3
              omega
          · rw [at_lt i (by omega)]
            have := w6 i a (by omega)
            rcases hv with ⟨q1, q2, q3⟩ | ⟨q1, -⟩ <;> omega
        · rcases hv with ⟨q1, q2, q3⟩ | ⟨q1, o, q2, q3, q4, q5⟩
          · exact Or.inr ⟨k, hk, by omega, by rw [at_k]; omega⟩
          · rcases w7 with w | ⟨z, z1, z2, z3⟩
            · exact Or.inl (by omega)
            · exact Or.inr ⟨z, z1, by omega, by rw [at_lt z z2]; omega⟩
      have inner : ∀ (i : Nat) (y old : Int), 0 ≤ y → y + i = k → ((old = -1000000 ∧ ∀ z, 0 ≤ z → z < y → V 93 (p + z) ≠ V 93 (p + k)) ∨ (0 ≤ old ∧ old < y ∧ V 93 (p + old) = V 93 (p + k))) → am_Sem G d 78 V T Q 18 [some (vR 86), some (vI p), some (vI n), some (vI next), some (vI k), some (vI old), some (vI y)] [] W (am_RF sh) T 0 0 := by
        intro i
        induction i with
        | zero =>
          intro y old hy hyk ho
          have hor : am_in32 old := by rcases ho with ⟨a, -⟩ | ⟨a, b, -⟩ <;> constructor <;> omega
          refine am_run 400 mt_M_relabel ok_M_relabel (fun K S hK hS => ?_)
          iterate 30 (all_goals (first
            | (refine And.intro (by omega) ?_)
            | (refine And.intro (fun hb => absurd hb (by omega)) (fun hb => ?_))
            | (refine And.intro (fun hb => ?_) (fun hb => absurd hb (by omega)))
            | (refine And.intro (fun hb => ?_) (fun hb => ?_))
            | (intro hb)
            | (conv => whnf)))
          · rcases ho with ⟨a, -⟩ | ⟨a, b, c⟩
            · exact absurd a (by omega)
            · have q1 := (w2 old a (by omega)).1
              have q2 := w6 old a (by omega)
              have := fin (W 94 old) next q1 (by omega) (Or.inr ⟨rfl, old, a, by omega, rfl, c⟩)
              rw [← Int.add_zero next] at this
              exact hS (this _ _)
          · rcases ho with ⟨a, b⟩ | ⟨a, b, c⟩
            · exact hS (fin next (next + 1) w4 (by omega) (Or.inl ⟨rfl, rfl, fun z z1 z2 => b z z1 (by omega)⟩) _ _)
            · omega
        | succ i ih2 =>
          intro y old hy hyk ho
          have hor : am_in32 old := by rcases ho with ⟨a, -⟩ | ⟨a, b, -⟩ <;> constructor <;> omega
          have ry := hr (p + y) (by omega) (by omega)
          rw [← e93] at ry
          refine am_run 400 mt_M_relabel ok_M_relabel (fun K S hK hS => ?_)
          iterate 30 (all_goals (first
            | (refine And.intro (by omega) ?_)
            | (refine And.intro (⟨ry, rk⟩) ?_)
            | (refine And.intro (fun hb => absurd hb (by omega)) (fun hb => ?_))
            | (refine And.intro (fun hb => ?_) (fun hb => absurd hb (by omega)))
            | (refine And.intro (fun hb => ?_) (fun hb => ?_))
            | (intro hb)
            | (conv => whnf)))
          · refine hS (ih2 (y + 1) old (by omega) (by omega) ?_)
            rw [e93, e93] at hb
            rcases ho with ⟨a, b⟩ | ⟨a, b, c⟩
            · refine Or.inl ⟨a, fun z z1 z2 => ?_⟩
              by_cases e : z = y
              · subst e; exact hb
              · exact b z z1 (by omega)
            · exact Or.inr ⟨a, by omega, c⟩
          · rw [e93, e93] at hb
            exact hS (ih2 (y + 1) y (by omega) (by omega) (Or.inr ⟨hy, by omega, hb⟩))
      refine am_run 400 mt_M_relabel ok_M_relabel (fun K S hK hS => ?_)
      iterate 30 (all_goals (first
        | (refine And.intro (by omega) ?_)
        | (refine And.intro (fun hb => absurd hb (by omega)) (fun hb => ?_))
        | (refine And.intro (fun hb => ?_) (fun hb => absurd hb (by omega)))
        | (refine And.intro (fun hb => ?_) (fun hb => ?_))
        | (intro hb)
        | (conv => whnf)))
      exact hS (inner k.toNat 0 (-1000000) (by omega) (by omega) (Or.inl ⟨rfl, fun z z1 z2 => absurd z2 (by omega)⟩))
  refine am_run 400 mt_M_relabel ok_M_relabel (fun K S hK hS => ?_)
  iterate 30 (all_goals (first
    | (refine And.intro (by omega) ?_)
    | (refine And.intro (fun hb => absurd hb (by omega)) (fun hb => ?_))
    | (refine And.intro (fun hb => ?_) (fun hb => absurd hb (by omega)))
    | (refine And.intro (fun hb => ?_) (fun hb => ?_))
    | (intro hb)
    | (conv => whnf)))
  exact hS (loop1 n.toNat 0 0 V _ _ (by omega) (by omega) (fun _ _ => rfl) (fun k a b => absurd b (by omega)) (fun i j a b => absurd b (by omega)) (by omega) (by omega) (fun i a b => absurd b (by omega)) (Or.inl rfl))
