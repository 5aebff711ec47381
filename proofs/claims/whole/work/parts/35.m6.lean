/-! the reference: counting up -/
/-- the number at k may grow -/
def m_may (g : Int → Int) (k : Int) : Prop := ∃ j, 0 ≤ j ∧ j < k ∧ g k ≤ g j
def m_mx (g : Int → Int) (k m : Int) : Prop := 0 ≤ m ∧ (∀ j, 0 ≤ j → j < k → g j ≤ m) ∧ (m = 0 ∨ ∃ j, 0 ≤ j ∧ j < k ∧ g j = m)
theorem m_mx_keep {g : Int → Int} {k m : Int} (h : m_mx g k m) (h0 : 0 ≤ k) (h1 : g k ≤ m) : m_mx g (k + 1) m := by
  obtain ⟨w0, w1, w2⟩ := h
  refine ⟨w0, fun j a b => ?_, ?_⟩
  · by_cases e : j = k
    · rw [e]; exact h1
    · exact w1 j a (by omega)
  · rcases w2 with e | ⟨j, j1, j2, j3⟩
    · exact Or.inl e
    · exact Or.inr ⟨j, j1, by omega, j3⟩
theorem m_mx_up {g : Int → Int} {k m : Int} (h : m_mx g k m) (h0 : 0 ≤ k) (h1 : m < g k) : m_mx g (k + 1) (g k) := by
  obtain ⟨w0, w1, w2⟩ := h
  refine ⟨by omega, fun j a b => ?_, Or.inr ⟨k, h0, by omega, rfl⟩⟩
  by_cases e : j = k
  · rw [e]; exact Int.le_refl _
  · exact Int.le_of_lt (Int.lt_of_le_of_lt (w1 j a (by omega)) h1)
theorem s_M_next {G : am_G} {d : Nat} {sh : Int → Option Nat} {V : am_V} {T : Nat} {Q : Option AV → am_V → am_T → Nat → Prop} {p n : Int} (h0 : 0 ≤ p) (h1 : 1 ≤ n) (h2 : p + n ≤ 30) (hr : ∀ i, 0 ≤ i → i < n → 0 ≤ V 93 (p + i) ∧ V 93 (p + i) < 1000)
    (hQ1 : ∀ (V' : am_V) (k : Int), 0 < k → k < n → m_may (fun i => V 93 (p + i)) k → (∀ k', k < k' → k' < n → ¬ m_may (fun i => V 93 (p + i)) k') → (∀ a, a ≠ 93 → V' a = V a) → (∀ j, ¬ (p + k ≤ j ∧ j < p + n) → V' 93 j = V 93 j) → V' 93 (p + k) = V 93 (p + k) + 1 → (∀ j, k < j → j < n → V' 93 (p + j) = 0) → Q (some (vI 1)) V' (am_RF sh) T)
    (hQ0 : (∀ k', 0 < k' → k' < n → ¬ m_may (fun i => V 93 (p + i)) k') → Q (some (vI 0)) V (am_RF sh) T) : am_Calls G (d + 1) 87 [vR 86, vI p, vI n] V (am_RF sh) T Q := by
  refine am_enter mt_M_next ok_M_next rfl ?_
  have loopZ : ∀ (k m : Int), 0 < k → k < n → m_may (fun i => V 93 (p + i)) k → (∀ k', k < k' → k' < n → ¬ m_may (fun i => V 93 (p + i)) k') → ∀ (j : Nat) (y : Int) (W : am_V), k < y → y + j = n → (∀ a, a ≠ 93 → W a = V a) → (∀ j, ¬ (p + k ≤ j ∧ j < p + y) → W 93 j = V 93 j) → W 93 (p + k) = V 93 (p + k) + 1 → (∀ j, k < j → j < y → W 93 (p + j) = 0) → am_Sem G d 87 V T Q 86 [some (vR 86), some (vI p), some (vI n), some (vI k), some (vI m), some (vI y)] [] W (am_RF sh) T 0 0 := by
    intro k m hk0 hkn hmay hno j
    induction j with
    | zero =>
      intro y W hy hyn w1 w2 w3 w4
      refine am_run 400 mt_M_next ok_M_next (fun K S hK hS => ?_)
      iterate 30 (all_goals (first
        | (refine And.intro (by omega) ?_)
        | (refine And.intro (fun hb => absurd hb (by omega)) (fun hb => ?_))
        | (refine And.intro (fun hb => ?_) (fun hb => absurd hb (by omega)))
        | (refine And.intro (fun hb => ?_) (fun hb => ?_))
        | (intro hb)
        | (conv => whnf)))
      rw [show y = n by omega] at w2 w4
      exact hQ1 W k hk0 hkn hmay hno w1 w2 w3 w4
    | succ j ih =>
      intro y W hy hyn w1 w2 w3 w4
      refine am_run 400 mt_M_next ok_M_next (fun K S hK hS => ?_)
      iterate 30 (all_goals (first
        | (refine And.intro (by omega) ?_)
        | (refine And.intro (fun hb => absurd hb (by omega)) (fun hb => ?_))
        | (refine And.intro (fun hb => ?_) (fun hb => absurd hb (by omega)))
        | (refine And.intro (fun hb => ?_) (fun hb => ?_))
        | (intro hb)
        | (conv => whnf)))
      refine hS (ih (y + 1) _ (by omega) (by omega) (fun a ha => by rw [am_up_ne ha, w1 a ha]) (fun i a => by rw [am_up_at, if_neg (by omega), w2 i (by omega)]) (by rw [am_up_at, if_neg (by omega)]; exact w3) (fun i a b => ?_))
      rw [am_up_at]
      by_cases e : i = y
      · rw [if_pos (by omega)]
      · rw [if_neg (by omega), w4 i a (by omega)]
  have loopK : ∀ (jk : Nat) (k : Int) (x4 x5 : Option AV), k = jk → k < n → (∀ k', k < k' → k' < n → ¬ m_may (fun i => V 93 (p + i)) k') → am_Sem G d 87 V T Q 4 [some (vR 86), some (vI p), some (vI n), some (vI k), x4, x5] [] V (am_RF sh) T 0 0 := by
    intro jk
    induction jk with
    | zero =>
      intro k x4 x5 hk hkn hno
      refine am_run 400 mt_M_next ok_M_next (fun K S hK hS => ?_)
      iterate 30 (all_goals (first
        | (refine And.intro (by omega) ?_)
        | (refine And.intro (fun hb => absurd hb (by omega)) (fun hb => ?_))
        | (refine And.intro (fun hb => ?_) (fun hb => absurd hb (by omega)))
        | (refine And.intro (fun hb => ?_) (fun hb => ?_))
        | (intro hb)
        | (conv => whnf)))
      exact hQ0 (fun k' a b => hno k' (by omega) b)
    | succ jk ihK =>
      intro k x4 x5 hk hkn hno
      have loopM : ∀ (j : Nat) (y m : Int), 0 ≤ y → y + j = k → m < 1000 → m_mx (fun i => V 93 (p + i)) y m → am_Sem G d 87 V T Q 14 [some (vR 86), some (vI p), some (vI n), some (vI k), some (vI m), some (vI y)] [] V (am_RF sh) T 0 0 := by
        intro j
        induction j with
        | zero =>
          intro y m hy hyk hm w
          obtain ⟨w0, w1, w2⟩ := w
          have rk := hr k (by omega) hkn
          refine am_run 400 mt_M_next ok_M_next (fun K S hK hS => ?_)
          iterate 30 (all_goals (first
            | (refine And.intro (by omega) ?_)
            | (refine And.intro (fun hb => absurd hb (by omega)) (fun hb => ?_))
            | (refine And.intro (fun hb => ?_) (fun hb => absurd hb (by omega)))
            | (refine And.intro (fun hb => ?_) (fun hb => ?_))
            | (intro hb)
            | (conv => whnf)))
          · refine hS (ihK (k - 1) _ _ (by omega) (by omega) (fun k' a b => ?_))
            by_cases e : k' = k
            · subst e
              rintro ⟨j, j1, j2, j3⟩
              have := w1 j j1 (by omega)
              have j3 : V 93 (p + k') ≤ V 93 (p + j) := j3
              have this : V 93 (p + j) ≤ m := this
              omega
            · exact hno k' (by omega) b
          · have hmay : m_may (fun i => V 93 (p + i)) k := by
              rcases w2 with e | ⟨j, j1, j2, j3⟩
              · have r0 := hr 0 (by omega) (by omega)
                exact ⟨0, by omega, by omega, by show V 93 (p + k) ≤ V 93 (p + 0); omega⟩
              · exact ⟨j, j1, by omega, by show V 93 (p + k) ≤ V 93 (p + j); have j3 : V 93 (p + j) = m := j3; omega⟩
            refine hS (loopZ k m (by omega) hkn hmay hno (n - (k + 1)).toNat (k + 1) _ (by omega) (by omega) (fun a ha => am_up_ne ha) (fun i a => by rw [am_up_at, if_neg (by omega)]) (by rw [am_up_at, if_pos rfl]) (fun i a b => absurd b (by omega)))
        | succ j ih =>
          intro y m hy hyk hm w
          have ry := hr y (by omega) (by omega)
          have w0 : 0 ≤ m := w.1
          refine am_run 400 mt_M_next ok_M_next (fun K S hK hS => ?_)
          iterate 30 (all_goals (first
            | (refine And.intro (by omega) ?_)
            | (refine And.intro (fun hb => absurd hb (by omega)) (fun hb => ?_))
            | (refine And.intro (fun hb => ?_) (fun hb => absurd hb (by omega)))
            | (refine And.intro (fun hb => ?_) (fun hb => ?_))
            | (intro hb)
            | (conv => whnf)))
          · exact hS (ih (y + 1) m (by omega) (by omega) hm (m_mx_keep w hy (by show V 93 (p + y) ≤ m; omega)))
          · exact hS (ih (y + 1) (V 93 (p + y)) (by omega) (by omega) (by omega) (m_mx_up w hy (by show m < V 93 (p + y); omega)))
      refine am_run 400 mt_M_next ok_M_next (fun K S hK hS => ?_)
      iterate 30 (all_goals (first
        | (refine And.intro (by omega) ?_)
        | (refine And.intro (fun hb => absurd hb (by omega)) (fun hb => ?_))
        | (refine And.intro (fun hb => ?_) (fun hb => absurd hb (by omega)))
        | (refine And.intro (fun hb => ?_) (fun hb => ?_))
        | (intro hb)
        | (conv => whnf)))
      exact hS (loopM k.toNat 0 0 (by omega) (by omega) (by omega) ⟨by omega, fun j a b => absurd b (by omega), Or.inl rfl⟩)
  refine am_run 400 mt_M_next ok_M_next (fun K S hK hS => ?_)
  iterate 30 (all_goals (first
    | (refine And.intro (by omega) ?_)
    | (refine And.intro (fun hb => absurd hb (by omega)) (fun hb => ?_))
    | (refine And.intro (fun hb => ?_) (fun hb => absurd hb (by omega)))
    | (refine And.intro (fun hb => ?_) (fun hb => ?_))
    | (intro hb)
    | (conv => whnf)))
  exact hS (loopK (n - 1).toNat (n - 1) _ _ (by omega) (by omega) (fun k' a b => absurd b (by omega)))
