/-! the reference: finer, same, mixing, the trace -/
/-- the row at a is finer than the row at b -/
def m_fin (g h : Int → Int) (n : Int) : Prop := ∀ x y, 0 ≤ x → x < y → y < n → g x = g y → h x = h y
def m_nfin (g h : Int → Int) (n : Int) : Prop := ∃ x y, 0 ≤ x ∧ x < y ∧ y < n ∧ g x = g y ∧ h x ≠ h y
theorem s_M_isFiner {G : am_G} {d : Nat} {sh : Int → Option Nat} {V : am_V} {T : Nat} {Q : Option AV → am_V → am_T → Nat → Prop} {p q n : Int} (h0 : 0 ≤ p ∧ p + n ≤ 30) (h1 : 0 ≤ q ∧ q + n ≤ 30) (h2 : 0 ≤ n) (hr : ∀ i, 0 ≤ i → i < n → am_in32 (V 93 (p + i)) ∧ am_in32 (V 93 (q + i))) (hQ : ∀ r, (r = 1 ∧ m_fin (fun i => V 93 (p + i)) (fun i => V 93 (q + i)) n) ∨ (r = 0 ∧ m_nfin (fun i => V 93 (p + i)) (fun i => V 93 (q + i)) n) → Q (some (vI r)) V (am_RF sh) T) : am_Calls G (d + 1) 110 [vR 86, vI p, vI q, vI n] V (am_RF sh) T Q := by
  refine am_enter mt_M_isFiner ok_M_isFiner rfl ?_
  have loopX : ∀ (jx : Nat) (x : Int) (x5 : Option AV), 0 ≤ x → x + jx = n → (∀ x' y', 0 ≤ x' → x' < y' → y' < n → x' < x → V 93 (p + x') = V 93 (p + y') → V 93 (q + x') = V 93 (q + y')) → am_Sem G d 110 V T Q 3 [some (vR 86), some (vI p), some (vI q), some (vI n), some (vI x), x5] [] V (am_RF sh) T 0 0 := by
    intro jx
    induction jx with
    | zero =>
      intro x x5 hx hxn w
      refine am_run 400 mt_M_isFiner ok_M_isFiner (fun K S hK hS => ?_)
      iterate 30 (all_goals (first
        | (refine And.intro (by omega) ?_)
        | (refine And.intro (fun hb => absurd hb (by omega)) (fun hb => ?_))
        | (refine And.intro (fun hb => ?_) (fun hb => absurd hb (by omega)))
        | (refine And.intro (fun hb => ?_) (fun hb => ?_))
        | (intro hb)
        | (conv => whnf)))
      exact hQ _ (Or.inl ⟨rfl, fun x' y' a1 a2 a3 a4 => w x' y' a1 a2 a3 (by omega) a4⟩)
    | succ jx ihX =>
      intro x x5 hx hxn w
      have loopY : ∀ (jy : Nat) (y : Int), x + 1 ≤ y → y + jy = n → (∀ y', x < y' → y' < y → V 93 (p + x) = V 93 (p + y') → V 93 (q + x) = V 93 (q + y')) → am_Sem G d 110 V T Q 15 [some (vR 86), some (vI p), some (vI q), some (vI n), some (vI x), some (vI y)] [] V (am_RF sh) T 0 0 := by
        intro jy
        induction jy with
        | zero =>
          intro y hy hyn w2
          refine am_run 400 mt_M_isFiner ok_M_isFiner (fun K S hK hS => ?_)
          iterate 30 (all_goals (first
            | (refine And.intro (by omega) ?_)
            | (refine And.intro (fun hb => absurd hb (by omega)) (fun hb => ?_))
            | (refine And.intro (fun hb => ?_) (fun hb => absurd hb (by omega)))
            | (refine And.intro (fun hb => ?_) (fun hb => ?_))
            | (intro hb)
            | (conv => whnf)))
          refine hS (ihX (x + 1) _ (by omega) (by omega) (fun x' y' a1 a2 a3 a4 a5 => ?_))
          by_cases e : x' = x
          · subst e
            exact w2 y' a2 (by omega) a5
          · exact w x' y' a1 a2 a3 (by omega) a5
        | succ jy ihY =>
          intro y hy hyn w2
          have r1 := (hr x (by omega) (by omega)).1
          have r2 := (hr y (by omega) (by omega)).1
          have r3 := (hr x (by omega) (by omega)).2
          have r4 := (hr y (by omega) (by omega)).2
          refine am_run 400 mt_M_isFiner ok_M_isFiner (fun K S hK hS => ?_)
          iterate 30 (all_goals (first
            | (refine And.intro (by omega) ?_)
            | (refine And.intro (⟨r1, r2⟩) ?_)
            | (refine And.intro (⟨r3, r4⟩) ?_)
            | (refine And.intro (fun hb => absurd hb (by omega)) (fun hb => ?_))
            | (refine And.intro (fun hb => ?_) (fun hb => absurd hb (by omega)))
            | (refine And.intro (fun hb => ?_) (fun hb => ?_))
            | (intro hb)
            | (conv => whnf)))
          all_goals first
            | (refine hS (ihY (y + 1) (by omega) (by omega) (fun y' a1 a2 a3 => ?_))
               by_cases e : y' = y
               · subst e
                 omega
               · exact w2 y' a1 (by omega) a3)
            | (refine hQ _ (Or.inr ⟨rfl, x, y, hx, by omega, by omega, ?_, ?_⟩)
               · assumption
               · assumption)
      refine am_run 400 mt_M_isFiner ok_M_isFiner (fun K S hK hS => ?_)
      iterate 30 (all_goals (first
        | (refine And.intro (by omega) ?_)
        | (refine And.intro (fun hb => absurd hb (by omega)) (fun hb => ?_))
        | (refine And.intro (fun hb => ?_) (fun hb => absurd hb (by omega)))
        | (refine And.intro (fun hb => ?_) (fun hb => ?_))
        | (intro hb)
        | (conv => whnf)))
      exact hS (loopY (n - (x + 1)).toNat (x + 1) (by omega) (by omega) (fun y' a1 a2 => absurd a2 (by omega)))
  refine am_run 400 mt_M_isFiner ok_M_isFiner (fun K S hK hS => ?_)
  iterate 30 (all_goals (first
    | (refine And.intro (by omega) ?_)
    | (refine And.intro (fun hb => absurd hb (by omega)) (fun hb => ?_))
    | (refine And.intro (fun hb => ?_) (fun hb => absurd hb (by omega)))
    | (refine And.intro (fun hb => ?_) (fun hb => ?_))
    | (intro hb)
    | (conv => whnf)))
  exact hS (loopX n.toNat 0 _ (by omega) (by omega) (fun x' y' a1 a2 a3 a4 => absurd a4 (by omega)))
def m_smI (V : am_V) (k m : Int) : Prop := (m = 1 ∧ ∀ i, 0 ≤ i → i < k → V 93 i = V 93 (10 + i)) ∨ (m = 0 ∧ ∃ i, 0 ≤ i ∧ i < k ∧ V 93 i ≠ V 93 (10 + i))
theorem m_smI_01 {V : am_V} {k m : Int} (w : m_smI V k m) : m = 0 ∨ m = 1 := by
  rcases w with ⟨a, -⟩ | ⟨a, -⟩
  · exact Or.inr a
  · exact Or.inl a
theorem s_M_isSame {G : am_G} {d : Nat} {sh : Int → Option Nat} {V : am_V} {T : Nat} {Q : Option AV → am_V → am_T → Nat → Prop} {n : Int} (h2 : 0 ≤ n ∧ n ≤ 10) (hr : ∀ i, 0 ≤ i → i < n → am_in32 (V 93 i) ∧ am_in32 (V 93 (10 + i))) (hQ : ∀ r, m_smI V n r → Q (some (vI r)) V (am_RF sh) T) : am_Calls G (d + 1) 113 [vR 86, vI n] V (am_RF sh) T Q := by
  refine am_enter mt_M_isSame ok_M_isSame rfl ?_
  have loop : ∀ (j : Nat) (k m : Int), 0 ≤ k → k + j = n → m_smI V k m → am_Sem G d 113 V T Q 4 [some (vR 86), some (vI n), some (vI m), some (vI k)] [] V (am_RF sh) T 0 0 := by
    intro j
    induction j with
    | zero =>
      intro k m hk hkn w
      have hm := m_smI_01 w
      refine am_run 400 mt_M_isSame ok_M_isSame (fun K S hK hS => ?_)
      iterate 30 (all_goals (first
        | (refine And.intro (by omega) ?_)
        | (refine And.intro (fun hb => absurd hb (by omega)) (fun hb => ?_))
        | (refine And.intro (fun hb => ?_) (fun hb => absurd hb (by omega)))
        | (refine And.intro (fun hb => ?_) (fun hb => ?_))
        | (intro hb)
        | (conv => whnf)))
      rw [show k = n by omega] at w
      exact hQ _ w
    | succ j ih =>
      intro k m hk hkn w
      have hm := m_smI_01 w
      have e0 : V 93 (0 + k) = V 93 k := by rw [Int.zero_add]
      have r1 := (hr k hk (by omega)).1
      have r2 := (hr k hk (by omega)).2
      rw [← e0] at r1
      refine am_run 400 mt_M_isSame ok_M_isSame (fun K S hK hS => ?_)
      iterate 30 (all_goals (first
        | (refine And.intro (by omega) ?_)
        | (refine And.intro (⟨r1, r2⟩) ?_)
        | (refine And.intro (fun hb => absurd hb (by omega)) (fun hb => ?_))
        | (refine And.intro (fun hb => ?_) (fun hb => absurd hb (by omega)))
        | (refine And.intro (fun hb => ?_) (fun hb => ?_))
        | (intro hb)
        | (conv => whnf)))
      all_goals refine hS (ih (k + 1) _ (by omega) (by omega) ?_)
      all_goals first
        | (rcases w with ⟨a, b⟩ | ⟨a, i, b1, b2, b3⟩
           · exfalso; omega
           · exact Or.inr ⟨rfl, i, b1, Int.lt_trans b2 (Int.lt_succ k), b3⟩)
        | (rcases w with ⟨a, b⟩ | ⟨a, i, b1, b2, b3⟩
           · refine Or.inl ⟨rfl, fun i c1 c2 => ?_⟩
             by_cases e : i = k
             · subst e
               omega
             · exact b i c1 (by omega)
           · exfalso; clear b3; omega)
        | (exact Or.inr ⟨rfl, k, by omega, by omega, by omega⟩)
  refine am_run 400 mt_M_isSame ok_M_isSame (fun K S hK hS => ?_)
  iterate 30 (all_goals (first
    | (refine And.intro (by omega) ?_)
    | (refine And.intro (fun hb => absurd hb (by omega)) (fun hb => ?_))
    | (refine And.intro (fun hb => ?_) (fun hb => absurd hb (by omega)))
    | (refine And.intro (fun hb => ?_) (fun hb => ?_))
    | (intro hb)
    | (conv => whnf)))
  exact hS (loop n.toNat 0 1 (by omega) (by omega) (Or.inl ⟨rfl, fun i a b => absurd b (by omega)⟩))
theorem s_M_began {G : am_G} {d : Nat} {sh : Int → Option Nat} {V : am_V} {T : Nat} {Q : Option AV → am_V → am_T → Nat → Prop} {b : Int} (h : 0 ≤ V 86 12 ∧ V 86 12 ≤ 16) (hQ : ∀ V', (V 86 12 < 16 → V' = am_up (am_up V 95 (V 86 12) b) 86 12 (V 86 12 + 1)) → (16 ≤ V 86 12 → V' = V) → Q none V' (am_RF sh) T) : am_Calls G (d + 1) 103 [vR 86, vI b] V (am_RF sh) T Q := by
  refine am_enter mt_M_began ok_M_began rfl ?_
  refine am_run 400 mt_M_began ok_M_began (fun K S hK hS => ?_)
  iterate 30 (all_goals (first
    | (refine And.intro (by omega) ?_)
    | (refine And.intro (fun hb => absurd hb (by omega)) (fun hb => ?_))
    | (refine And.intro (fun hb => ?_) (fun hb => absurd hb (by omega)))
    | (refine And.intro (fun hb => ?_) (fun hb => ?_))
    | (intro hb)
    | (conv => whnf)))
  all_goals first
    | exact hQ _ (fun a => absurd a (by omega)) (fun _ => rfl)
    | exact hQ _ (fun _ => rfl) (fun a => absurd a (by omega))
theorem s_M_mix {G : am_G} {d : Nat} {sh : Int → Option Nat} {V : am_V} {T : Nat} {Q : Option AV → am_V → am_T → Nat → Prop} {a b n : Int} (h2 : 0 ≤ n ∧ n ≤ 10) (hb : am_in32 b) (hr : ∀ i, 0 ≤ i → i < n → am_in32 (V 93 (20 + i))) (hQ : ∀ V', (∀ x, x ≠ 93 → V' x = V x) → (∀ j, ¬ (20 ≤ j ∧ j < 20 + n) → V' 93 j = V 93 j) → (∀ j, 0 ≤ j → j < n → V' 93 (20 + j) = if V 93 (20 + j) = b then a else V 93 (20 + j)) → Q none V' (am_RF sh) T) : am_Calls G (d + 1) 94 [vR 86, vI a, vI b, vI n] V (am_RF sh) T Q := by
  refine am_enter mt_M_mix ok_M_mix rfl ?_
  have loop : ∀ (j : Nat) (k : Int) (W : am_V), 0 ≤ k → k + j = n → (∀ x, x ≠ 93 → W x = V x) → (∀ j, ¬ (20 ≤ j ∧ j < 20 + k) → W 93 j = V 93 j) → (∀ j, 0 ≤ j → j < k → W 93 (20 + j) = if V 93 (20 + j) = b then a else V 93 (20 + j)) → am_Sem G d 94 V T Q 3 [some (vR 86), some (vI a), some (vI b), some (vI n), some (vI k)] [] W (am_RF sh) T 0 0 := by
    intro j
    induction j with
    | zero =>
      intro k W hk hkn w1 w2 w3
      refine am_run 400 mt_M_mix ok_M_mix (fun K S hK hS => ?_)
      iterate 30 (all_goals (first
        | (refine And.intro (by omega) ?_)
        | (refine And.intro (fun hb => absurd hb (by omega)) (fun hb => ?_))
        | (refine And.intro (fun hb => ?_) (fun hb => absurd hb (by omega)))
        | (refine And.intro (fun hb => ?_) (fun hb => ?_))
        | (intro hb)
        | (conv => whnf)))
      rw [show k = n by omega] at w2 w3
      exact hQ W w1 w2 w3
    | succ j ih =>
      intro k W hk hkn w1 w2 w3
      have ek : W 93 (20 + k) = V 93 (20 + k) := w2 _ (by omega)
      have rk := hr k hk (by omega)
      rw [← ek] at rk
      refine am_run 400 mt_M_mix ok_M_mix (fun K S hK hS => ?_)
      iterate 30 (all_goals (first
        | (refine And.intro (by omega) ?_)
        | (refine And.intro (fun hb => absurd hb (by omega)) (fun hb => ?_))
        | (refine And.intro (fun hb => ?_) (fun hb => absurd hb (by omega)))
        | (refine And.intro (fun hb => ?_) (fun hb => ?_))
        | (intro hb)
        | (conv => whnf)))
      all_goals refine hS (ih (k + 1) _ (by omega) (by omega) (fun x hx => by rw [am_up_ne hx, w1 x hx]) (fun i a => by rw [am_up_at, if_neg (by omega), w2 i (by omega)]) (fun i a b => ?_))
      all_goals (rw [am_up_at]; by_cases e : i = k)
      · subst e
        rw [if_pos rfl, ek, if_neg (by rw [← ek]; exact hb)]
      · rw [if_neg (by omega), w3 i a (by omega)]
      · subst e
        rw [if_pos rfl, if_pos (by rw [← ek]; exact hb)]
      · rw [if_neg (by omega), w3 i a (by omega)]
  refine am_run 400 mt_M_mix ok_M_mix (fun K S hK hS => ?_)
  iterate 30 (all_goals (first
    | (refine And.intro (by omega) ?_)
    | (refine And.intro (fun hb => absurd hb (by omega)) (fun hb => ?_))
    | (refine And.intro (fun hb => ?_) (fun hb => absurd hb (by omega)))
    | (refine And.intro (fun hb => ?_) (fun hb => ?_))
    | (intro hb)
    | (conv => whnf)))
  exact hS (loop n.toNat 0 V (by omega) (by omega) (fun _ _ => rfl) (fun _ _ => rfl) (fun i a b => absurd b (by omega)))
