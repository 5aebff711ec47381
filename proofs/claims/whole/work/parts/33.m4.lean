/-! the reference: kinds, laying down -/
def m_cg (g : Int → Int) (b : Int) : Nat → Int
  | 0 => 0
  | n + 1 => m_cg g b n + (if g n = b then 1 else 0)
theorem m_cnt_cg (V : am_V) (p b : Int) : ∀ n : Nat, m_cnt V p b n = m_cg (fun i => V 93 (p + i)) b n
  | 0 => rfl
  | n + 1 => by rw [m_cnt, m_cg, m_cnt_cg V p b n]
def m_rows (g : Int → Int) (n : Int) : Prop := ∀ k, 1 ≤ k → k < n → g k = g (k - 1) ∨ g k = g (k - 1) + 1
def m_prs (g : Int → Int) (n : Int) : Prop := ∀ i, 0 ≤ i → i < n → m_cg g (g i) n.toNat = 2
/-- the kind as it is told -/
def m_kd (g : Int → Int) (n r : Int) : Prop := (r = 2 ∧ ¬ m_Cr g n ∧ m_rows g n) ∨ (r = 3 ∧ ¬ m_Cr g n ∧ ¬ m_rows g n ∧ m_prs g n) ∨ (r = 1 ∧ ¬ m_Cr g n ∧ ¬ m_rows g n ∧ ¬ m_prs g n) ∨ (r = 4 ∧ m_Cr g n ∧ m_prs g n) ∨ (r = 0 ∧ m_Cr g n ∧ ¬ m_prs g n)
theorem m_kd_rng {g : Int → Int} {n r : Int} (h : m_kd g n r) : 0 ≤ r ∧ r ≤ 4 := by
  rcases h with ⟨a, -⟩ | ⟨a, -⟩ | ⟨a, -⟩ | ⟨a, -⟩ | ⟨a, -⟩ <;> omega
def m_rwI (V : am_V) (p k m : Int) : Prop := (m = 1 ∧ ∀ i, 1 ≤ i → i < k → V 93 (p + i) = V 93 (p + (i - 1)) ∨ V 93 (p + i) = V 93 (p + (i - 1)) + 1) ∨ (m = 0 ∧ ∃ i, 1 ≤ i ∧ i < k ∧ ¬ (V 93 (p + i) = V 93 (p + (i - 1)) ∨ V 93 (p + i) = V 93 (p + (i - 1)) + 1))
theorem m_rwI_01 {V : am_V} {p k m : Int} (w : m_rwI V p k m) : m = 0 ∨ m = 1 := by
  rcases w with ⟨a, -⟩ | ⟨a, -⟩
  · exact Or.inr a
  · exact Or.inl a
theorem s_M_kindOf {G : am_G} {d : Nat} {sh : Int → Option Nat} {V : am_V} {T : Nat} {Q : Option AV → am_V → am_T → Nat → Prop} {p n : Int} (h0 : 0 ≤ p) (h1 : 0 ≤ n) (h2 : p + n ≤ 30) (hr : ∀ i, 0 ≤ i → i < n → 0 ≤ V 93 (p + i) ∧ V 93 (p + i) < 1000) (hQ : ∀ r, m_kd (fun i => V 93 (p + i)) n r → Q (some (vI r)) V (am_RF sh) T) : am_Calls G (d + 3) 84 [vR 86, vI p, vI n] V (am_RF sh) T Q := by
  refine am_enter mt_M_kindOf ok_M_kindOf rfl ?_
  have hr32 : ∀ i, p ≤ i → i < p + n → am_in32 (V 93 i) := fun i a b => by
    have := hr (i - p) (by omega) (by omega)
    rw [show p + (i - p) = i by omega] at this
    exact ⟨by omega, by omega⟩
  refine am_run 400 mt_M_kindOf ok_M_kindOf (fun K S hK hS => ?_)
  iterate 30 (all_goals (first
    | (refine And.intro (by omega) ?_)
    | (refine And.intro (fun hb => absurd hb (by omega)) (fun hb => ?_))
    | (refine And.intro (fun hb => ?_) (fun hb => absurd hb (by omega)))
    | (refine And.intro (fun hb => ?_) (fun hb => ?_))
    | (intro hb)
    | (conv => whnf)))
  refine hK (s_M_isFree h0 h1 h2 hr32 (fun f hf => ?_))
  have hf01 : f = 0 ∨ f = 1 := by rcases hf with ⟨a, -⟩ | ⟨a, -⟩ <;> omega
  have loop : ∀ (j : Nat) (k m : Int), 1 ≤ k → (k = 1 ∧ n ≤ 1 ∨ k + j = n) → m_rwI V p k m → am_Sem G (d + 2) 84 V T Q 13 [some (vR 86), some (vI p), some (vI n), some (vI f), some (vI m), some (vI k)] [] V (am_RF sh) T 0 0 := by
    intro j
    induction j with
    | zero =>
      intro k m hk hkn w
      have hm := m_rwI_01 w
      refine am_run 400 mt_M_kindOf ok_M_kindOf (fun K S hK hS => ?_)
      iterate 30 (all_goals (first
        | (refine And.intro (by omega) ?_)
        | (refine And.intro (fun hb => absurd hb (by omega)) (fun hb => ?_))
        | (refine And.intro (fun hb => ?_) (fun hb => absurd hb (by omega)))
        | (refine And.intro (fun hb => ?_) (fun hb => ?_))
        | (intro hb)
        | (conv => whnf)))
      refine hK (s_M_isOfPairs h0 h1 h2 hr32 (fun q hq => ?_))
      have hq01 : q = 0 ∨ q = 1 := by rcases hq with ⟨a, -⟩ | ⟨a, -⟩ <;> omega
      have pr : (q = 1 ∧ m_prs (fun i => V 93 (p + i)) n) ∨ (q = 0 ∧ ¬ m_prs (fun i => V 93 (p + i)) n) := by
        rcases hq with ⟨a, b⟩ | ⟨a, i, b1, b2, b3⟩
        · exact Or.inl ⟨a, fun i c1 c2 => by rw [← m_cnt_cg]; exact b i c1 c2⟩
        · exact Or.inr ⟨a, fun c => b3 (by rw [m_cnt_cg]; exact c i b1 b2)⟩
      have hkn2 : n ≤ k := by omega
      have hlt2 : ∀ i, i < k → 1 ≤ i → i < n := fun i a b => by omega
      clear hkn
      have rw_ : (m = 1 ∧ m_rows (fun i => V 93 (p + i)) n) ∨ (m = 0 ∧ ¬ m_rows (fun i => V 93 (p + i)) n) := by
        rcases w with ⟨a, b⟩ | ⟨a, i, b1, b2, b3⟩
        · exact Or.inl ⟨a, fun i c1 c2 => b i c1 (Int.lt_of_lt_of_le c2 hkn2)⟩
        · exact Or.inr ⟨a, fun c => b3 (c i b1 (hlt2 i b2 b1))⟩
      clear hq w
      iterate 30 (all_goals (first
        | (refine And.intro (by omega) ?_)
        | (refine And.intro (fun hb => absurd hb (by omega)) (fun hb => ?_))
        | (refine And.intro (fun hb => ?_) (fun hb => absurd hb (by omega)))
        | (refine And.intro (fun hb => ?_) (fun hb => ?_))
        | (intro hb)
        | (conv => whnf)))
      all_goals (refine hQ _ ?_; unfold m_kd)
      all_goals (rcases hf with ⟨f1, f2⟩ | ⟨f1, f2⟩ <;> rcases pr with ⟨p1, p2⟩ | ⟨p1, p2⟩ <;> rcases rw_ with ⟨r1, r2⟩ | ⟨r1, r2⟩ <;> first | (exfalso; omega) | exact Or.inl ⟨rfl, f2, r2⟩ | exact Or.inr (Or.inl ⟨rfl, f2, r2, p2⟩) | exact Or.inr (Or.inr (Or.inl ⟨rfl, f2, r2, p2⟩)) | exact Or.inr (Or.inr (Or.inr (Or.inl ⟨rfl, f2, p2⟩))) | exact Or.inr (Or.inr (Or.inr (Or.inr ⟨rfl, f2, p2⟩))))
    | succ j ih =>
      intro k m hk hkn w
      by_cases hlt : n ≤ k
      · have : k = 1 ∧ n ≤ 1 := by omega
        have := ih k m hk (Or.inl this) w
        exact this
      have hm := m_rwI_01 w
      have r1 := hr k (by omega) (by omega)
      have r2 := hr (k - 1) (by omega) (by omega)
      have e1 : V 93 (p + k - 1) = V 93 (p + (k - 1)) := by rw [show p + k - 1 = p + (k - 1) by omega]
      refine am_run 400 mt_M_kindOf ok_M_kindOf (fun K S hK hS => ?_)
      iterate 30 (all_goals (first
        | (refine And.intro (by omega) ?_)
        | (refine And.intro (fun hb => absurd hb (by omega)) (fun hb => ?_))
        | (refine And.intro (fun hb => ?_) (fun hb => absurd hb (by omega)))
        | (refine And.intro (fun hb => ?_) (fun hb => ?_))
        | (intro hb)
        | (conv => whnf)))
      all_goals refine hS (ih (k + 1) _ (by omega) (by omega) ?_)
      all_goals first
        | (rcases w with ⟨a, b⟩ | ⟨a, i, b1, b2, b3⟩
           · exfalso; omega
           · exact Or.inr ⟨rfl, i, b1, Int.lt_trans b2 (Int.lt_succ k), b3⟩)
        | (rcases w with ⟨a, b⟩ | ⟨a, i, b1, b2, b3⟩
           · refine Or.inl ⟨rfl, fun i c1 c2 => ?_⟩
             by_cases e : i = k
             · subst e
               omega
             · exact b i c1 (by omega)
           · exfalso; clear b3; omega)
        | (exact Or.inr ⟨rfl, k, by omega, by omega, by omega⟩)
  iterate 30 (all_goals (first
    | (refine And.intro (by omega) ?_)
    | (refine And.intro (fun hb => absurd hb (by omega)) (fun hb => ?_))
    | (refine And.intro (fun hb => ?_) (fun hb => absurd hb (by omega)))
    | (refine And.intro (fun hb => ?_) (fun hb => ?_))
    | (intro hb)
    | (conv => whnf)))
  exact hS (loop (n - 1).toNat 1 1 (by omega) (by omega) (Or.inl ⟨rfl, fun i a b => absurd b (by omega)⟩))
theorem s_M_lay {G : am_G} {d : Nat} {sh : Int → Option Nat} {V : am_V} {T : Nat} {Q : Option AV → am_V → am_T → Nat → Prop} {q p n : Int} (hq : 0 ≤ q ∧ q < 10) (h0 : 0 ≤ p) (h1 : 1 ≤ n ∧ n ≤ 10) (h2 : p + n ≤ 30) (hr : ∀ i, p ≤ i → i < p + n → am_in32 (V 93 i)) (hQ : ∀ (V' : am_V) (r : Int) (g : Int → Int), m_rgs g n → (∀ i j, 0 ≤ i → i < n → 0 ≤ j → j < n → (g i = g j ↔ V 93 (p + i) = V 93 (p + j))) → m_kd g n r → V' 90 q = r → (∀ j, j ≠ q → V' 90 j = V 90 j) → V' 91 q = n → (∀ j, j ≠ q → V' 91 j = V 91 j) → (∀ k, 0 ≤ k → k < n → V' 92 (10 * q + k) = g k) → (∀ j, ¬ (10 * q ≤ j ∧ j < 10 * q + n) → V' 92 j = V 92 j) → V' 86 1 = 0 → (∀ j, j ≠ 1 → V' 86 j = V 86 j) → (∀ a, a ≠ 86 → a ≠ 90 → a ≠ 91 → a ≠ 92 → a ≠ 93 → a ≠ 94 → V' a = V a) → Q (some (vI r)) V' (am_RF sh) T) : am_Calls G (d + 4) 85 [vR 86, vI q, vI p, vI n] V (am_RF sh) T Q := by
  refine am_enter mt_M_lay ok_M_lay rfl ?_
  refine am_run 400 mt_M_lay ok_M_lay (fun K S hK hS => ?_)
  iterate 30 (all_goals (first
    | (refine And.intro (by omega) ?_)
    | (refine And.intro (fun hb => absurd hb (by omega)) (fun hb => ?_))
    | (refine And.intro (fun hb => ?_) (fun hb => absurd hb (by omega)))
    | (refine And.intro (fun hb => ?_) (fun hb => ?_))
    | (intro hb)
    | (conv => whnf)))
  refine hK (s_M_relabel h0 (by omega) h2 (fun i a b => by rw [am_up_ne (by decide)]; exact hr i a b) (fun W w1 w2 w3 w4 => ?_))
  have hg : ∀ k, 0 ≤ k → k < n → 0 ≤ W 93 (p + k) ∧ W 93 (p + k) ≤ k := fun k a b => m_rgs_lt w4 a b
  iterate 30 (all_goals (first
    | (refine And.intro (by omega) ?_)
    | (refine And.intro (fun hb => absurd hb (by omega)) (fun hb => ?_))
    | (refine And.intro (fun hb => ?_) (fun hb => absurd hb (by omega)))
    | (refine And.intro (fun hb => ?_) (fun hb => ?_))
    | (intro hb)
    | (conv => whnf)))
  refine hK (s_M_kindOf h0 (by omega) h2 (fun k a b => by have := hg k a b; omega) (fun r hkd => ?_))
  have hrr := m_kd_rng hkd
  have loop : ∀ (j : Nat) (k : Int) (U : am_V), 0 ≤ k → k + j = n → (∀ a, a ≠ 90 → a ≠ 91 → a ≠ 92 → U a = W a) → U 90 q = r → (∀ j, j ≠ q → U 90 j = W 90 j) → U 91 q = n → (∀ j, j ≠ q → U 91 j = W 91 j) → (∀ i, 0 ≤ i → i < k → U 92 (10 * q + i) = W 93 (p + i)) → (∀ j, ¬ (10 * q ≤ j ∧ j < 10 * q + k) → U 92 j = W 92 j) → am_Sem G (d + 3) 85 V T Q 33 [some (vR 86), some (vI q), some (vI p), some (vI n), some (vI k)] [] U (am_RF sh) T 0 0 := by
    intro j
    induction j with
    | zero =>
      intro k U hk hkn u1 u2 u3 u4 u5 u6 u7
      rw [show k = n by omega] at u6 u7
      refine am_run 400 mt_M_lay ok_M_lay (fun K S hK hS => ?_)
      iterate 30 (all_goals (first
        | (refine And.intro (by omega) ?_)
        | (refine And.intro (fun hb => absurd hb (by omega)) (fun hb => ?_))
        | (refine And.intro (fun hb => ?_) (fun hb => absurd hb (by omega)))
        | (refine And.intro (fun hb => ?_) (fun hb => ?_))
        | (intro hb)
        | (conv => whnf)))
      have e86 : ∀ j, U 86 j = am_up V 86 1 0 86 j := fun j => by rw [u1 86 (by decide) (by decide) (by decide), w1 86 (by decide) (by decide)]
      have eo : ∀ a, a ≠ 86 → a ≠ 93 → a ≠ 94 → W a = V a := fun a a1 a2 a3 => by rw [w1 a a2 a3, am_up_ne a1]
      rw [u2]
      refine hQ U r (fun i => W 93 (p + i)) w4 (fun i j a1 a2 a3 a4 => ?_) hkd u2 (fun j a => by rw [u3 j a, eo 90 (by decide) (by decide) (by decide)]) u4 (fun j a => by rw [u5 j a, eo 91 (by decide) (by decide) (by decide)]) u6 (fun j a => by rw [u7 j a, eo 92 (by decide) (by decide) (by decide)]) (by rw [e86, am_up_at, if_pos rfl]) (fun j a => by rw [e86, am_up_at, if_neg a]) (fun a a1 a2 a3 a4 a5 a6 => by rw [u1 a a2 a3 a4, eo a a1 a5 a6])
      have := w3 i j a1 a2 a3 a4
      rw [am_up_ne (by decide)] at this
      exact this
    | succ j ih =>
      intro k U hk hkn u1 u2 u3 u4 u5 u6 u7
      refine am_run 400 mt_M_lay ok_M_lay (fun K S hK hS => ?_)
      iterate 30 (all_goals (first
        | (refine And.intro (by omega) ?_)
        | (refine And.intro (fun hb => absurd hb (by omega)) (fun hb => ?_))
        | (refine And.intro (fun hb => ?_) (fun hb => absurd hb (by omega)))
        | (refine And.intro (fun hb => ?_) (fun hb => ?_))
        | (intro hb)
        | (conv => whnf)))
      refine hS (ih (k + 1) _ (by omega) (by omega) (fun a a1 a2 a3 => by rw [am_up_ne a3, u1 a a1 a2 a3]) (by rw [am_up_ne (by decide)]; exact u2) (fun j a => by rw [am_up_ne (by decide)]; exact u3 j a) (by rw [am_up_ne (by decide)]; exact u4) (fun j a => by rw [am_up_ne (by decide)]; exact u5 j a) (fun i a b => ?_) (fun i a => by rw [am_up_at, if_neg (by omega), u7 i (by omega)]))
      rw [am_up_at]
      by_cases e : i = k
      · subst e
        rw [if_pos rfl, u1 93 (by decide) (by decide) (by decide)]
      · rw [if_neg (by omega), u6 i a (by omega)]
  iterate 30 (all_goals (first
    | (refine And.intro (by omega) ?_)
    | (refine And.intro (fun hb => absurd hb (by omega)) (fun hb => ?_))
    | (refine And.intro (fun hb => ?_) (fun hb => absurd hb (by omega)))
    | (refine And.intro (fun hb => ?_) (fun hb => ?_))
    | (intro hb)
    | (conv => whnf)))
  refine hS (loop n.toNat 0 _ (by omega) (by omega) (fun a a1 a2 a3 => by rw [am_up_ne a2, am_up_ne a1]) ?_ (fun j a => ?_) ?_ (fun j a => ?_) (fun i a b => absurd b (by omega)) (fun j a => by rw [am_up_ne (by decide), am_up_ne (by decide)]))
  · rw [am_up_ne (by decide), am_up_at, if_pos rfl]
  · rw [am_up_ne (by decide), am_up_at, if_neg a]
  · rw [am_up_at, if_pos rfl]
  · rw [am_up_at, if_neg a, am_up_ne (by decide)]
