/-! change -/
def sr_fc (p a c : Int) : Nat → Int
  | 0 => a
  | k + 1 => sr_fc p a c k * c % p
theorem sr_fc_rg {p a c : Int} (hp : 1 < p) (ha : 0 ≤ a ∧ a < p) : ∀ k, 0 ≤ sr_fc p a c k ∧ sr_fc p a c k < p
  | 0 => ha
  | k + 1 => m_modr (by omega)
theorem s_F_mulRow {G : am_G} {d : Nat} {sh : Int → Option Nat} {V : am_V} {T : Nat} {Q : Option AV → am_V → am_T → Nat → Prop} {p n c first a b : Int} (hp : 1 < p ∧ p ≤ 2000000000) (e0 : V 3 0 = p) (ha : 0 ≤ a ∧ a < 8) (hb : 0 ≤ b ∧ b < 8) (hn : 1 ≤ n ∧ n ≤ 8) (hc : 0 ≤ c ∧ c < p) (hf : 0 ≤ first ∧ first < p) (hr : ∀ k, 1 ≤ k → k ≤ n → 0 ≤ V 32 (64 * a + k) ∧ V 32 (64 * a + k) < p) (hQ : ∀ V', (∀ x, x ≠ 32 → V' x = V x) → (∀ j, ¬ (64 * b + 1 ≤ j ∧ j ≤ 64 * b + n) → V' 32 j = V 32 j) → (∀ k, 1 ≤ k → k ≤ n → V' 32 (64 * b + k) = V 32 (64 * a + k) * sr_fc p first c (k - 1).toNat % p) → Q none V' (am_RF sh) T) : am_Calls G (d + 1) 61 [vR 3, vI n, vW 32 a, vW 32 b, vJ first, vJ c] V (am_RF sh) T Q := by
  refine am_enter mt_F_multiplyByPowers ok_F_multiplyByPowers rfl ?_
  have loop : ∀ (jj : Nat) (k : Int) (W : am_V), 1 ≤ k → k ≤ n + 1 → n + 1 - k < jj → (∀ x, x ≠ 32 → W x = V x) → (∀ j, ¬ (64 * b + 1 ≤ j ∧ j < 64 * b + k) → W 32 j = V 32 j) → (∀ i, 1 ≤ i → i < k → W 32 (64 * b + i) = V 32 (64 * a + i) * sr_fc p first c (i - 1).toNat % p) → am_Sem G d 61 V T Q 7 [some (vR 3), some (vI n), some (vW 32 a), some (vW 32 b), some (vJ first), none, some (vJ c), none, some (vJ (sr_fc p first c (k - 1).toNat)), none, some (vI k)] [] W (am_RF sh) T 0 0 := by
    intro jj
    induction jj with
    | zero => intro k W a1 a2 a3; omega
    | succ jj ih =>
      intro k W a1 a2 a3 w1 w2 w3
      by_cases hk : k = n + 1
      · refine am_run 400 mt_F_multiplyByPowers ok_F_multiplyByPowers (fun K S hK hS => ?_)
        iterate 30 (all_goals (first
          | (simp only [am_st2, am_st1, am_set, am_cut, am_get])
          | (refine And.intro (by omega) ?_)
          | (refine And.intro (fun hb => absurd hb (by omega)) (fun hb => ?_))
          | (refine And.intro (fun hb => ?_) (fun hb => absurd hb (by omega)))
          | (refine And.intro (fun hb => ?_) (fun hb => ?_))
          | (intro hb)
          | (conv => whnf)))
        exact hQ W w1 (fun j z => w2 j (by omega)) (fun i i1 i2 => w3 i i1 (by omega))
      · have f0 : W 3 0 = p := by rw [w1 3 (by decide)]; exact e0
        have f0' : ∀ k v, am_up W 32 k v 3 0 = p := fun k v => by rw [am_up_ne (by decide)]; exact f0
        have fk : W 32 (64 * a + k) = V 32 (64 * a + k) := by rw [w2 _ (by omega)]
        have rk := hr k a1 (by omega)
        have rf := sr_fc_rg (p := p) (a := first) (c := c) hp.1 hf (k - 1).toNat
        have r1 := m_mulr rk.1 rk.2 rf.1 rf.2 hp.2
        have r2 := m_mulr rf.1 rf.2 hc.1 hc.2 hp.2
        have e1 : Int.tmod (V 32 (64 * a + k) * sr_fc p first c (k - 1).toNat) p = V 32 (64 * a + k) * sr_fc p first c (k - 1).toNat % p := m_tm r1.1
        have e2 : Int.tmod (sr_fc p first c (k - 1).toNat * c) p = sr_fc p first c (k + 1 - 1).toNat := by rw [m_tm r2.1, show (k + 1 - 1).toNat = (k - 1).toNat + 1 by omega, sr_fc]
        have nx := ih (k + 1) (am_up W 32 (64 * b + k) (Int.tmod (V 32 (64 * a + k) * sr_fc p first c (k - 1).toNat) p)) (by omega) (by omega) (by omega) (fun x hx => by rw [am_up_ne hx, w1 x hx]) (fun j z => by rw [am_up_at, if_neg (by omega), w2 j (by omega)]) (fun i i1 i2 => by
          rw [am_up_at]
          by_cases z : i = k
          · rw [if_pos (by omega), e1, z]
          · rw [if_neg (by omega), w3 i i1 (by omega)])
        rw [← e2] at nx
        obtain ⟨F, hF⟩ : ∃ F, F = sr_fc p first c (k - 1).toNat := ⟨_, rfl⟩
        rw [← hF] at nx r1 r2 ⊢
        have x1 : am_in64 (V 32 (64 * a + k) * F) := by constructor <;> omega
        have x2 : am_in64 (F * c) := by constructor <;> omega
        clear e1 e2 hF r1 r2 ih rf
        refine am_run 400 mt_F_multiplyByPowers ok_F_multiplyByPowers (fun K S hK hS => ?_)
        iterate 51 (all_goals (first
          | (simp only [am_st2, am_st1, am_set, am_cut, am_get])
          | (refine And.intro (⟨by with_reducible assumption, by omega⟩) ?_)
          | (refine And.intro (by omega) ?_)
          | (refine And.intro (fun hb => absurd hb (by omega)) (fun hb => ?_))
          | (refine And.intro (fun hb => ?_) (fun hb => absurd hb (by omega)))
          | (refine And.intro (fun hb => ?_) (fun hb => ?_))
          | (intro hb)
          | (simp only [f0, f0', fk])
          | (conv => whnf)))
        exact hS nx
  refine am_run 400 mt_F_multiplyByPowers ok_F_multiplyByPowers (fun K S hK hS => ?_)
  iterate 30 (all_goals (first
    | (simp only [am_st2, am_st1, am_set, am_cut, am_get])
    | (refine And.intro (by omega) ?_)
    | (refine And.intro (fun hb => absurd hb (by omega)) (fun hb => ?_))
    | (refine And.intro (fun hb => ?_) (fun hb => absurd hb (by omega)))
    | (refine And.intro (fun hb => ?_) (fun hb => ?_))
    | (intro hb)
    | (conv => whnf)))
  exact hS (loop (n + 1).toNat 1 V (by omega) (by omega) (by omega) (fun _ _ => rfl) (fun _ _ => rfl) (fun i i1 i2 => absurd i2 (by omega)))
theorem s_F_mulLeft {G : am_G} {d : Nat} {sh : Int → Option Nat} {V : am_V} {T : Nat} {Q : Option AV → am_V → am_T → Nat → Prop} {p n c first : Int} (hp : 1 < p ∧ p ≤ 2000000000) (e0 : V 3 0 = p) (hn : 1 ≤ n ∧ n ≤ 8) (hc : 0 ≤ c ∧ c < p) (hf : 0 ≤ first ∧ first < p) (hr : ∀ k, 1 ≤ k → k ≤ n → 0 ≤ V 42 k ∧ V 42 k < p) (hQ : ∀ V', (∀ x, x ≠ 42 → V' x = V x) → (∀ j, ¬ (1 ≤ j ∧ j ≤ n) → V' 42 j = V 42 j) → (∀ k, 1 ≤ k → k ≤ n → V' 42 k = V 42 k * sr_fc p first c (k - 1).toNat % p) → Q none V' (am_RF sh) T) : am_Calls G (d + 1) 61 [vR 3, vI n, vR 42, vR 42, vJ first, vJ c] V (am_RF sh) T Q := by
  refine am_enter mt_F_multiplyByPowers ok_F_multiplyByPowers rfl ?_
  have loop : ∀ (jj : Nat) (k : Int) (W : am_V), 1 ≤ k → k ≤ n + 1 → n + 1 - k < jj → (∀ x, x ≠ 42 → W x = V x) → (∀ j, ¬ (1 ≤ j ∧ j < k) → W 42 j = V 42 j) → (∀ i, 1 ≤ i → i < k → W 42 i = V 42 i * sr_fc p first c (i - 1).toNat % p) → am_Sem G d 61 V T Q 7 [some (vR 3), some (vI n), some (vR 42), some (vR 42), some (vJ first), none, some (vJ c), none, some (vJ (sr_fc p first c (k - 1).toNat)), none, some (vI k)] [] W (am_RF sh) T 0 0 := by
    intro jj
    induction jj with
    | zero => intro k W a1 a2 a3; omega
    | succ jj ih =>
      intro k W a1 a2 a3 w1 w2 w3
      by_cases hk : k = n + 1
      · refine am_run 400 mt_F_multiplyByPowers ok_F_multiplyByPowers (fun K S hK hS => ?_)
        iterate 30 (all_goals (first
          | (simp only [am_st2, am_st1, am_set, am_cut, am_get])
          | (refine And.intro (by omega) ?_)
          | (refine And.intro (fun hb => absurd hb (by omega)) (fun hb => ?_))
          | (refine And.intro (fun hb => ?_) (fun hb => absurd hb (by omega)))
          | (refine And.intro (fun hb => ?_) (fun hb => ?_))
          | (intro hb)
          | (conv => whnf)))
        exact hQ W w1 (fun j z => w2 j (by omega)) (fun i i1 i2 => w3 i i1 (by omega))
      · have f0 : W 3 0 = p := by rw [w1 3 (by decide)]; exact e0
        have f0' : ∀ k v, am_up W 42 k v 3 0 = p := fun k v => by rw [am_up_ne (by decide)]; exact f0
        have fk : W 42 k = V 42 k := by rw [w2 _ (by omega)]
        have rk := hr k a1 (by omega)
        have rf := sr_fc_rg (p := p) (a := first) (c := c) hp.1 hf (k - 1).toNat
        have r1 := m_mulr rk.1 rk.2 rf.1 rf.2 hp.2
        have r2 := m_mulr rf.1 rf.2 hc.1 hc.2 hp.2
        have e1 : Int.tmod (V 42 k * sr_fc p first c (k - 1).toNat) p = V 42 k * sr_fc p first c (k - 1).toNat % p := m_tm r1.1
        have e2 : Int.tmod (sr_fc p first c (k - 1).toNat * c) p = sr_fc p first c (k + 1 - 1).toNat := by rw [m_tm r2.1, show (k + 1 - 1).toNat = (k - 1).toNat + 1 by omega, sr_fc]
        have nx := ih (k + 1) (am_up W 42 k (Int.tmod (V 42 k * sr_fc p first c (k - 1).toNat) p)) (by omega) (by omega) (by omega) (fun x hx => by rw [am_up_ne hx, w1 x hx]) (fun j z => by rw [am_up_at, if_neg (by omega), w2 j (by omega)]) (fun i i1 i2 => by
          rw [am_up_at]
          by_cases z : i = k
          · rw [if_pos (by omega), e1, z]
          · rw [if_neg (by omega), w3 i i1 (by omega)])
        rw [← e2] at nx
        obtain ⟨F, hF⟩ : ∃ F, F = sr_fc p first c (k - 1).toNat := ⟨_, rfl⟩
        rw [← hF] at nx r1 r2 ⊢
        have x1 : am_in64 (V 42 k * F) := by constructor <;> omega
        have x2 : am_in64 (F * c) := by constructor <;> omega
        clear e1 e2 hF r1 r2 ih rf
        refine am_run 400 mt_F_multiplyByPowers ok_F_multiplyByPowers (fun K S hK hS => ?_)
        iterate 51 (all_goals (first
          | (simp only [am_st2, am_st1, am_set, am_cut, am_get])
          | (refine And.intro (⟨by with_reducible assumption, by omega⟩) ?_)
          | (refine And.intro (by omega) ?_)
          | (refine And.intro (fun hb => absurd hb (by omega)) (fun hb => ?_))
          | (refine And.intro (fun hb => ?_) (fun hb => absurd hb (by omega)))
          | (refine And.intro (fun hb => ?_) (fun hb => ?_))
          | (intro hb)
          | (simp only [f0, f0', fk])
          | (conv => whnf)))
        exact hS nx
  refine am_run 400 mt_F_multiplyByPowers ok_F_multiplyByPowers (fun K S hK hS => ?_)
  iterate 30 (all_goals (first
    | (simp only [am_st2, am_st1, am_set, am_cut, am_get])
    | (refine And.intro (by omega) ?_)
    | (refine And.intro (fun hb => absurd hb (by omega)) (fun hb => ?_))
    | (refine And.intro (fun hb => ?_) (fun hb => absurd hb (by omega)))
    | (refine And.intro (fun hb => ?_) (fun hb => ?_))
    | (intro hb)
    | (conv => whnf)))
  exact hS (loop (n + 1).toNat 1 V (by omega) (by omega) (by omega) (fun _ _ => rfl) (fun _ _ => rfl) (fun i i1 i2 => absurd i2 (by omega)))
