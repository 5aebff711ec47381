/-! change, both sides -/
theorem s_M_change {G : am_G} {d : Nat} {sh : Int → Option Nat} {V : am_V} {T : Nat} {Q : Option AV → am_V → am_T → Nat → Prop} {q f w c p : Int} (h0 : am_in32 q) (h1 : am_in32 f) (h2 : am_in32 w) (h3 : am_in32 c) (hp : 101 ≤ p ∧ p ≤ 2000000000) (e0 : V 86 2 = p) (hz : ∀ s, 0 ≤ s → s < 8 → 1 ≤ V 98 s ∧ V 98 s ≤ 8) (hm : ∀ s, 0 ≤ s → s < 8 → sr_rg p (sr_m V s) 8)
    (hB : ¬ ((0 ≤ q ∧ q < 8) ∧ (0 ≤ f ∧ f < 8) ∧ (0 ≤ w ∧ w ≤ 1) ∧ 0 ≤ c ∧ c < p) → Q (some (vI (-1000001))) (am_up V 86 0 0) (am_RF sh) T)
    (hQ : ((0 ≤ q ∧ q < 8) ∧ (0 ≤ f ∧ f < 8) ∧ (0 ≤ w ∧ w ≤ 1) ∧ 0 ≤ c ∧ c < p) → ∀ V' (x : Int → Int), (∀ a, a ≠ 98 → a ≠ 99 → a ≠ 100 → a ≠ 101 → a ≠ 102 → V' a = am_up V 86 0 0 a) → (∀ j, V' 98 j = if j = q then V 98 f else V 98 j) → (∀ j, ¬ (9 * q + 1 ≤ j ∧ j ≤ 9 * q + V 98 f) → V' 99 j = V 99 j) → sr_rg p (sr_m V' q) 8 → ((w = 0 ∧ ∀ k, 1 ≤ k → k ≤ V 98 f → sr_m V' q k = sr_m V f k * sr_fc p c c (k - 1).toNat % p) ∨ (w = 1 ∧ (∀ k, 1 ≤ k → k ≤ V 98 f → x k = (sr_m V f k + p - sr_ls p (sr_m V f) x 1 k (k - 1).toNat) % p) ∧ (∀ k, 1 ≤ k → k ≤ V 98 f → sr_m V' q k = (sr_ls p (sr_m V' q) (fun j => x j * sr_fc p 1 c (j - 1).toNat % p) 1 k (k - 1).toNat + x k * sr_fc p 1 c (k - 1).toNat % p) % p))) → Q (some (vI (V 98 f))) V' (am_RF sh) T) : am_Calls G (d + 6) 129 [vR 86, vI q, vI f, vI w, vI c] V (am_RF sh) T Q := by
  have mk : ∀ (W : am_V) k, 1 ≤ k → sr_m W q k = W 99 (9 * q + k) := fun W k z => by unfold sr_m; rw [if_neg (by omega)]
  have m0 : ∀ (W : am_V), sr_m W q 0 = 1 := fun W => by unfold sr_m; rw [if_pos rfl]
  have mW : ∀ W : am_V, W 99 = V 99 → ∀ s, sr_m W s = sr_m V s := fun W w s => by unfold sr_m; rw [w]
  refine am_enter mt_M_change ok_M_change rfl ?_
  have loop0b : ((0 ≤ q ∧ q < 8) ∧ (0 ≤ f ∧ f < 8) ∧ (0 ≤ w ∧ w ≤ 1) ∧ 0 ≤ c ∧ c < p) → w = 0 → ∀ (F : Int) (jj : Nat) (k : Int) (W : am_V), 1 ≤ k → k ≤ V 98 f + 1 → V 98 f + 1 - k < jj → (∀ a, a ≠ 98 → a ≠ 99 → a ≠ 101 → W a = am_up V 86 0 0 a) → (∀ j, W 98 j = if j = q then V 98 f else V 98 j) → (∀ j, ¬ (9 * q + 1 ≤ j ∧ j < 9 * q + k) → W 99 j = V 99 j) → (∀ j, 1 ≤ j → j < k → W 99 (9 * q + j) = sr_m V f j * sr_fc p c c (j - 1).toNat % p) → (∀ j, 1 ≤ j → j ≤ V 98 f → W 101 j = sr_m V f j * sr_fc p c c (j - 1).toNat % p) → am_Sem G (d + 5) 129 V T Q 197 [some (vR 86), some (vI q), some (vI f), some (vI w), some (vI c), some (vI (V 98 f)), some (vJ F), none, some (vI k)] [] W (am_RF sh) T 0 0 := by
    intro hc hw F jj
    have zf := hz f hc.2.1.1 hc.2.1.2
    induction jj with
    | zero => intro k W a1 a2 a3; omega
    | succ jj ih =>
      intro k W a1 a2 a3 w1 w2 w3 w4 w5
      by_cases hk : k = V 98 f + 1
      · refine am_run 400 mt_M_change ok_M_change (fun K S hK hS => ?_)
        iterate 30 (all_goals (first
          | (simp only [am_st2, am_st1, am_set, am_cut, am_get])
          | (refine And.intro (by omega) ?_)
          | (refine And.intro (fun hb => absurd hb (by omega)) (fun hb => ?_))
          | (refine And.intro (fun hb => ?_) (fun hb => absurd hb (by omega)))
          | (refine And.intro (fun hb => ?_) (fun hb => ?_))
          | (intro hb)
          | (conv => whnf)))
        refine hQ hc W (fun _ => 0) (fun a z1 z2 z3 z4 z5 => w1 a z1 z2 z4) w2 (fun j z => w3 j (by omega)) ⟨m0 W, fun j j1 j2 => ?_⟩ (Or.inl ⟨hw, fun j j1 j2 => by rw [mk W j j1]; exact w4 j j1 (by omega)⟩)
        rw [mk W j j1]
        by_cases z : j ≤ V 98 f
        · rw [w4 j j1 (by omega)]; exact m_modr (by omega)
        · rw [w3 _ (by omega), ← mk V j j1]; exact (hm q hc.1.1 hc.1.2).2 j j1 j2
      · have g := w5 k a1 (by omega)
        have nx := ih (k + 1) (am_up W 99 (9 * q + k) (W 101 k)) (by omega) (by omega) (by omega) (fun x x1 x2 x3 => by rw [am_up_ne x2, w1 x x1 x2 x3]) (fun j => by rw [am_up_ne (by decide), w2 j]) (fun j z => by rw [am_up_at, if_neg (by omega), w3 j (by omega)]) (fun j j1 j2 => by
          rw [am_up_at]
          by_cases z : j = k
          · rw [if_pos (by omega), z, g]
          · rw [if_neg (by omega), w4 j j1 (by omega)]) (fun j j1 j2 => by rw [am_up_ne (by decide)]; exact w5 j j1 j2)
        clear g w5 w4
        refine am_run 400 mt_M_change ok_M_change (fun K S hK hS => ?_)
        iterate 30 (all_goals (first
          | (simp only [am_st2, am_st1, am_set, am_cut, am_get])
          | (refine And.intro (by omega) ?_)
          | (refine And.intro (fun hb => absurd hb (by omega)) (fun hb => ?_))
          | (refine And.intro (fun hb => ?_) (fun hb => absurd hb (by omega)))
          | (refine And.intro (fun hb => ?_) (fun hb => ?_))
          | (intro hb)
          | (conv => whnf)))
        exact hS nx
  have loop0 : ((0 ≤ q ∧ q < 8) ∧ (0 ≤ f ∧ f < 8) ∧ (0 ≤ w ∧ w ≤ 1) ∧ 0 ≤ c ∧ c < p) → w = 0 → ∀ (jj : Nat) (k : Int) (W : am_V), 1 ≤ k → k ≤ V 98 f + 1 → V 98 f + 1 - k < jj → (∀ a, a ≠ 101 → W a = am_up V 86 0 0 a) → (∀ j, 1 ≤ j → j < k → W 101 j = sr_m V f j * sr_fc p c c (j - 1).toNat % p) → am_Sem G (d + 5) 129 V T Q 85 [some (vR 86), some (vI q), some (vI f), some (vI w), some (vI c), some (vI (V 98 f)), some (vJ (sr_fc p c c (k - 1).toNat)), none, some (vI k)] [] W (am_RF sh) T 0 0 := by
    intro hc hw jj
    have zf := hz f hc.2.1.1 hc.2.1.2
    induction jj with
    | zero => intro k W a1 a2 a3; omega
    | succ jj ih =>
      intro k W a1 a2 a3 w1 w2
      by_cases hk : k = V 98 f + 1
      · refine am_run 400 mt_M_change ok_M_change (fun K S hK hS => ?_)
        iterate 40 (all_goals (first
          | (simp only [am_st2, am_st1, am_set, am_cut, am_get])
          | (refine And.intro (by omega) ?_)
          | (refine And.intro (fun hb => absurd hb (by omega)) (fun hb => ?_))
          | (refine And.intro (fun hb => ?_) (fun hb => absurd hb (by omega)))
          | (refine And.intro (fun hb => ?_) (fun hb => ?_))
          | (intro hb)
          | (conv => whnf)))
        exact hS (loop0b hc hw _ (V 98 f + 1).toNat 1 _ (by omega) (by omega) (by omega) (fun x x1 x2 x3 => by rw [am_up_ne x1, w1 x x3]) (fun j => by rw [am_up_at, w1 98 (by decide), am_up_ne (by decide)]) (fun j _ => by rw [am_up_ne (by decide), w1 99 (by decide), am_up_ne (by decide)]) (fun j a b => absurd b (by omega)) (fun j a b => by rw [am_up_ne (by decide)]; exact w2 j a (by omega)))
      · have f86 : W 86 2 = p := by rw [w1 86 (by decide)]; simp +decide [am_up_ne, am_up_at, reduceIte]; exact e0
        have f86' : ∀ k v, am_up W 101 k v 86 2 = p := fun k v => by rw [am_up_ne (by decide)]; exact f86
        have rk := (hm f hc.2.1.1 hc.2.1.2).2 k a1 (by omega)
        have rf := sr_fc_rg (p := p) (a := c) (c := c) (by omega) hc.2.2.2 (k - 1).toNat
        have r1 := m_mulr rk.1 rk.2 rf.1 rf.2 hp.2
        have r2 := m_mulr rf.1 rf.2 hc.2.2.2.1 hc.2.2.2.2 hp.2
        have e1 : Int.tmod (sr_m V f k * sr_fc p c c (k - 1).toNat) p = sr_m V f k * sr_fc p c c (k - 1).toNat % p := m_tm r1.1
        have e2 : Int.tmod (sr_fc p c c (k - 1).toNat * c) p = sr_fc p c c (k + 1 - 1).toNat := by rw [m_tm r2.1, show (k + 1 - 1).toNat = (k - 1).toNat + 1 by omega, sr_fc]
        have nx := ih (k + 1) (am_up W 101 k (Int.tmod (sr_m V f k * sr_fc p c c (k - 1).toNat) p)) (by omega) (by omega) (by omega) (fun x hx => by rw [am_up_ne hx, w1 x hx]) (fun i i1 i2 => by
          rw [am_up_at]
          by_cases z : i = k
          · rw [if_pos z, e1, z]
          · rw [if_neg z, w2 i i1 (by omega)])
        rw [← e2] at nx
        have emf : sr_m W f k = sr_m V f k := by rw [mW W (by rw [w1 99 (by decide), am_up_ne (by decide)]) f]
        obtain ⟨F, hF⟩ : ∃ F, F = sr_fc p c c (k - 1).toNat := ⟨_, rfl⟩
        obtain ⟨M, hM⟩ : ∃ M, M = sr_m V f k := ⟨_, rfl⟩
        rw [← hF, ← hM] at nx r1
        rw [← hF] at r2 ⊢
        rw [← hM] at emf
        have x1 : am_in64 (M * F) := by constructor <;> omega
        have x2 : am_in64 (F * c) := by constructor <;> omega
        clear e1 e2 hF hM r1 r2 ih rf w2
        refine am_run 400 mt_M_change ok_M_change (fun K S hK hS => ?_)
        iterate 30 (all_goals (first
          | (simp only [am_st2, am_st1, am_set, am_cut, am_get])
          | (refine And.intro (by omega) ?_)
          | (refine And.intro (fun hb => absurd hb (by omega)) (fun hb => ?_))
          | (refine And.intro (fun hb => ?_) (fun hb => absurd hb (by omega)))
          | (refine And.intro (fun hb => ?_) (fun hb => ?_))
          | (intro hb)
          | (conv => whnf)))
        refine hK (s_M_m hc.2.1 (by omega) ?_)
        rw [emf]
        iterate 51 (all_goals (first
          | (simp only [am_st2, am_st1, am_set, am_cut, am_get])
          | (refine And.intro (⟨by with_reducible assumption, by omega⟩) ?_)
          | (refine And.intro (by omega) ?_)
          | (refine And.intro (fun hb => absurd hb (by omega)) (fun hb => ?_))
          | (refine And.intro (fun hb => ?_) (fun hb => absurd hb (by omega)))
          | (refine And.intro (fun hb => ?_) (fun hb => ?_))
          | (intro hb)
          | (simp only [f86, f86'])
          | (conv => whnf)))
        exact hS nx
  have loop1 : ((0 ≤ q ∧ q < 8) ∧ (0 ≤ f ∧ f < 8) ∧ (0 ≤ w ∧ w ≤ 1) ∧ 0 ≤ c ∧ c < p) → w = 1 → ∀ (X : Int → Int), (∀ k, 1 ≤ k → k ≤ V 98 f → 0 ≤ X k ∧ X k < p) → (∀ k, 1 ≤ k → k ≤ V 98 f → X k = (sr_m V f k + p - sr_ls p (sr_m V f) X 1 k (k - 1).toNat) % p) → ∀ (jj : Nat) (k : Int) (W : am_V), 1 ≤ k → k ≤ V 98 f + 1 → V 98 f + 1 - k < jj → (∀ a, a ≠ 100 → a ≠ 102 → W a = am_up V 86 0 0 a) → (∀ j, k ≤ j → j ≤ V 98 f → W 100 (0 + j) = X j) → (∀ j, 1 ≤ j → j < k → W 100 (0 + j) = X j * sr_fc p 1 c (j - 1).toNat % p) → am_Sem G (d + 5) 129 V T Q 85 [some (vR 86), some (vI q), some (vI f), some (vI w), some (vI c), some (vI (V 98 f)), some (vJ (sr_fc p 1 c (k - 1).toNat)), none, some (vI k)] [] W (am_RF sh) T 0 0 := by
    intro hc hw X hX1 hX2 jj
    have zf := hz f hc.2.1.1 hc.2.1.2
    induction jj with
    | zero => intro k W a1 a2 a3; omega
    | succ jj ih =>
      intro k W a1 a2 a3 w1 w2 w3
      by_cases hk : k = V 98 f + 1
      · have emq : ∀ s, sr_m W s = sr_m V s := mW W (by rw [w1 99 (by decide) (by decide), am_up_ne (by decide)])
        refine am_run 400 mt_M_change ok_M_change (fun K S hK hS => ?_)
        iterate 40 (all_goals (first
          | (simp only [am_st2, am_st1, am_set, am_cut, am_get])
          | (refine And.intro (by omega) ?_)
          | (refine And.intro (fun hb => absurd hb (by omega)) (fun hb => ?_))
          | (refine And.intro (fun hb => ?_) (fun hb => absurd hb (by omega)))
          | (refine And.intro (fun hb => ?_) (fun hb => ?_))
          | (intro hb)
          | (conv => whnf)))
        refine hK (s_M_findMoments (p := p) (by omega) (by rw [w1 86 (by decide) (by decide)]; simp +decide [am_up_ne, am_up_at, reduceIte]; exact e0) hc.1 (by omega) (by omega) zf (by rw [emq]; exact hm q hc.1.1 hc.1.2) (fun j j1 j2 => by rw [w3 j j1 (by omega)]; exact m_modr (by omega)) (fun U u1 u2 u3 u4 u5 => ?_))
        iterate 30 (all_goals (first
          | (simp only [am_st2, am_st1, am_set, am_cut, am_get])
          | (refine And.intro (by omega) ?_)
          | (refine And.intro (fun hb => absurd hb (by omega)) (fun hb => ?_))
          | (refine And.intro (fun hb => ?_) (fun hb => absurd hb (by omega)))
          | (refine And.intro (fun hb => ?_) (fun hb => ?_))
          | (intro hb)
          | (conv => whnf)))
        refine hQ hc U X (fun a z1 z2 z3 z4 z5 => by rw [u1 a z1 z2 z5, w1 a z3 z5]) (fun j => by rw [u2 j, w1 98 (by decide) (by decide), am_up_ne (by decide)]) (fun j z => by rw [u3 j z, w1 99 (by decide) (by decide), am_up_ne (by decide)]) u4 (Or.inr ⟨hw, hX2, fun j j1 j2 => ?_⟩)
        rw [u5 j j1 j2, w3 j j1 (by omega), sr_ls_eq (c := fun j => W 100 (0 + j)) (c' := fun j => X j * sr_fc p 1 c (j - 1).toNat % p) (fun _ _ _ => rfl) _ (by omega) (fun y y1 y2 => w3 y y1 (by omega))]
      · have f86 : W 86 2 = p := by rw [w1 86 (by decide) (by decide)]; simp +decide [am_up_ne, am_up_at, reduceIte]; exact e0
        have f86' : ∀ k v, am_up W 100 k v 86 2 = p := fun k v => by rw [am_up_ne (by decide)]; exact f86
        have fk : W 100 (0 + k) = X k := w2 k (by omega) (by omega)
        have rk := hX1 k a1 (by omega)
        have rf := sr_fc_rg (p := p) (a := 1) (c := c) (by omega) (by omega) (k - 1).toNat
        have r1 := m_mulr rk.1 rk.2 rf.1 rf.2 hp.2
        have r2 := m_mulr rf.1 rf.2 hc.2.2.2.1 hc.2.2.2.2 hp.2
        have e1 : Int.tmod (X k * sr_fc p 1 c (k - 1).toNat) p = X k * sr_fc p 1 c (k - 1).toNat % p := m_tm r1.1
        have e2 : Int.tmod (sr_fc p 1 c (k - 1).toNat * c) p = sr_fc p 1 c (k + 1 - 1).toNat := by rw [m_tm r2.1, show (k + 1 - 1).toNat = (k - 1).toNat + 1 by omega, sr_fc]
        have nx := ih (k + 1) (am_up W 100 (0 + k) (Int.tmod (X k * sr_fc p 1 c (k - 1).toNat) p)) (by omega) (by omega) (by omega) (fun x x1 x2 => by rw [am_up_ne x1, w1 x x1 x2]) (fun j j1 j2 => by rw [am_up_at, if_neg (by omega), w2 j (by omega) j2]) (fun i i1 i2 => by
          rw [am_up_at]
          by_cases z : i = k
          · rw [if_pos (by omega), e1, z]
          · rw [if_neg (by omega), w3 i i1 (by omega)])
        rw [← e2] at nx
        obtain ⟨F, hF⟩ : ∃ F, F = sr_fc p 1 c (k - 1).toNat := ⟨_, rfl⟩
        rw [← hF] at nx r1 r2 ⊢
        have x1 : am_in64 (X k * F) := by constructor <;> omega
        have x2 : am_in64 (F * c) := by constructor <;> omega
        clear e1 e2 hF r1 r2 ih rf w2 w3 hX1 hX2
        refine am_run 400 mt_M_change ok_M_change (fun K S hK hS => ?_)
        iterate 51 (all_goals (first
          | (simp only [am_st2, am_st1, am_set, am_cut, am_get])
          | (refine And.intro (⟨by with_reducible assumption, by omega⟩) ?_)
          | (refine And.intro (by omega) ?_)
          | (refine And.intro (fun hb => absurd hb (by omega)) (fun hb => ?_))
          | (refine And.intro (fun hb => ?_) (fun hb => absurd hb (by omega)))
          | (refine And.intro (fun hb => ?_) (fun hb => ?_))
          | (intro hb)
          | (simp only [f86, f86', fk])
          | (conv => whnf)))
        exact hS nx
  have e98 : ∀ s, am_up V 86 0 0 98 s = V 98 s := fun s => by rw [am_up_ne (by decide)]
  have e86 : am_up V 86 0 0 86 2 = p := by simp +decide [am_up_ne, am_up_at, reduceIte]; exact e0
  refine am_run 400 mt_M_change ok_M_change (fun K S hK hS => ?_)
  iterate 30 (all_goals (first
    | (refine And.intro (by omega) ?_)
    | (refine And.intro (fun hb => absurd hb (by omega)) (fun hb => ?_))
    | (refine And.intro (fun hb => ?_) (fun hb => absurd hb (by omega)))
    | (refine And.intro (fun hb => ?_) (fun hb => ?_))
    | (intro hb)
    | (conv => whnf)))
  refine hK (s_M_isSeries h0 (fun r hr => ?_))
  iterate 30 (all_goals (first
    | (refine And.intro (by omega) ?_)
    | (refine And.intro (fun hb => absurd hb (by omega)) (fun hb => ?_))
    | (refine And.intro (fun hb => ?_) (fun hb => absurd hb (by omega)))
    | (refine And.intro (fun hb => ?_) (fun hb => ?_))
    | (intro hb)
    | (conv => whnf)))
  · exact hB (by omega)
  refine hK (s_M_isSeries h1 (fun r2 hr2 => ?_))
  iterate 30 (all_goals (first
    | (refine And.intro (by omega) ?_)
    | (refine And.intro (fun hb => absurd hb (by omega)) (fun hb => ?_))
    | (refine And.intro (fun hb => ?_) (fun hb => absurd hb (by omega)))
    | (refine And.intro (fun hb => ?_) (fun hb => ?_))
    | (intro hb)
    | (conv => whnf)))
  · exact hB (by omega)
  refine hK (s_M_in (by omega) (by omega) (by omega) (fun r3 hr3 => ?_))
  iterate 30 (all_goals (first
    | (refine And.intro (by omega) ?_)
    | (refine And.intro (by decide) ?_)
    | (refine And.intro (fun hb => absurd hb (by omega)) (fun hb => ?_))
    | (refine And.intro (fun hb => ?_) (fun hb => absurd hb (by omega)))
    | (refine And.intro (fun hb => ?_) (fun hb => ?_))
    | (intro hb)
    | (simp only [e86])
    | (conv => whnf)))
  · exact hB (by omega)
  refine hK (s_M_in (by omega) (by omega) (by omega) (fun r4 hr4 => ?_))
  by_cases hc : (0 ≤ q ∧ q < 8) ∧ (0 ≤ f ∧ f < 8) ∧ (0 ≤ w ∧ w ≤ 1) ∧ 0 ≤ c ∧ c < p
  · have zf := hz f hc.2.1.1 hc.2.1.2
    by_cases hw : w = 0
    · iterate 51 (all_goals (first
        | (simp only [am_st2, am_st1, am_set, am_cut, am_get])
        | (refine And.intro (by omega) ?_)
        | (refine And.intro (fun hb => absurd hb (by omega)) (fun hb => ?_))
        | (refine And.intro (fun hb => ?_) (fun hb => absurd hb (by omega)))
        | (refine And.intro (fun hb => ?_) (fun hb => ?_))
        | (intro hb)
        | (simp only [e98])
        | (conv => whnf)))
      exact hS (loop0 hc hw (V 98 f + 1).toNat 1 _ (by omega) (by omega) (by omega) (fun _ _ => rfl) (fun j a b => absurd b (by omega)))
    · have emq : ∀ s, sr_m (am_up V 86 0 0) s = sr_m V s := mW _ (am_up_ne (by decide))
      iterate 51 (all_goals (first
        | (simp only [am_st2, am_st1, am_set, am_cut, am_get])
        | (refine And.intro (by omega) ?_)
        | (refine And.intro (fun hb => absurd hb (by omega)) (fun hb => ?_))
        | (refine And.intro (fun hb => ?_) (fun hb => absurd hb (by omega)))
        | (refine And.intro (fun hb => ?_) (fun hb => ?_))
        | (intro hb)
        | (simp only [e98])
        | (conv => whnf)))
      refine hK (s_M_findCumulants (p := p) (by omega) e86 hc.2.1 (by omega) (by omega) (e98 f) zf (by rw [emq]; exact hm f hc.2.1.1 hc.2.1.2) (fun W w1 w2 w3 w4 => ?_))
      rw [emq] at w4
      iterate 30 (all_goals (first
        | (simp only [am_st2, am_st1, am_set, am_cut, am_get])
        | (refine And.intro (by omega) ?_)
        | (refine And.intro (fun hb => absurd hb (by omega)) (fun hb => ?_))
        | (refine And.intro (fun hb => ?_) (fun hb => absurd hb (by omega)))
        | (refine And.intro (fun hb => ?_) (fun hb => ?_))
        | (intro hb)
        | (conv => whnf)))
      exact hS (loop1 hc (by omega) (fun j => W 100 (0 + j)) w3 w4 (V 98 f + 1).toNat 1 W (by omega) (by omega) (by omega) w1 (fun j _ _ => rfl) (fun j a b => absurd b (by omega)))
  · iterate 30 (all_goals (first
      | (refine And.intro (by omega) ?_)
      | (refine And.intro (fun hb => absurd hb (by omega)) (fun hb => ?_))
      | (refine And.intro (fun hb => ?_) (fun hb => absurd hb (by omega)))
      | (refine And.intro (fun hb => ?_) (fun hb => ?_))
      | (intro hb)
      | (conv => whnf)))
    exact hB (by omega)
