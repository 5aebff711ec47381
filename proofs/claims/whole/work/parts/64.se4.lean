/-! series: the reference's cumulants and moments; both sides find the same -/
theorem s_M_findCumulants {G : am_G} {d : Nat} {sh : Int → Option Nat} {V : am_V} {T : Nat} {Q : Option AV → am_V → am_T → Nat → Prop} {p sort s f n : Int} (hp : 1 < p ∧ p ≤ 2000000000) (e0 : V 86 2 = p) (hs : 0 ≤ s ∧ s < 8) (hf : 0 ≤ f ∧ f ≤ 18) (ho : 0 ≤ sort ∧ sort ≤ 2) (hN : V 98 s = n) (hn : 1 ≤ n ∧ n ≤ 8) (hm : sr_rg p (sr_m V s) 8) (hQ : ∀ V', (∀ a, a ≠ 100 → a ≠ 102 → V' a = V a) → (∀ j, ¬ (f + 1 ≤ j ∧ j ≤ f + n) → V' 100 j = V 100 j) → (∀ k, 1 ≤ k → k ≤ n → 0 ≤ V' 100 (f + k) ∧ V' 100 (f + k) < p) → (∀ k, 1 ≤ k → k ≤ n → V' 100 (f + k) = (sr_m V s k + p - sr_ls p (sr_m V s) (fun j => V' 100 (f + j)) sort k (k - 1).toNat) % p) → Q none V' (am_RF sh) T) : am_Calls G (d + 3) 122 [vR 86, vI s, vI f, vI sort] V (am_RF sh) T Q := by
  refine am_enter mt_M_findCumulants ok_M_findCumulants rfl ?_
  have mW : ∀ W : am_V, (∀ a, a ≠ 100 → a ≠ 102 → W a = V a) → sr_m W s = sr_m V s := fun W w => by
    unfold sr_m; rw [w 99 (by decide) (by decide)]
  obtain ⟨m, em⟩ : ∃ m : Int → Int, m = sr_m V s := ⟨_, rfl⟩
  rw [← em] at hm hQ mW
  have loop : ∀ (jj : Nat) (k : Int) (W : am_V), 1 ≤ k → k ≤ n + 1 → n + 1 - k < jj → (∀ a, a ≠ 100 → a ≠ 102 → W a = V a) → (∀ j, ¬ (f + 1 ≤ j ∧ j < f + k) → W 100 j = V 100 j) → (∀ i, 1 ≤ i → i < k → 0 ≤ W 100 (f + i) ∧ W 100 (f + i) < p) → (∀ i, 1 ≤ i → i < k → W 100 (f + i) = (m i + p - sr_ls p m (fun j => W 100 (f + j)) sort i (i - 1).toNat) % p) → am_Sem G (d + 2) 122 V T Q 3 [some (vR 86), some (vI s), some (vI f), some (vI sort), some (vI k)] [] W (am_RF sh) T 0 0 := by
    intro jj
    induction jj with
    | zero => intro k W a b c; omega
    | succ jj ih =>
      intro k W a b c w1 w2 w4 w5
      have f98 : W 98 s = n := by rw [w1 98 (by decide) (by decide)]; exact hN
      by_cases hk : k = n + 1
      · refine am_run 400 mt_M_findCumulants ok_M_findCumulants (fun K S hK hS => ?_)
        iterate 30 (all_goals (first
          | (refine And.intro (by omega) ?_)
          | (refine And.intro (by decide) ?_)
          | (refine And.intro (fun hb => absurd hb (by omega)) (fun hb => ?_))
          | (refine And.intro (fun hb => ?_) (fun hb => absurd hb (by omega)))
          | (refine And.intro (fun hb => ?_) (fun hb => ?_))
          | (intro hb)
          | (simp only [f98])
          | (conv => whnf)))
        exact hQ W w1 (fun j q => w2 j (by omega)) (fun i a b => w4 i a (by omega)) (fun i a b => w5 i a (by omega))
      · have f86 : W 86 2 = p := by rw [w1 86 (by decide) (by decide)]; exact e0
        have rk := hm.2 k a (by omega)
        refine am_run 400 mt_M_findCumulants ok_M_findCumulants (fun K S hK hS => ?_)
        iterate 30 (all_goals (first
          | (refine And.intro (by omega) ?_)
          | (refine And.intro (by decide) ?_)
          | (refine And.intro (fun hb => absurd hb (by omega)) (fun hb => ?_))
          | (refine And.intro (fun hb => ?_) (fun hb => absurd hb (by omega)))
          | (refine And.intro (fun hb => ?_) (fun hb => ?_))
          | (intro hb)
          | (simp only [f98, f86])
          | (conv => whnf)))
        refine hK (s_M_m hs (by omega) ?_)
        rw [mW W w1]
        iterate 30 (all_goals (first
          | (refine And.intro (by omega) ?_)
          | (refine And.intro (by decide) ?_)
          | (refine And.intro (fun hb => absurd hb (by omega)) (fun hb => ?_))
          | (refine And.intro (fun hb => ?_) (fun hb => absurd hb (by omega)))
          | (refine And.intro (fun hb => ?_) (fun hb => ?_))
          | (intro hb)
          | (simp only [f98, f86])
          | (conv => whnf)))
        refine hK (s_M_lesser hp f86 hs hf ho (by omega) (by rw [mW W w1]; exact hm) (fun i a1 a2 => w4 i a1 a2) (fun U u1 => ?_))
        rw [mW W w1]
        have rl := sr_ls_rg (p := p) (m := m) (c := fun j => W 100 (f + j)) (sort := sort) (n := k) (by omega) (k - 1).toNat
        have rv : 0 ≤ (m k + p - sr_ls p m (fun j => W 100 (f + j)) sort k (k - 1).toNat) % p ∧ (m k + p - sr_ls p m (fun j => W 100 (f + j)) sort k (k - 1).toNat) % p < p := m_modr (by omega)
        have et : Int.tmod (m k + p - sr_ls p m (fun j => W 100 (f + j)) sort k (k - 1).toNat) p = (m k + p - sr_ls p m (fun j => W 100 (f + j)) sort k (k - 1).toNat) % p := m_tm (by omega)
        have g86 : U 86 2 = p := by rw [u1 86 (by decide)]; exact f86
        have uc : ∀ v i, am_up U 100 (f + k) v 100 i = if i = f + k then v else W 100 i := fun v i => by rw [am_up_at, u1 100 (by decide)]
        have ul : ∀ v i, 1 ≤ i → i ≤ k → sr_ls p m (fun j => am_up U 100 (f + k) v 100 (f + j)) sort i (i - 1).toNat = sr_ls p m (fun j => W 100 (f + j)) sort i (i - 1).toNat := fun v i i1 i2 => sr_ls_eq (fun _ _ _ => rfl) _ (by omega) (fun y y1 y2 => by show am_up U 100 (f + k) v 100 (f + y) = W 100 (f + y); rw [uc, if_neg (by omega)])
        obtain ⟨L, hL⟩ : ∃ L, L = sr_ls p m (fun j => W 100 (f + j)) sort k (k - 1).toNat := ⟨_, rfl⟩
        rw [← hL] at rl rv et ⊢
        iterate 30 (all_goals (first
          | (refine And.intro (by omega) ?_)
          | (refine And.intro (by decide) ?_)
          | (refine And.intro (fun hb => absurd hb (by omega)) (fun hb => ?_))
          | (refine And.intro (fun hb => ?_) (fun hb => absurd hb (by omega)))
          | (refine And.intro (fun hb => ?_) (fun hb => ?_))
          | (intro hb)
          | (simp only [g86, et])
          | (conv => whnf)))
        refine hS (ih (k + 1) _ (by omega) (by omega) (by omega) (fun x x1 x2 => by rw [am_up_ne x1, u1 x x2, w1 x x1 x2]) (fun j q => by rw [uc, if_neg (by omega), w2 j (by omega)]) (fun i i1 i2 => ?_) (fun i i1 i2 => ?_))
        · rw [uc]
          by_cases q : i = k
          · rw [if_pos (by omega)]; exact rv
          · rw [if_neg (by omega)]; exact w4 i i1 (by omega)
        · rw [ul _ i i1 (by omega), uc]
          by_cases q : i = k
          · rw [if_pos (by omega), q, hL]
          · rw [if_neg (by omega)]; exact w5 i i1 (by omega)
  refine am_run 400 mt_M_findCumulants ok_M_findCumulants (fun K S hK hS => ?_)
  iterate 30 (all_goals (first
    | (refine And.intro (by omega) ?_)
    | (refine And.intro (fun hb => absurd hb (by omega)) (fun hb => ?_))
    | (refine And.intro (fun hb => ?_) (fun hb => absurd hb (by omega)))
    | (refine And.intro (fun hb => ?_) (fun hb => ?_))
    | (intro hb)
    | (conv => whnf)))
  exact hS (loop (n + 1).toNat 1 V (by omega) (by omega) (by omega) (fun _ _ _ => rfl) (fun _ _ => rfl) (fun i a b => absurd b (by omega)) (fun i a b => absurd b (by omega)))
theorem s_M_findMoments {G : am_G} {d : Nat} {sh : Int → Option Nat} {V : am_V} {T : Nat} {Q : Option AV → am_V → am_T → Nat → Prop} {p sort s f n : Int} (hp : 1 < p ∧ p ≤ 2000000000) (e0 : V 86 2 = p) (hs : 0 ≤ s ∧ s < 8) (hf : 0 ≤ f ∧ f ≤ 18) (ho : 0 ≤ sort ∧ sort ≤ 2) (hn : 1 ≤ n ∧ n ≤ 8) (hm : sr_rg p (sr_m V s) 8) (hc : ∀ k, 1 ≤ k → k ≤ n → 0 ≤ V 100 (f + k) ∧ V 100 (f + k) < p) (hQ : ∀ V', (∀ a, a ≠ 98 → a ≠ 99 → a ≠ 102 → V' a = V a) → (∀ j, V' 98 j = if j = s then n else V 98 j) → (∀ j, ¬ (9 * s + 1 ≤ j ∧ j ≤ 9 * s + n) → V' 99 j = V 99 j) → sr_rg p (sr_m V' s) 8 → (∀ k, 1 ≤ k → k ≤ n → sr_m V' s k = (sr_ls p (sr_m V' s) (fun j => V 100 (f + j)) sort k (k - 1).toNat + V 100 (f + k)) % p) → Q none V' (am_RF sh) T) : am_Calls G (d + 3) 123 [vR 86, vI s, vI f, vI sort, vI n] V (am_RF sh) T Q := by
  refine am_enter mt_M_findMoments ok_M_findMoments rfl ?_
  have mk : ∀ (W : am_V) k, 1 ≤ k → sr_m W s k = W 99 (9 * s + k) := fun W k q => by unfold sr_m; rw [if_neg (by omega)]
  have m0 : ∀ (W : am_V), sr_m W s 0 = 1 := fun W => by unfold sr_m; rw [if_pos rfl]
  have loop2 : ∀ (jj : Nat) (k : Int) (W : am_V), 1 ≤ k → k ≤ n + 1 → n + 1 - k < jj → (∀ a, a ≠ 98 → a ≠ 99 → a ≠ 102 → W a = V a) → (∀ j, W 98 j = if j = s then n else V 98 j) → (∀ j, ¬ (9 * s + 1 ≤ j ∧ j ≤ 9 * s + n) → W 99 j = V 99 j) → sr_rg p (sr_m W s) 8 → (∀ i, 1 ≤ i → i < k → sr_m W s i = (sr_ls p (sr_m W s) (fun j => V 100 (f + j)) sort i (i - 1).toNat + V 100 (f + i)) % p) → am_Sem G (d + 2) 123 V T Q 40 [some (vR 86), some (vI s), some (vI f), some (vI sort), some (vI n), some (vI k)] [] W (am_RF sh) T 0 0 := by
    intro jj
    induction jj with
    | zero => intro k W a b c; omega
    | succ jj ih =>
      intro k W a b c w1 w2 w3 w4 w5
      by_cases hk : k = n + 1
      · refine am_run 400 mt_M_findMoments ok_M_findMoments (fun K S hK hS => ?_)
        iterate 30 (all_goals (first
          | (refine And.intro (by omega) ?_)
          | (refine And.intro (fun hb => absurd hb (by omega)) (fun hb => ?_))
          | (refine And.intro (fun hb => ?_) (fun hb => absurd hb (by omega)))
          | (refine And.intro (fun hb => ?_) (fun hb => ?_))
          | (intro hb)
          | (conv => whnf)))
        exact hQ W w1 w2 w3 w4 (fun i a b => w5 i a (by omega))
      · have f86 : W 86 2 = p := by rw [w1 86 (by decide) (by decide) (by decide)]; exact e0
        have f100 : ∀ j, W 100 j = V 100 j := fun j => by rw [w1 100 (by decide) (by decide) (by decide)]
        have fc : (fun j => W 100 (f + j)) = (fun j => V 100 (f + j)) := funext (fun j => f100 _)
        have rk := hc k a (by omega)
        refine am_run 400 mt_M_findMoments ok_M_findMoments (fun K S hK hS => ?_)
        iterate 30 (all_goals (first
          | (refine And.intro (by omega) ?_)
          | (refine And.intro (fun hb => absurd hb (by omega)) (fun hb => ?_))
          | (refine And.intro (fun hb => ?_) (fun hb => absurd hb (by omega)))
          | (refine And.intro (fun hb => ?_) (fun hb => ?_))
          | (intro hb)
          | (conv => whnf)))
        refine hK (s_M_lesser hp f86 hs hf ho (by omega) w4 (fun i a1 a2 => by rw [f100]; exact hc i a1 (by omega)) (fun U u1 => ?_))
        rw [fc]
        have rl := sr_ls_rg (p := p) (m := sr_m W s) (c := fun j => V 100 (f + j)) (sort := sort) (n := k) (by omega) (k - 1).toNat
        have g86 : U 86 2 = p := by rw [u1 86 (by decide)]; exact f86
        have g100 : U 100 (f + k) = V 100 (f + k) := by rw [u1 100 (by decide)]; exact f100 _
        have uc : ∀ v i, am_up U 99 (9 * s + k) v 99 i = if i = 9 * s + k then v else W 99 i := fun v i => by rw [am_up_at, u1 99 (by decide)]
        have um : ∀ v i, i ≠ k → sr_m (am_up U 99 (9 * s + k) v) s i = sr_m W s i := fun v i q => by
          unfold sr_m
          by_cases q2 : i = 0
          · rw [if_pos q2, if_pos q2]
          · rw [if_neg q2, if_neg q2, uc, if_neg (by omega)]
        have umk : ∀ v, sr_m (am_up U 99 (9 * s + k) v) s k = v := fun v => by rw [mk _ k a, uc, if_pos rfl]
        have ul : ∀ v i, 1 ≤ i → i ≤ k → sr_ls p (sr_m (am_up U 99 (9 * s + k) v) s) (fun j => V 100 (f + j)) sort i (i - 1).toNat = sr_ls p (sr_m W s) (fun j => V 100 (f + j)) sort i (i - 1).toNat := fun v i i1 i2 => sr_ls_eq (fun y y1 y2 => um v y (by omega)) _ (by omega) (fun _ _ _ => rfl)
        obtain ⟨L, hL⟩ : ∃ L, L = sr_ls p (sr_m W s) (fun j => V 100 (f + j)) sort k (k - 1).toNat := ⟨_, rfl⟩
        rw [← hL] at rl ⊢
        have rv : 0 ≤ (L + V 100 (f + k)) % p ∧ (L + V 100 (f + k)) % p < p := m_modr (by omega)
        have et : Int.tmod (L + V 100 (f + k)) p = (L + V 100 (f + k)) % p := m_tm (by omega)
        iterate 30 (all_goals (first
          | (refine And.intro (by omega) ?_)
          | (refine And.intro (by decide) ?_)
          | (refine And.intro (fun hb => absurd hb (by omega)) (fun hb => ?_))
          | (refine And.intro (fun hb => ?_) (fun hb => absurd hb (by omega)))
          | (refine And.intro (fun hb => ?_) (fun hb => ?_))
          | (intro hb)
          | (simp only [g86, g100, et])
          | (conv => whnf)))
        refine hS (ih (k + 1) _ (by omega) (by omega) (by omega) (fun x x1 x2 x3 => by rw [am_up_ne x2, u1 x x3, w1 x x1 x2 x3]) (fun j => by rw [am_up_ne (by decide), u1 98 (by decide), w2 j]) (fun j q => by rw [uc, if_neg (by omega), w3 j q]) ⟨m0 _, fun i i1 i2 => ?_⟩ (fun i i1 i2 => ?_))
        · by_cases q : i = k
          · rw [q, umk]; exact rv
          · rw [um _ i q]; exact w4.2 i i1 i2
        · rw [ul _ i i1 (by omega)]
          by_cases q : i = k
          · rw [q, umk, hL]
          · rw [um _ i q]; exact w5 i i1 (by omega)
  have loop1 : ∀ (jj : Nat) (k : Int) (W : am_V), 1 ≤ k → k ≤ n + 1 → n + 1 - k < jj → (∀ a, a ≠ 98 → a ≠ 99 → W a = V a) → (∀ j, W 98 j = if j = s then n else V 98 j) → (∀ j, ¬ (9 * s + 1 ≤ j ∧ j ≤ 9 * s + n) → W 99 j = V 99 j) → sr_rg p (sr_m W s) 8 → am_Sem G (d + 2) 123 V T Q 11 [some (vR 86), some (vI s), some (vI f), some (vI sort), some (vI n), some (vI k)] [] W (am_RF sh) T 0 0 := by
    intro jj
    induction jj with
    | zero => intro k W a b c; omega
    | succ jj ih =>
      intro k W a b c w1 w2 w3 w4
      by_cases hk : k = n + 1
      · refine am_run 400 mt_M_findMoments ok_M_findMoments (fun K S hK hS => ?_)
        iterate 30 (all_goals (first
          | (refine And.intro (by omega) ?_)
          | (refine And.intro (fun hb => absurd hb (by omega)) (fun hb => ?_))
          | (refine And.intro (fun hb => ?_) (fun hb => absurd hb (by omega)))
          | (refine And.intro (fun hb => ?_) (fun hb => ?_))
          | (intro hb)
          | (conv => whnf)))
        exact hS (loop2 (n + 1).toNat 1 W (by omega) (by omega) (by omega) (fun x x1 x2 x3 => w1 x x1 x2) w2 w3 w4 (fun i a b => absurd b (by omega)))
      · refine am_run 400 mt_M_findMoments ok_M_findMoments (fun K S hK hS => ?_)
        iterate 30 (all_goals (first
          | (refine And.intro (by omega) ?_)
          | (refine And.intro (fun hb => absurd hb (by omega)) (fun hb => ?_))
          | (refine And.intro (fun hb => ?_) (fun hb => absurd hb (by omega)))
          | (refine And.intro (fun hb => ?_) (fun hb => ?_))
          | (intro hb)
          | (conv => whnf)))
        refine hS (ih (k + 1) _ (by omega) (by omega) (by omega) (fun x x1 x2 => by rw [am_up_ne x2, w1 x x1 x2]) (fun j => by rw [am_up_ne (by decide), w2 j]) (fun j q => by rw [am_up_at, if_neg (by omega), w3 j q]) ⟨m0 _, fun i i1 i2 => ?_⟩)
        rw [mk _ i i1, am_up_at]
        by_cases q : i = k
        · rw [if_pos (by omega)]; omega
        · rw [if_neg (by omega), ← mk W i i1]; exact w4.2 i i1 i2
  refine am_run 400 mt_M_findMoments ok_M_findMoments (fun K S hK hS => ?_)
  iterate 30 (all_goals (first
    | (refine And.intro (by omega) ?_)
    | (refine And.intro (fun hb => absurd hb (by omega)) (fun hb => ?_))
    | (refine And.intro (fun hb => ?_) (fun hb => absurd hb (by omega)))
    | (refine And.intro (fun hb => ?_) (fun hb => ?_))
    | (intro hb)
    | (conv => whnf)))
  refine hS (loop1 (n + 1).toNat 1 _ (by omega) (by omega) (by omega) (fun x x1 x2 => by rw [am_up_ne x1]) (fun j => by rw [am_up_at]) (fun j q => by rw [am_up_ne (by decide)]) ?_)
  have : sr_m (am_up V 98 s n) s = sr_m V s := by unfold sr_m; rw [am_up_ne (by decide)]
  rw [this]
  exact hm
theorem s_M_modulo {G : am_G} {d : Nat} {sh : Int → Option Nat} {V : am_V} {T : Nat} {Q : Option AV → am_V → am_T → Nat → Prop} {p v : Int} (hp : 1 < p ∧ p ≤ 2000000000) (e0 : V 86 2 = p) (hv : am_in64 v) (hQ : Q (some (vJ (v % p))) V (am_RF sh) T) : am_Calls G (d + 1) 124 [vR 86, vJ v] V (am_RF sh) T Q := by
  have hb := tmod_bounds (a := v) (M := p) (by omega)
  have key : (0 ≤ Int.tmod v p → v % p = Int.tmod v p) ∧ (Int.tmod v p < 0 → v % p = Int.tmod v p + p) := by
    by_cases h : 0 ≤ v
    · rw [m_tm h]
      have := m_modr (a := v) (p := p) (by omega)
      exact ⟨fun _ => rfl, fun q => absurd q (by omega)⟩
    · obtain ⟨n1, n2, n3, n4⟩ := am_tmod_neg (a := v) (b := p) (by omega) (by omega)
      refine ⟨fun q => ?_, fun q => n2 (by omega)⟩
      have : Int.tmod v p = 0 := by omega
      rw [n1 this, this]
  obtain ⟨R, hR⟩ : ∃ R, R = Int.tmod v p := ⟨_, rfl⟩
  rw [← hR] at hb key
  refine am_enter mt_M_modulo ok_M_modulo rfl ?_
  refine am_run 400 mt_M_modulo ok_M_modulo (fun K S hK hS => ?_)
  iterate 51 (all_goals (first
    | (simp only [am_st2, am_st1, am_set, am_cut, am_get])
    | (refine And.intro (⟨by with_reducible assumption, by omega⟩) ?_)
    | (refine And.intro (by omega) ?_)
    | (refine And.intro (fun hb => absurd hb (by omega)) (fun hb => ?_))
    | (refine And.intro (fun hb => ?_) (fun hb => absurd hb (by omega)))
    | (refine And.intro (fun hb => ?_) (fun hb => ?_))
    | (intro hb)
    | (simp only [e0, ← hR])
    | (conv => whnf)))
  · rw [key.1 (by omega)] at hQ
    exact hQ
  · rw [key.2 (by omega)] at hQ
    exact hQ
theorem sr_of_uniq {p sort n : Int} {m m' c c' : Int → Int} (hm : ∀ k, 0 ≤ k → k ≤ n → m k = m' k) (h : ∀ k, 1 ≤ k → k ≤ n → c k = (m k + p - sr_ls p m c sort k (k - 1).toNat) % p) (h' : ∀ k, 1 ≤ k → k ≤ n → c' k = (m' k + p - sr_ls p m' c' sort k (k - 1).toNat) % p) : ∀ (j : Nat) (k : Int), k ≤ j → 1 ≤ k → k ≤ n → c k = c' k := by
  intro j
  induction j with
  | zero => intro k a b e; omega
  | succ j ih =>
    intro k a b e
    rw [h k b e, h' k b e, hm k (by omega) e, sr_ls_eq (c' := c') (fun y y1 y2 => hm y y1 (by omega)) _ (by omega) (fun i i1 i2 => ih i (by omega) i1 (by omega))]
theorem sr_to_uniq {p sort n : Int} {m m' c c' : Int → Int} (h0 : m 0 = m' 0) (hc : ∀ k, 1 ≤ k → k ≤ n → c k = c' k) (h : ∀ k, 1 ≤ k → k ≤ n → m k = (c k + sr_ls p m c sort k (k - 1).toNat) % p) (h' : ∀ k, 1 ≤ k → k ≤ n → m' k = (sr_ls p m' c' sort k (k - 1).toNat + c' k) % p) : ∀ (j : Nat) (k : Int), k ≤ j → 0 ≤ k → k ≤ n → m k = m' k := by
  intro j
  induction j with
  | zero => intro k a b e; rw [show k = 0 by omega]; exact h0
  | succ j ih =>
    intro k a b e
    by_cases q : k = 0
    · rw [q]; exact h0
    · rw [h k (by omega) e, h' k (by omega) e, hc k (by omega) e, sr_ls_eq (m' := m') (c' := c') (fun y y1 y2 => ih y (by omega) y1 (by omega)) _ (by omega) (fun i i1 i2 => hc i i1 (by omega)), Int.add_comm]
