/-! series: series -/
theorem s_M_series {G : am_G} {d : Nat} {sh : Int → Option Nat} {V : am_V} {T : Nat} {Q : Option AV → am_V → am_T → Nat → Prop} {q s i n sort p : Int} (h0 : am_in32 q) (h1 : am_in32 s) (h2 : am_in32 i) (h3 : am_in32 n) (h4 : am_in32 sort) (hp : 1 < p ∧ p ≤ 2000000000) (e0 : V 86 2 = p)
    (hV : ∀ s, 0 ≤ s → s < 8 → (V 87 s = -1 ∨ (0 ≤ V 87 s ∧ V 87 s ≤ 2 ∧ 0 ≤ V 88 s ∧ V 88 s ≤ 40)))
    (hI : ∀ j, 0 ≤ j → j < 320 → am_in64 (V 89 j)) (hm : ∀ s, 0 ≤ s → s < 8 → sr_rg p (sr_m V s) 8)
    (hB : ¬ ((0 ≤ q ∧ q < 8) ∧ (0 ≤ s ∧ s < 8) ∧ (1 ≤ n ∧ n ≤ 8) ∧ (sort = -1000000 ∨ (0 ≤ sort ∧ sort ≤ 2))) → Q (some (vI (-1000001))) (am_up V 86 0 0) (am_RF sh) T)
    (hF : ∀ c, ((0 ≤ q ∧ q < 8) ∧ (0 ≤ s ∧ s < 8) ∧ (1 ≤ n ∧ n ≤ 8) ∧ (sort = -1000000 ∨ (0 ≤ sort ∧ sort ≤ 2))) → ((c = 1 ∧ V 87 s < 0) ∨ (c = 2 ∧ 0 ≤ V 87 s ∧ ¬ (0 ≤ i ∧ i + n ≤ V 88 s))) → Q (some (vI (-1000010 - c))) (am_up (am_up (am_up V 86 0 0) 86 1 0) 86 1 c) (am_RF sh) T)
    (hQ : ((0 ≤ q ∧ q < 8) ∧ (0 ≤ s ∧ s < 8) ∧ (1 ≤ n ∧ n ≤ 8) ∧ (sort = -1000000 ∨ (0 ≤ sort ∧ sort ≤ 2))) → 0 ≤ V 87 s → (0 ≤ i ∧ i + n ≤ V 88 s) → ∀ V' (c : Int → Int), (∀ k, 1 ≤ k → k ≤ n → c k = V 89 (40 * s + i + k - 1) % p) → (∀ a, a ≠ 98 → a ≠ 99 → a ≠ 100 → a ≠ 102 → V' a = am_up (am_up V 86 0 0) 86 1 0 a) → (∀ j, V' 98 j = if j = q then n else V 98 j) → (∀ j, ¬ (9 * q + 1 ≤ j ∧ j ≤ 9 * q + n) → V' 99 j = V 99 j) → sr_rg p (sr_m V' q) 8 → ((sort = -1000000 ∧ ∀ k, 1 ≤ k → k ≤ n → sr_m V' q k = c k) ∨ (sort ≠ -1000000 ∧ ∀ k, 1 ≤ k → k ≤ n → sr_m V' q k = (sr_ls p (sr_m V' q) c sort k (k - 1).toNat + c k) % p)) → Q (some (vI n)) V' (am_RF sh) T) : am_Calls G (d + 6) 125 [vR 86, vI q, vI s, vI i, vI n, vI sort] V (am_RF sh) T Q := by
  refine am_enter mt_M_series ok_M_series rfl ?_
  have mk : ∀ (W : am_V) k, 1 ≤ k → sr_m W q k = W 99 (9 * q + k) := fun W k z => by unfold sr_m; rw [if_neg (by omega)]
  have m0 : ∀ (W : am_V), sr_m W q 0 = 1 := fun W => by unfold sr_m; rw [if_pos rfl]
  have loop2 : ∀ (c : Int → Int), sort = -1000000 → ((0 ≤ q ∧ q < 8) ∧ (0 ≤ s ∧ s < 8) ∧ (1 ≤ n ∧ n ≤ 8) ∧ (sort = -1000000 ∨ (0 ≤ sort ∧ sort ≤ 2))) → 0 ≤ V 87 s → (0 ≤ i ∧ i + n ≤ V 88 s) → (∀ k, 1 ≤ k → k ≤ n → c k = V 89 (40 * s + i + k - 1) % p) → ∀ (jj : Nat) (k : Int) (W : am_V), 1 ≤ k → k ≤ n + 1 → n + 1 - k < jj → (∀ a, a ≠ 98 → a ≠ 99 → a ≠ 100 → W a = am_up (am_up V 86 0 0) 86 1 0 a) → (∀ j, W 98 j = if j = q then n else V 98 j) → (∀ j, ¬ (9 * q + 1 ≤ j ∧ j < 9 * q + k) → W 99 j = V 99 j) → (∀ j, 1 ≤ j → j < k → W 99 (9 * q + j) = c j) → (∀ k, 1 ≤ k → k ≤ n → W 100 (0 + k) = c k) → am_Sem G (d + 5) 125 V T Q 178 [some (vR 86), some (vI q), some (vI s), some (vI i), some (vI n), some (vI sort), some (vI k)] [] W (am_RF sh) T 0 0 := by
    intro c hso c1 c2 c3 hcc jj
    induction jj with
    | zero => intro k W a b e; omega
    | succ jj ih =>
      intro k W a b e w1 w2 w3 w4 w5
      by_cases hk : k = n + 1
      · refine am_run 400 mt_M_series ok_M_series (fun K S hK hS => ?_)
        iterate 30 (all_goals (first
          | (refine And.intro (by omega) ?_)
          | (refine And.intro (fun hb => absurd hb (by omega)) (fun hb => ?_))
          | (refine And.intro (fun hb => ?_) (fun hb => absurd hb (by omega)))
          | (refine And.intro (fun hb => ?_) (fun hb => ?_))
          | (intro hb)
          | (conv => whnf)))
        refine hQ c1 c2 c3 W c hcc (fun x x1 x2 x3 x4 => w1 x x1 x2 x3) w2 (fun j z => w3 j (by omega)) ⟨m0 W, fun j j1 j2 => ?_⟩ (Or.inl ⟨hso, fun j j1 j2 => by rw [mk W j j1]; exact w4 j j1 (by omega)⟩)
        rw [mk W j j1]
        by_cases z : j ≤ n
        · rw [w4 j j1 (by omega), hcc j j1 z]; exact m_modr (by omega)
        · rw [w3 _ (by omega), ← mk V j j1]; exact (hm q c1.1.1 c1.1.2).2 j j1 j2
      · have g := w5 k a (by omega)
        refine am_run 400 mt_M_series ok_M_series (fun K S hK hS => ?_)
        iterate 30 (all_goals (first
          | (refine And.intro (by omega) ?_)
          | (refine And.intro (by decide) ?_)
          | (refine And.intro (fun hb => absurd hb (by omega)) (fun hb => ?_))
          | (refine And.intro (fun hb => ?_) (fun hb => absurd hb (by omega)))
          | (refine And.intro (fun hb => ?_) (fun hb => ?_))
          | (intro hb)
          | (simp only [g])
          | (conv => whnf)))
        refine hS (ih (k + 1) _ (by omega) (by omega) (by omega) (fun x x1 x2 x3 => by rw [am_up_ne x2, w1 x x1 x2 x3]) (fun j => by rw [am_up_ne (by decide), w2 j]) (fun j z => by rw [am_up_at, if_neg (by omega), w3 j (by omega)]) (fun j j1 j2 => ?_) (fun j j1 j2 => by rw [am_up_ne (by decide)]; exact w5 j j1 j2))
        rw [am_up_at]
        by_cases z : j = k
        · rw [if_pos (by omega), z]
        · rw [if_neg (by omega), w4 j j1 (by omega)]
  have loop : ∀ (c : Int → Int), ((0 ≤ q ∧ q < 8) ∧ (0 ≤ s ∧ s < 8) ∧ (1 ≤ n ∧ n ≤ 8) ∧ (sort = -1000000 ∨ (0 ≤ sort ∧ sort ≤ 2))) → 0 ≤ V 87 s → (0 ≤ i ∧ i + n ≤ V 88 s) → V 88 s ≤ 40 → (∀ k, c k = V 89 (40 * s + i + k - 1) % p) → ∀ (jj : Nat) (k : Int) (W : am_V), 1 ≤ k → k ≤ n + 1 → n + 1 - k < jj → (∀ a, a ≠ 100 → W a = am_up (am_up V 86 0 0) 86 1 0 a) → (∀ j, 1 ≤ j → j < k → W 100 (0 + j) = c j) → am_Sem G (d + 5) 125 V T Q 105 [some (vR 86), some (vI q), some (vI s), some (vI i), some (vI n), some (vI sort), some (vI k)] [] W (am_RF sh) T 0 0 := by
    intro c c1 c2 c3 c4 hcc jj
    induction jj with
    | zero => intro k W a b e; omega
    | succ jj ih =>
      intro k W a b e w1 w2
      by_cases hk : k = n + 1
      · by_cases hso : sort = -1000000
        · refine am_run 400 mt_M_series ok_M_series (fun K S hK hS => ?_)
          iterate 30 (all_goals (first
            | (refine And.intro (by omega) ?_)
            | (refine And.intro (fun hb => absurd hb (by omega)) (fun hb => ?_))
            | (refine And.intro (fun hb => ?_) (fun hb => absurd hb (by omega)))
            | (refine And.intro (fun hb => ?_) (fun hb => ?_))
            | (intro hb)
            | (conv => whnf)))
          refine hS (loop2 c hso c1 c2 c3 (fun k _ _ => hcc k) (n + 1).toNat 1 _ (by omega) (by omega) (by omega) (fun x x1 x2 x3 => by rw [am_up_ne x1, w1 x x3]) (fun j => by rw [am_up_at, w1 98 (by decide), am_up_ne (by decide), am_up_ne (by decide)]) (fun j _ => by rw [am_up_ne (by decide), w1 99 (by decide), am_up_ne (by decide), am_up_ne (by decide)]) (fun j a b => absurd b (by omega)) (fun j a b => by rw [am_up_ne (by decide)]; exact w2 j a (by omega)))
        · have emW : ∀ s, sr_m W s = sr_m V s := fun s => by unfold sr_m; rw [w1 99 (by decide), am_up_ne (by decide), am_up_ne (by decide)]
          refine am_run 400 mt_M_series ok_M_series (fun K S hK hS => ?_)
          iterate 30 (all_goals (first
            | (refine And.intro (by omega) ?_)
            | (refine And.intro (fun hb => absurd hb (by omega)) (fun hb => ?_))
            | (refine And.intro (fun hb => ?_) (fun hb => absurd hb (by omega)))
            | (refine And.intro (fun hb => ?_) (fun hb => ?_))
            | (intro hb)
            | (conv => whnf)))
          refine hK (s_M_findMoments hp (by rw [w1 86 (by decide)]; simp +decide [am_up_ne, am_up_at, reduceIte]; exact e0) c1.1 (by omega) (by omega) c1.2.2.1 (by rw [emW]; exact hm q c1.1.1 c1.1.2) (fun j j1 j2 => by rw [w2 j j1 (by omega), hcc]; exact m_modr (by omega)) (fun U u1 u2 u3 u4 u5 => ?_))
          iterate 30 (all_goals (first
            | (refine And.intro (by omega) ?_)
            | (refine And.intro (fun hb => absurd hb (by omega)) (fun hb => ?_))
            | (refine And.intro (fun hb => ?_) (fun hb => absurd hb (by omega)))
            | (refine And.intro (fun hb => ?_) (fun hb => ?_))
            | (intro hb)
            | (conv => whnf)))
          refine hQ c1 c2 c3 U c (fun k _ _ => hcc k) (fun x x1 x2 x3 x4 => by rw [u1 x x1 x2 x4, w1 x x3]) (fun j => by rw [u2 j, w1 98 (by decide), am_up_ne (by decide), am_up_ne (by decide)]) (fun j z => by rw [u3 j z, w1 99 (by decide), am_up_ne (by decide), am_up_ne (by decide)]) u4 (Or.inr ⟨hso, fun j j1 j2 => ?_⟩)
          rw [u5 j j1 j2, w2 j j1 (by omega), sr_ls_eq (c := fun j => W 100 (0 + j)) (c' := c) (fun _ _ _ => rfl) _ (by omega) (fun y y1 y2 => w2 y y1 (by omega))]
      · have f86 : W 86 2 = p := by rw [w1 86 (by decide)]; simp +decide [am_up_ne, am_up_at, reduceIte]; exact e0
        have f89 : ∀ j, W 89 j = V 89 j := fun j => by rw [w1 89 (by decide), am_up_ne (by decide), am_up_ne (by decide)]
        have r89 := hI (40 * s + i + k - 1) (by omega) (by omega)
        refine am_run 400 mt_M_series ok_M_series (fun K S hK hS => ?_)
        iterate 30 (all_goals (first
          | (refine And.intro (by omega) ?_)
          | (refine And.intro (by decide) ?_)
          | (refine And.intro (fun hb => absurd hb (by omega)) (fun hb => ?_))
          | (refine And.intro (fun hb => ?_) (fun hb => absurd hb (by omega)))
          | (refine And.intro (fun hb => ?_) (fun hb => ?_))
          | (intro hb)
          | (simp only [f89])
          | (conv => whnf)))
        refine hK (s_M_modulo hp f86 r89 ?_)
        rw [← hcc k]
        iterate 30 (all_goals (first
          | (refine And.intro (by omega) ?_)
          | (refine And.intro (fun hb => absurd hb (by omega)) (fun hb => ?_))
          | (refine And.intro (fun hb => ?_) (fun hb => absurd hb (by omega)))
          | (refine And.intro (fun hb => ?_) (fun hb => ?_))
          | (intro hb)
          | (conv => whnf)))
        refine hS (ih (k + 1) _ (by omega) (by omega) (by omega) (fun x x1 => by rw [am_up_ne x1, w1 x x1]) (fun j j1 j2 => ?_))
        rw [am_up_at]
        by_cases z : j = k
        · rw [if_pos (by omega), z]
        · rw [if_neg (by omega), w2 j j1 (by omega)]
  refine am_run 400 mt_M_series ok_M_series (fun K S hK hS => ?_)
  iterate 30 (all_goals (first
    | (refine And.intro (by omega) ?_)
    | (refine And.intro (fun hb => absurd hb (by omega)) (fun hb => ?_))
    | (refine And.intro (fun hb => ?_) (fun hb => absurd hb (by omega)))
    | (refine And.intro (fun hb => ?_) (fun hb => ?_))
    | (intro hb)
    | (conv => whnf)))
  refine hK (s_M_isSeries h0 (fun r hr => ?_))
  iterate 30 (all_goals (first
    | (refine And.intro (by omega) ?_)
    | (refine And.intro (fun hb => absurd hb (by omega)) (fun hb => ?_))
    | (refine And.intro (fun hb => ?_) (fun hb => absurd hb (by omega)))
    | (refine And.intro (fun hb => ?_) (fun hb => ?_))
    | (intro hb)
    | (conv => whnf)))
  · exact hB (by omega)
  refine hK (s_M_isSheet h1 (fun r2 hr2 => ?_))
  iterate 30 (all_goals (first
    | (refine And.intro (by omega) ?_)
    | (refine And.intro (fun hb => absurd hb (by omega)) (fun hb => ?_))
    | (refine And.intro (fun hb => ?_) (fun hb => absurd hb (by omega)))
    | (refine And.intro (fun hb => ?_) (fun hb => ?_))
    | (intro hb)
    | (conv => whnf)))
  · exact hB (by omega)
  refine hK (s_M_in (by omega) (by omega) (by omega) (fun r3 hr3 => ?_))
  by_cases hc : (0 ≤ q ∧ q < 8) ∧ (0 ≤ s ∧ s < 8) ∧ (1 ≤ n ∧ n ≤ 8)
  · have vs := hV s hc.2.1.1 hc.2.1.2
    by_cases hso : sort = -1000000
    · iterate 90 (all_goals (first
        | (refine And.intro (by omega) ?_)
        | (refine And.intro (by decide) ?_)
        | (refine And.intro (fun hb => absurd hb (by omega)) (fun hb => ?_))
        | (refine And.intro (fun hb => ?_) (fun hb => absurd hb (by omega)))
        | (refine And.intro (fun hb => ?_) (fun hb => ?_))
        | (intro hb)
        | (simp +decide only [am_up_ne, am_up_at, reduceIte])
        | (conv => whnf)))
      all_goals first
        | exact hS (loop (fun k => V 89 (40 * s + i + k - 1) % p) ⟨hc.1, hc.2.1, hc.2.2, Or.inl hso⟩ (by omega) (by omega) (by omega) (fun _ => rfl) (n + 1).toNat 1 _ (by omega) (by omega) (by omega) (fun _ _ => rfl) (fun y a b => absurd b (by omega)))
        | exact hK (s_M_found (hF 2 ⟨hc.1, hc.2.1, hc.2.2, Or.inl hso⟩ (by omega)))
        | exact hK (s_M_found (hF 1 ⟨hc.1, hc.2.1, hc.2.2, Or.inl hso⟩ (by omega)))
    · iterate 30 (all_goals (first
        | (refine And.intro (by omega) ?_)
        | (refine And.intro (by decide) ?_)
        | (refine And.intro (fun hb => absurd hb (by omega)) (fun hb => ?_))
        | (refine And.intro (fun hb => ?_) (fun hb => absurd hb (by omega)))
        | (refine And.intro (fun hb => ?_) (fun hb => ?_))
        | (intro hb)
        | (simp +decide only [am_up_ne, am_up_at, reduceIte])
        | (conv => whnf)))
      refine hK (s_M_in (by omega) (by omega) (by omega) (fun r4 hr4 => ?_))
      by_cases hso2 : 0 ≤ sort ∧ sort ≤ 2
      · iterate 90 (all_goals (first
          | (refine And.intro (by omega) ?_)
          | (refine And.intro (by decide) ?_)
          | (refine And.intro (fun hb => absurd hb (by omega)) (fun hb => ?_))
          | (refine And.intro (fun hb => ?_) (fun hb => absurd hb (by omega)))
          | (refine And.intro (fun hb => ?_) (fun hb => ?_))
          | (intro hb)
          | (simp +decide only [am_up_ne, am_up_at, reduceIte])
          | (conv => whnf)))
        all_goals first
          | exact hS (loop (fun k => V 89 (40 * s + i + k - 1) % p) ⟨hc.1, hc.2.1, hc.2.2, Or.inr hso2⟩ (by omega) (by omega) (by omega) (fun _ => rfl) (n + 1).toNat 1 _ (by omega) (by omega) (by omega) (fun _ _ => rfl) (fun y a b => absurd b (by omega)))
          | exact hK (s_M_found (hF 2 ⟨hc.1, hc.2.1, hc.2.2, Or.inr hso2⟩ (by omega)))
          | exact hK (s_M_found (hF 1 ⟨hc.1, hc.2.1, hc.2.2, Or.inr hso2⟩ (by omega)))
      · iterate 30 (all_goals (first
          | (refine And.intro (by omega) ?_)
          | (refine And.intro (fun hb => absurd hb (by omega)) (fun hb => ?_))
          | (refine And.intro (fun hb => ?_) (fun hb => absurd hb (by omega)))
          | (refine And.intro (fun hb => ?_) (fun hb => ?_))
          | (intro hb)
          | (conv => whnf)))
        exact hB (by omega)
  · iterate 30 (all_goals (first
      | (refine And.intro (by omega) ?_)
      | (refine And.intro (fun hb => absurd hb (by omega)) (fun hb => ?_))
      | (refine And.intro (fun hb => ?_) (fun hb => absurd hb (by omega)))
      | (refine And.intro (fun hb => ?_) (fun hb => ?_))
      | (intro hb)
      | (conv => whnf)))
    exact hB (by omega)
/-- a series changed on both sides -/
theorem II_ser {p q n : Int} {f0 : Int → Int} {sh : Int → Option Nat} {V V2 : am_V} {T : Nat} (hJ : IJ V sh T p f0) (hq : 0 ≤ q ∧ q < 8) (hn : 1 ≤ n ∧ n ≤ 8)
    (F : ∀ a, ns a → a ≠ 32 → a ≠ 41 → a ≠ 98 → a ≠ 99 → V2 a = V a) (F3 : ∀ j, j ≠ 17 → V2 3 j = V 3 j) (F86 : ∀ j, j ≠ 0 → j ≠ 1 → V2 86 j = V 86 j) (F65 : ∀ j, 0 ≤ j → j ≤ 8 → V2 65 j = V 65 j) (F76 : V2 76 = V 76)
    (e41 : ∀ j, V2 41 j = if j = q then n else V 41 j) (e98 : ∀ j, V2 98 j = if j = q then n else V 98 j) (e32 : ∀ j, ¬ (64 * q + 1 ≤ j ∧ j ≤ 64 * q + n) → V2 32 j = V 32 j) (e99 : ∀ j, ¬ (9 * q + 1 ≤ j ∧ j ≤ 9 * q + n) → V2 99 j = V 99 j) (hr : sr_rg p (sr_m V2 q) 8) (he : ∀ k, 1 ≤ k → k ≤ n → V2 32 (64 * q + k) = sr_m V2 q k) (hs : V2 86 1 = V2 3 17 ∧ 0 ≤ V2 3 17 ∧ V2 3 17 ≤ 5) : II V2 sh T p f0 := by
  have hse := hJ.2.2.2.2.2.1
  refine ⟨IJ_se hJ F F3 F86 (fun j a b => ⟨F65 j a b, by rw [F76]⟩) (fun s a b => ?_), hs⟩
  obtain ⟨q1, q2, q3, q4⟩ := hse s a b
  by_cases e : s = q
  · subst e
    rw [e41, e98, if_pos rfl, if_pos rfl, e32 _ (by omega)]
    refine ⟨hn, rfl, q3, fun k k1 k2 => ?_⟩
    have := hr.2 k k1 k2
    have mk : sr_m V2 s k = V2 99 (9 * s + k) := by unfold sr_m; rw [if_neg (by omega)]
    rw [mk] at this
    refine ⟨this, fun z => ?_⟩
    rw [← mk]
    exact he k k1 z
  · rw [e41, e98, if_neg e, if_neg e, e32 _ (by omega)]
    refine ⟨q1, q2, q3, fun k k1 k2 => ?_⟩
    rw [e32 _ (by omega), e99 _ (by omega)]
    exact q4 k k1 k2
