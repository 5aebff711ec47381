/-! series: series, both sides -/
theorem pr_series {G : am_G} {d : Nat} {sh : Int → Option Nat} {V : am_V} {T : Nat} {p : Int} {f0 : Int → Int} {q s i n sort : Int} (hI : II V sh T p f0) (h0 : am_in32 q) (h1 : am_in32 s) (h2 : am_in32 i) (h3 : am_in32 n) (h4 : am_in32 sort) : am_Calls G (d + 9) 19 [vR 3, vI q, vI s, vI i, vI n, vI sort] V (am_RF sh) T (pr_int G (d + 9) 125 [vR 86, vI q, vI s, vI i, vI n, vI sort] p f0) := by
  have hJ := hI.1
  have hse := hJ.2.2.2.2.2.1
  obtain ⟨p1, p2, p3, p4, p5, p6, p7⟩ := hJ.2.2.2.2.2.2.1
  have hp : 1 < p ∧ p ≤ 2000000000 := by omega
  have hVV : ∀ s, 0 ≤ s → s < 8 → (V 87 s = -1 ∨ (0 ≤ V 87 s ∧ V 87 s ≤ 2 ∧ 0 ≤ V 88 s ∧ V 88 s ≤ 40)) := fun s q1 q2 => by
    have := hJ.2.1 s q1 q2
    omega
  have hII : ∀ j, 0 ≤ j → j < 320 → am_in64 (V 89 j) := fun j a b => by
    have := hJ.2.2.1 (j / 40) (by omega) (by omega) (j % 40) (by omega) (by omega)
    rw [show 40 * (j / 40) + j % 40 = j by omega] at this
    rw [this.2]
    exact this.1
  have hmm : ∀ s, 0 ≤ s → s < 8 → sr_rg p (sr_m V s) 8 := fun s a b => iv_se_rg hp.1 hse a b
  have bad : ¬ ((0 ≤ q ∧ q < 8) ∧ (0 ≤ s ∧ s < 8) ∧ (1 ≤ n ∧ n ≤ 8) ∧ (sort = -1000000 ∨ (0 ≤ sort ∧ sort ≤ 2))) → pr_int G (d + 9) 125 [vR 86, vI q, vI s, vI i, vI n, vI sort] p f0 (some (vI (-1000001))) V (am_RF sh) T := fun hc =>
    pr_i (by omega) hJ.1 (s_M_series h0 h1 h2 h3 h4 hp p2 hVV hII hmm (fun _ => pr_k (II_bad hI)) (fun c q => absurd q hc) (fun q => absurd q hc))
  by_cases hc : (0 ≤ q ∧ q < 8) ∧ (0 ≤ s ∧ s < 8) ∧ (1 ≤ n ∧ n ≤ 8) ∧ (sort = -1000000 ∨ (0 ≤ sort ∧ sort ≤ 2))
  · have vs := hJ.2.1 s hc.2.1.1 hc.2.1.2
    have find : ∀ c, 0 ≤ c ∧ c ≤ 5 → ((c = 1 ∧ V 87 s < 0) ∨ (c = 2 ∧ 0 ≤ V 87 s ∧ ¬ (0 ≤ i ∧ i + n ≤ V 88 s))) → pr_int G (d + 9) 125 [vR 86, vI q, vI s, vI i, vI n, vI sort] p f0 (some (vI (-1000010 - c))) (am_up V 3 17 c) (am_RF sh) T := by
      intro c hc0 hcc
      have em : ∀ s, sr_m (am_up V 3 17 c) s = sr_m V s := fun s => by unfold sr_m; rw [am_up_ne (by decide)]
      refine pr_i (by omega) (by simp +decide [am_up_ne, am_up_at, reduceIte]; exact hJ.1) (s_M_series h0 h1 h2 h3 h4 hp (by simp +decide [am_up_ne, am_up_at, reduceIte]; exact p2) (by simp +decide only [am_up_ne, am_up_at, reduceIte]; exact hVV) (by simp +decide only [am_up_ne, am_up_at, reduceIte]; exact hII) (fun s a b => by rw [em]; exact hmm s a b) (fun q => absurd hc q) (fun c' _ hc' => ?_) (fun _ q2 q3 => ?_))
      · simp +decide only [am_up_ne, am_up_at, reduceIte] at hc'
        obtain rfl : c' = c := by omega
        exact pr_k (II_find hI hc0)
      · exfalso
        simp +decide only [am_up_ne, am_up_at, reduceIte] at q2 q3
        omega
    have fin : ∀ (U : am_V) (c : Int → Int), 0 ≤ V 87 s → (0 ≤ i ∧ i + n ≤ V 88 s) → (∀ k, 1 ≤ k → k ≤ n → c k = V 89 (40 * s + i + k - 1) % p) → (∀ a, a ≠ 3 → a ≠ 42 → a ≠ 65 → a ≠ 32 → a ≠ 41 → U a = V a) → (∀ j, U 3 j = am_up V 3 17 0 3 j) → (∀ j, 0 ≤ j → j ≤ 8 → U 65 j = V 65 j) → (∀ j, U 41 j = if j = q then n else V 41 j) → (∀ j, ¬ (64 * q + 1 ≤ j ∧ j ≤ 64 * q + n) → U 32 j = V 32 j) → ((sort = -1000000 ∧ ∀ k, 1 ≤ k → k ≤ n → U 32 (64 * q + k) = c k) ∨ (sort ≠ -1000000 ∧ ∀ k, 1 ≤ k → k ≤ n → U 32 (64 * q + k) = (c k + sr_ls p (fun j => U 32 (64 * q + j)) c sort k (k - 1).toNat) % p)) → pr_int G (d + 9) 125 [vR 86, vI q, vI s, vI i, vI n, vI sort] p f0 (some (vI n)) U (am_RF sh) T := by
      intro U c hl hio hcc u1 u3 u65 u41 u32 ue
      have em : ∀ s, sr_m U s = sr_m V s := fun s => by unfold sr_m; rw [u1 99 (by decide) (by decide) (by decide) (by decide) (by decide)]
      have uu : ∀ a, a ≠ 3 ∧ a ≠ 42 ∧ a ≠ 65 ∧ a ≠ 32 ∧ a ≠ 41 → U a = V a := fun a z => u1 a z.1 z.2.1 z.2.2.1 z.2.2.2.1 z.2.2.2.2
      refine pr_i (by omega) (by rw [uu 0 (by decide)]; exact hJ.1) (s_M_series h0 h1 h2 h3 h4 hp (by rw [uu 86 (by decide)]; exact p2) (by rw [uu 87 (by decide), uu 88 (by decide)]; exact hVV) (by rw [uu 89 (by decide)]; exact hII) (fun s a b => by rw [em]; exact hmm s a b) (fun q => absurd hc q) (fun c' _ hc' => ?_) (fun _ _ _ W c' c1 w1 w2 w3 w4 w5 => ?_))
      · exfalso
        rw [uu 87 (by decide), uu 88 (by decide)] at hc'
        omega
      · rw [uu 89 (by decide)] at c1
        have ecc : ∀ k, 1 ≤ k → k ≤ n → c k = c' k := fun k a b => by rw [hcc k a b, c1 k a b]
        have wU : ∀ a, a ≠ 98 ∧ a ≠ 99 ∧ a ≠ 100 ∧ a ≠ 102 ∧ a ≠ 86 → W a = U a := fun a z => by rw [w1 a z.1 z.2.1 z.2.2.1 z.2.2.2.1, am_up_ne z.2.2.2.2, am_up_ne z.2.2.2.2]
        have w86 : ∀ j, W 86 j = am_up (am_up V 86 0 0) 86 1 0 86 j := fun j => by rw [w1 86 (by decide) (by decide) (by decide) (by decide), am_up_at, am_up_at, am_up_at, am_up_at, uu 86 (by decide)]
        have he : ∀ k, 1 ≤ k → k ≤ n → W 32 (64 * q + k) = sr_m W q k := by
          rw [wU 32 (by decide)]
          rcases ue with ⟨z1, z2⟩ | ⟨z1, z2⟩ <;> rcases w5 with ⟨z3, z4⟩ | ⟨z3, z4⟩
          · intro k a b; rw [z2 k a b, z4 k a b, ecc k a b]
          · exact absurd z1 z3
          · exact absurd z3 z1
          · have h00 : U 32 (64 * q + 0) = sr_m W q 0 := by
              rw [w4.1, Int.add_zero, u32 _ (by omega)]
              exact (hse q hc.1.1 hc.1.2).2.2.1
            intro k a b
            exact sr_to_uniq (n := n) (m := fun j => U 32 (64 * q + j)) (m' := sr_m W q) h00 ecc z2 z4 k.toNat k (by omega) (by omega) b
        refine pr_k (II_ser (q := q) (n := n) hJ hc.1 hc.2.2.1 (fun a z z1 z2 z3 z4 => by rw [wU a ⟨z3, z4, by omega, by omega, by omega⟩, uu a ⟨by omega, by omega, by omega, z1, z2⟩]) (fun j z => by rw [wU 3 (by decide), u3, am_up_at, if_neg z]) (fun j z1 z2 => by rw [w86, am_up_at, if_neg z2, am_up_at, if_neg z1]) (fun j a b => by rw [wU 65 (by decide), u65 j a b]) (by rw [wU 76 (by decide), uu 76 (by decide)]) (fun j => by rw [wU 41 (by decide), u41]) (fun j => by rw [w2, uu 98 (by decide)]) (fun j z => by rw [wU 32 (by decide), u32 j z]) (fun j z => by rw [w3 j z, uu 99 (by decide)]) w4 he ?_)
        rw [w86, wU 3 (by decide), u3, am_up_same, am_up_same]
        exact ⟨rfl, by omega, by omega⟩
    refine am_enter mt_F_series ok_F_series rfl ?_
    have loop : 0 ≤ V 87 s → (0 ≤ i ∧ i + n ≤ V 88 s) → V 88 s ≤ 40 → ∀ (jj : Nat) (k : Int) (W : am_V), 1 ≤ k → k ≤ n + 1 → n + 1 - k < jj → (∀ a, a ≠ 42 → W a = V a) → (∀ j, 1 ≤ j → j < k → W 42 j = V 89 (40 * s + i + j - 1) % p) → am_Sem G (d + 8) 19 V T (pr_int G (d + 9) 125 [vR 86, vI q, vI s, vI i, vI n, vI sort] p f0) 74 [some (vR 3), some (vI q), some (vI s), some (vI i), some (vI n), some (vI sort), some (vI k)] [] W (am_RF sh) T 0 0 := by
      intro l1 l2 l3 jj
      induction jj with
      | zero => intro k W a b e; omega
      | succ jj ih =>
        intro k W a b e w1 w2
        by_cases hk : k = n + 1
        · by_cases hso : sort = -1000000
          · refine am_run 400 mt_F_series ok_F_series (fun K S hK hS => ?_)
            iterate 30 (all_goals (first
              | (refine And.intro (by omega) ?_)
              | (refine And.intro (fun hb => absurd hb (by omega)) (fun hb => ?_))
              | (refine And.intro (fun hb => ?_) (fun hb => absurd hb (by omega)))
              | (refine And.intro (fun hb => ?_) (fun hb => ?_))
              | (intro hb)
              | (conv => whnf)))
            refine hK (s_F_fine ?_)
            have cn : ∀ x, x ≠ 32 → am_cpy (am_up W 41 q n) 42 (0 + 1) 32 (64 * q + 1) n x = am_up W 41 q n x := fun x hx => by
              funext y; unfold am_cpy; rw [if_neg hx]
            have c32 : ∀ y, am_cpy (am_up W 41 q n) 42 (0 + 1) 32 (64 * q + 1) n 32 y = if 64 * q + 1 ≤ y ∧ y < 64 * q + 1 + n then W 42 (0 + 1 + (y - (64 * q + 1))) else V 32 y := fun y => by
              unfold am_cpy; rw [if_pos rfl, am_up_ne (by decide), am_up_ne (by decide), w1 32 (by decide)]
            refine fin _ (fun k => V 89 (40 * s + i + k - 1) % p) l1 l2 (fun _ _ _ => rfl) (fun x x1 x2 x3 x4 x5 => by rw [am_up_ne x1, cn x x4, am_up_ne x5, w1 x x2]) (fun j => by rw [am_up_at, am_up_at, cn 3 (by decide), am_up_ne (by decide), w1 3 (by decide)]) (fun j _ _ => by rw [am_up_ne (by decide), cn 65 (by decide), am_up_ne (by decide), w1 65 (by decide)]) (fun j => by rw [am_up_ne (by decide), cn 41 (by decide), am_up_at, w1 41 (by decide)]) (fun j z => by rw [am_up_ne (by decide), c32, if_neg (by omega)]) (Or.inl ⟨hso, fun j j1 j2 => ?_⟩)
            rw [am_up_ne (by decide), c32, if_pos (by omega), show 0 + 1 + (64 * q + j - (64 * q + 1)) = j by omega, w2 j j1 (by omega)]
          · have e32 : am_up W 41 q n 32 (64 * q) = 1 := by
              rw [am_up_ne (by decide), w1 32 (by decide)]
              exact (hse q hc.1.1 hc.1.2).2.2.1
            refine am_run 400 mt_F_series ok_F_series (fun K S hK hS => ?_)
            iterate 30 (all_goals (first
              | (refine And.intro (by omega) ?_)
              | (refine And.intro (fun hb => absurd hb (by omega)) (fun hb => ?_))
              | (refine And.intro (fun hb => ?_) (fun hb => absurd hb (by omega)))
              | (refine And.intro (fun hb => ?_) (fun hb => ?_))
              | (intro hb)
              | (conv => whnf)))
            refine hK (s_C_to hp (by rw [am_up_ne (by decide), w1 63 (by decide)]; exact p3) (by rw [am_up_ne (by decide), w1 64 (by decide)]; exact p4) hc.1 (by omega) hc.2.2.1 e32 (fun j j1 j2 => by rw [am_up_ne (by decide), w2 j j1 (by omega)]; exact m_modr (by omega)) (fun U u1 u2 u3 u4 u5 => ?_))
            iterate 30 (all_goals (first
              | (refine And.intro (by omega) ?_)
              | (refine And.intro (fun hb => absurd hb (by omega)) (fun hb => ?_))
              | (refine And.intro (fun hb => ?_) (fun hb => absurd hb (by omega)))
              | (refine And.intro (fun hb => ?_) (fun hb => ?_))
              | (intro hb)
              | (conv => whnf)))
            refine hK (s_F_fine ?_)
            have uW : ∀ a, a ≠ 65 → a ≠ 32 → a ≠ 41 → U a = W a := fun a z1 z2 z3 => by rw [u1 a z1 z2, am_up_ne z3]
            refine fin _ (fun k => V 89 (40 * s + i + k - 1) % p) l1 l2 (fun _ _ _ => rfl) (fun x x1 x2 x3 x4 x5 => by rw [am_up_ne x1, uW x x3 x4 x5, w1 x x2]) (fun j => by rw [am_up_at, am_up_at, uW 3 (by decide) (by decide) (by decide), w1 3 (by decide)]) (fun j j1 j2 => by rw [am_up_ne (by decide), u2 j j1 (by omega), am_up_ne (by decide), w1 65 (by decide)]) (fun j => by rw [am_up_ne (by decide), u1 41 (by decide) (by decide), am_up_at, w1 41 (by decide)]) (fun j z => by rw [am_up_ne (by decide), u3 j z, am_up_ne (by decide), w1 32 (by decide)]) (Or.inr ⟨hso, fun j j1 j2 => ?_⟩)
            have eW : am_up W 41 q n 42 = W 42 := am_up_ne (by decide)
            have eU : am_up U 3 17 0 32 = U 32 := am_up_ne (by decide)
            have u5' := u5 j j1 j2
            rw [eW] at u5'
            rw [eU, u5', w2 j j1 (by omega), sr_ls_eq (c := W 42) (c' := fun k => V 89 (40 * s + i + k - 1) % p) (fun _ _ _ => rfl) _ (by omega) (fun y y1 y2 => w2 y y1 (by omega))]
        · have f4 : ∀ j, W 4 j = V 4 j := fun j => by rw [w1 4 (by decide)]
          have it := hJ.2.2.1 s hc.2.1.1 hc.2.1.2 (i + k - 1) (by omega) (by omega)
          have f4' : W 4 (64 * s + (i + k - 1)) = V 89 (40 * s + i + k - 1) := by rw [f4, ← it.2]; congr 1; omega
          have r4 : am_in64 (V 89 (40 * s + i + k - 1)) := hII _ (by omega) (by omega)
          have f3 : W 3 0 = p := by rw [w1 3 (by decide)]; exact p1
          refine am_run 400 mt_F_series ok_F_series (fun K S hK hS => ?_)
          iterate 30 (all_goals (first
            | (refine And.intro (by omega) ?_)
            | (refine And.intro (by decide) ?_)
            | (refine And.intro (⟨r4, by omega⟩) ?_)
            | (refine And.intro (fun hb => absurd hb (by omega)) (fun hb => ?_))
            | (refine And.intro (fun hb => ?_) (fun hb => absurd hb (by omega)))
            | (refine And.intro (fun hb => ?_) (fun hb => ?_))
            | (intro hb)
            | (simp only [f4', f3])
            | (conv => whnf)))
          refine hS (ih (k + 1) _ (by omega) (by omega) (by omega) (fun x x1 => by rw [am_up_ne x1, w1 x x1]) (fun j j1 j2 => ?_))
          rw [am_up_at]
          by_cases z : j = k
          · rw [if_pos z, z]
          · rw [if_neg z, w2 j j1 (by omega)]
    refine am_run 400 mt_F_series ok_F_series (fun K S hK hS => ?_)
    iterate 30 (all_goals (first
      | (refine And.intro (by omega) ?_)
      | (refine And.intro (fun hb => absurd hb (by omega)) (fun hb => ?_))
      | (refine And.intro (fun hb => ?_) (fun hb => absurd hb (by omega)))
      | (refine And.intro (fun hb => ?_) (fun hb => ?_))
      | (intro hb)
      | (conv => whnf)))
    refine hK (s_F_noSeries h0 (fun r hr => ?_))
    iterate 30 (all_goals (first
      | (refine And.intro (by omega) ?_)
      | (refine And.intro (fun hb => absurd hb (by omega)) (fun hb => ?_))
      | (refine And.intro (fun hb => ?_) (fun hb => absurd hb (by omega)))
      | (refine And.intro (fun hb => ?_) (fun hb => ?_))
      | (intro hb)
      | (conv => whnf)))
    refine hK (s_F_noSheet h1 (fun r2 hr2 => ?_))
    iterate 30 (all_goals (first
      | (refine And.intro (by omega) ?_)
      | (refine And.intro (fun hb => absurd hb (by omega)) (fun hb => ?_))
      | (refine And.intro (fun hb => ?_) (fun hb => absurd hb (by omega)))
      | (refine And.intro (fun hb => ?_) (fun hb => ?_))
      | (intro hb)
      | (conv => whnf)))
    refine hK (s_F_noSort h4 (fun r3 hr3 => ?_))
    iterate 60 (all_goals (first
      | (refine And.intro (by omega) ?_)
      | (refine And.intro (fun hb => absurd hb (by omega)) (fun hb => ?_))
      | (refine And.intro (fun hb => ?_) (fun hb => absurd hb (by omega)))
      | (refine And.intro (fun hb => ?_) (fun hb => ?_))
      | (intro hb)
      | (conv => whnf)))
    all_goals (try exact hK (s_F_finding (find 1 (by omega) (by omega))))
    refine hK (s_F_noRun hc.2.1 h2 h3 (by omega) (fun r4 hr4 => ?_))
    iterate 30 (all_goals (first
      | (refine And.intro (by omega) ?_)
      | (refine And.intro (fun hb => absurd hb (by omega)) (fun hb => ?_))
      | (refine And.intro (fun hb => ?_) (fun hb => absurd hb (by omega)))
      | (refine And.intro (fun hb => ?_) (fun hb => ?_))
      | (intro hb)
      | (conv => whnf)))
    all_goals (try exact hK (s_F_finding (find 2 (by omega) (by omega))))
    exact hS (loop (by omega) (by omega) (by omega) (n + 1).toNat 1 V (by omega) (by omega) (by omega) (fun _ _ => rfl) (fun j a b => absurd b (by omega)))
  · refine am_enter mt_F_series ok_F_series rfl ?_
    refine am_run 400 mt_F_series ok_F_series (fun K S hK hS => ?_)
    iterate 30 (all_goals (first
      | (refine And.intro (by omega) ?_)
      | (refine And.intro (fun hb => absurd hb (by omega)) (fun hb => ?_))
      | (refine And.intro (fun hb => ?_) (fun hb => absurd hb (by omega)))
      | (refine And.intro (fun hb => ?_) (fun hb => ?_))
      | (intro hb)
      | (conv => whnf)))
    refine hK (s_F_noSeries h0 (fun r hr => ?_))
    iterate 30 (all_goals (first
      | (refine And.intro (by omega) ?_)
      | (refine And.intro (fun hb => absurd hb (by omega)) (fun hb => ?_))
      | (refine And.intro (fun hb => ?_) (fun hb => absurd hb (by omega)))
      | (refine And.intro (fun hb => ?_) (fun hb => ?_))
      | (intro hb)
      | (conv => whnf)))
    · exact bad hc
    refine hK (s_F_noSheet h1 (fun r2 hr2 => ?_))
    iterate 30 (all_goals (first
      | (refine And.intro (by omega) ?_)
      | (refine And.intro (fun hb => absurd hb (by omega)) (fun hb => ?_))
      | (refine And.intro (fun hb => ?_) (fun hb => absurd hb (by omega)))
      | (refine And.intro (fun hb => ?_) (fun hb => ?_))
      | (intro hb)
      | (conv => whnf)))
    all_goals (try exact bad hc)
    refine hK (s_F_noSort h4 (fun r3 hr3 => ?_))
    iterate 30 (all_goals (first
      | (refine And.intro (by omega) ?_)
      | (refine And.intro (fun hb => absurd hb (by omega)) (fun hb => ?_))
      | (refine And.intro (fun hb => ?_) (fun hb => absurd hb (by omega)))
      | (refine And.intro (fun hb => ?_) (fun hb => ?_))
      | (intro hb)
      | (conv => whnf)))
    exact bad hc
