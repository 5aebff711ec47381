theorem II_ser2 {p q n : Int} {f0 : Int → Int} {sh : Int → Option Nat} {V V2 : am_V} {T : Nat} (hJ : IJ V sh T p f0) (hq : 0 ≤ q ∧ q < 8) (hn : 1 ≤ n ∧ n ≤ 8)
    (F : ∀ a, ns a → a ≠ 32 → a ≠ 41 → a ≠ 98 → a ≠ 99 → V2 a = V a) (F3 : ∀ j, j ≠ 17 → V2 3 j = V 3 j) (F86 : ∀ j, j ≠ 0 → j ≠ 1 → V2 86 j = V 86 j) (F65 : ∀ j, 0 ≤ j → j ≤ 8 → V2 65 j = V 65 j) (F76 : ∀ j, 0 ≤ j → j ≤ 8 → V2 76 j = V 76 j)
    (e41 : ∀ j, V2 41 j = if j = q then n else V 41 j) (e98 : ∀ j, V2 98 j = if j = q then n else V 98 j) (e32 : ∀ j, ¬ (64 * q + 1 ≤ j ∧ j ≤ 64 * q + n) → V2 32 j = V 32 j) (e99 : ∀ j, ¬ (9 * q + 1 ≤ j ∧ j ≤ 9 * q + n) → V2 99 j = V 99 j) (hr : sr_rg p (sr_m V2 q) 8) (he : ∀ k, 1 ≤ k → k ≤ n → V2 32 (64 * q + k) = sr_m V2 q k) (hs : V2 86 1 = V2 3 17 ∧ 0 ≤ V2 3 17 ∧ V2 3 17 ≤ 5) : II V2 sh T p f0 := by
  have hse := hJ.2.2.2.2.2.1
  refine ⟨IJ_se hJ F F3 F86 (fun j a b => ⟨F65 j a b, F76 j a b⟩) (fun s a b => ?_), hs⟩
  obtain ⟨q1, q2, q3, q4⟩ := hse s a b
  by_cases e : s = q
  · subst e
    rw [e41, e98, if_pos rfl, if_pos rfl, e32 _ (by omega)]
    refine ⟨hn, rfl, q3, fun k k1 k2 => ?_⟩
    have := hr.2 k k1 k2
    have mk : sr_m V2 s k = V2 99 (9 * s + k) := by unfold sr_m; rw [if_neg (by omega)]
    rw [mk] at this
    refine ⟨this, fun z => ?_⟩
    rw [← mk]
    exact he k k1 z
  · rw [e41, e98, if_neg e, if_neg e, e32 _ (by omega)]
    refine ⟨q1, q2, q3, fun k k1 k2 => ?_⟩
    rw [e32 _ (by omega), e99 _ (by omega)]
    exact q4 k k1 k2
/-! join: the product, both sides -/
theorem pr_join3 {G : am_G} {d : Nat} {sh : Int → Option Nat} {V : am_V} {T : Nat} {p : Int} {f0 : Int → Int} {q a b : Int} (hI : II V sh T p f0) (h0 : am_in32 q) (h1 : am_in32 a) (h2 : am_in32 b) : am_Calls G (d + 9) 21 [vR 3, vI q, vI a, vI b, vI 3] V (am_RF sh) T (pr_int G (d + 9) 127 [vR 86, vI q, vI a, vI b, vI 3] p f0) := by
  have hJ := hI.1
  have hst := hI.2
  have hse := hJ.2.2.2.2.2.1
  obtain ⟨p1, p2, p3, p4, p5, p6, p7⟩ := hJ.2.2.2.2.2.2.1
  have hp : 1 < p ∧ p ≤ 2000000000 := by omega
  have hzz : ∀ s, 0 ≤ s → s < 8 → 1 ≤ V 98 s ∧ V 98 s ≤ 8 := fun s a b => by
    have := hse s a b
    omega
  have hmm : ∀ s, 0 ≤ s → s < 8 → sr_rg p (sr_m V s) 8 := fun s a b => iv_se_rg hp.1 hse a b
  by_cases hc : (0 ≤ q ∧ q < 8) ∧ (0 ≤ a ∧ a < 8) ∧ (0 ≤ b ∧ b < 8)
  · have za := hse a hc.2.1.1 hc.2.1.2
    have zb := hse b hc.2.2.1 hc.2.2.2
    have za1 : (1 ≤ V 41 a ∧ V 41 a ≤ 8) ∧ V 98 a = V 41 a := ⟨za.1, za.2.1⟩
    have zb1 : (1 ≤ V 41 b ∧ V 41 b ≤ 8) ∧ V 98 b = V 41 b := ⟨zb.1, zb.2.1⟩
    have ea := iv_se_eqm hse hc.2.1.1 hc.2.1.2
    have eb := iv_se_eqm hse hc.2.2.1 hc.2.2.2
    have ra := iv_se_rgc hp.1 hse hc.2.1.1 hc.2.1.2
    have rb := iv_se_rgc hp.1 hse hc.2.2.1 hc.2.2.2
    have q32 : V 32 (64 * q) = 1 := (hse q hc.1.1 hc.1.2).2.2.1
    have fin : ∀ (n : Int), ((n = V 41 a ∧ V 41 a ≤ V 41 b) ∨ (n = V 41 b ∧ V 41 b ≤ V 41 a)) → ∀ (U : am_V) (x y : Int → Int), (∀ z, z ≠ 42 → z ≠ 43 → z ≠ 65 → z ≠ 76 → z ≠ 32 → z ≠ 41 → U z = V z) → (∀ j, 0 ≤ j → j ≤ 8 → U 65 j = V 65 j ∧ U 76 j = V 76 j) → (∀ j, U 41 j = if j = q then n else V 41 j) → (∀ j, ¬ (64 * q + 1 ≤ j ∧ j ≤ 64 * q + n) → U 32 j = V 32 j) → (∀ k, 1 ≤ k → k ≤ n → x k = (V 32 (64 * a + k) + p - sr_ls p (fun j => V 32 (64 * a + j)) x 1 k (k - 1).toNat) % p) → (∀ k, 1 ≤ k → k ≤ n → y k = (V 32 (64 * b + k) + p - sr_ls p (fun j => V 32 (64 * b + j)) y 1 k (k - 1).toNat) % p) → (∀ k, 1 ≤ k → k ≤ n → U 32 (64 * q + k) = (y_mx p x y k + sr_ls p (fun j => U 32 (64 * q + j)) (y_mx p x y) 1 k (k - 1).toNat) % p) → pr_int G (d + 9) 127 [vR 86, vI q, vI a, vI b, vI 3] p f0 (some (vI n)) U (am_RF sh) T := by
      intro n hn U x y u1 u65 u41 u32 ux uy ue
      have uu : ∀ z, z ≠ 42 ∧ z ≠ 43 ∧ z ≠ 65 ∧ z ≠ 76 ∧ z ≠ 32 ∧ z ≠ 41 → U z = V z := fun z k => u1 z k.1 k.2.1 k.2.2.1 k.2.2.2.1 k.2.2.2.2.1 k.2.2.2.2.2
      have em : ∀ s, sr_m U s = sr_m V s := fun s => by unfold sr_m; rw [uu 99 (by decide)]
      have e98 : ∀ s, U 98 s = V 98 s := fun s => by rw [uu 98 (by decide)]
      refine pr_i (by omega) (by rw [uu 0 (by decide)]; exact hJ.1) (s_M_join3 (p := p) h0 h1 h2 hp (by rw [uu 86 (by decide)]; exact p2) (fun s a b => by rw [e98]; exact hzz s a b) (fun s a b => by rw [em]; exact hmm s a b) (fun q => absurd hc q) (fun _ n' hn' W x' y' w1 w2 w3 w4 wx wy we => ?_))
      rw [e98, e98] at hn'
      obtain rfl : n' = n := by omega
      rw [em] at wx wy
      have wU : ∀ z, z ≠ 93 ∧ z ≠ 94 ∧ z ≠ 98 ∧ z ≠ 99 ∧ z ≠ 100 ∧ z ≠ 102 ∧ z ≠ 86 → W z = U z := fun z k => by rw [w1 z k.1 k.2.1 k.2.2.1 k.2.2.2.1 k.2.2.2.2.1 k.2.2.2.2.2.1, am_up_ne k.2.2.2.2.2.2]
      have w86 : ∀ j, j ≠ 0 → W 86 j = V 86 j := fun j z => by rw [w1 86 (by decide) (by decide) (by decide) (by decide) (by decide) (by decide), am_up_at, if_neg z, uu 86 (by decide)]
      have exx : ∀ k, 1 ≤ k → k ≤ n' → x k = x' k := fun k k1 k2 => sr_of_uniq (n := n') (m := fun j => V 32 (64 * a + j)) (m' := sr_m V a) (fun i i1 i2 => ea i i1 (by omega)) ux wx k.toNat k (by omega) k1 k2
      have eyy : ∀ k, 1 ≤ k → k ≤ n' → y k = y' k := fun k k1 k2 => sr_of_uniq (n := n') (m := fun j => V 32 (64 * b + j)) (m' := sr_m V b) (fun i i1 i2 => eb i i1 (by omega)) uy wy k.toNat k (by omega) k1 k2
      have he : ∀ k, 1 ≤ k → k ≤ n' → W 32 (64 * q + k) = sr_m W q k := by
        rw [wU 32 (by decide)]
        have h00 : U 32 (64 * q + 0) = sr_m W q 0 := by
          rw [w4.1, Int.add_zero, u32 _ (by omega)]
          exact q32
        intro k k1 k2
        exact sr_to_uniq (n := n') (m := fun j => U 32 (64 * q + j)) (m' := sr_m W q) (c := y_mx p x y) (c' := y_mx p x' y') h00 (fun k k1 k2 => y_mx_eq k1 (by omega) (fun s s1 s2 => ⟨exx s s1 (by omega), eyy s s1 (by omega)⟩)) ue we k.toNat k (by omega) (by omega) k2
      refine pr_k (II_ser2 (q := q) (n := n') hJ hc.1 (by omega) (fun z k z1 z2 z3 z4 => by rw [wU z ⟨by omega, by omega, z3, z4, by omega, by omega, by omega⟩, uu z ⟨by omega, by omega, by omega, by omega, z1, z2⟩]) (fun j z => by rw [wU 3 (by decide), uu 3 (by decide)]) (fun j z1 z2 => w86 j z1) (fun j j1 j2 => by rw [wU 65 (by decide), (u65 j j1 j2).1]) (fun j j1 j2 => by rw [wU 76 (by decide), (u65 j j1 j2).2]) (fun j => by rw [wU 41 (by decide), u41]) (fun j => by rw [w2, e98]) (fun j z => by rw [wU 32 (by decide), u32 j z]) (fun j z => by rw [w3 j z, uu 99 (by decide)]) w4 he ?_)
      rw [w86 1 (by decide), wU 3 (by decide), uu 3 (by decide)]
      exact hst
    have hk := hJ.2.2.2.2.2.2.2.1.2.2
    have after : ∀ (n : Int), 1 ≤ n ∧ n ≤ 8 → ((n = V 41 a ∧ V 41 a ≤ V 41 b) ∨ (n = V 41 b ∧ V 41 b ≤ V 41 a)) → ∀ (x y : Int → Int), (∀ k, 1 ≤ k → k ≤ n → (0 ≤ x k ∧ x k < p) ∧ (0 ≤ y k ∧ y k < p)) → (∀ k, 1 ≤ k → k ≤ n → x k = (V 32 (64 * a + k) + p - sr_ls p (fun j => V 32 (64 * a + j)) x 1 k (k - 1).toNat) % p) → (∀ k, 1 ≤ k → k ≤ n → y k = (V 32 (64 * b + k) + p - sr_ls p (fun j => V 32 (64 * b + j)) y 1 k (k - 1).toNat) % p) → ∀ (U W : am_V), (∀ z, z ≠ 42 → z ≠ 43 → z ≠ 65 → U z = V z) → (∀ j, 0 ≤ j → j ≤ 8 → U 65 j = V 65 j) → (∀ j, 1 ≤ j → j ≤ n → U 42 j = x j ∧ U 43 j = y j) → (∀ z, z ≠ 42 → z ≠ 65 → z ≠ 76 → W z = U z) → (∀ j, 0 ≤ j → j < 64 → W 65 j = U 65 j ∧ W 76 j = U 76 j) → (∃ mg mh : Int → Int, mg 0 = 0 ∧ mh 0 = 0 ∧ (∀ k : Nat, 1 ≤ k → (k : Int) ≤ n → mg k = y_sw p (U 42) (sr_pw p mh) k 1 k ∧ mh k = y_sw p (U 43) (sr_pw p mg) k 1 k) ∧ ∀ k : Nat, 1 ≤ k → (k : Int) ≤ n → W 42 k = y_sw p (U 42) (sr_pw p mh) k 0 k) → (∀ k, 1 ≤ k → k ≤ n → W 42 k = y_mx p x y k) ∧ (∀ Y : am_V, (∀ a, a ≠ 65 → a ≠ 32 → Y a = am_up W 41 q n a) → (∀ j, 0 ≤ j → j < 64 → Y 65 j = am_up W 41 q n 65 j) → (∀ j, ¬ (64 * q + 1 ≤ j ∧ j ≤ 64 * q + n) → Y 32 j = am_up W 41 q n 32 j) → (∀ k, 1 ≤ k → k ≤ n → Y 32 (64 * q + k) = (W 42 k + sr_ls p (fun j => Y 32 (64 * q + j)) (W 42) 1 k (k - 1).toNat) % p) → pr_int G (d + 9) 127 [vR 86, vI q, vI a, vI b, vI 3] p f0 (some (vI n)) Y (am_RF sh) T) := by
      intro n hn hnn x y hxy hx hy U W u1 u65 u42 w1 w65 hgh
      have wk : ∀ k, 1 ≤ k → k ≤ n → W 42 k = y_mx p x y k := by
        obtain ⟨mg, mh, g0, h0', hg, hw⟩ := hgh
        have hcl := y_class (p := p) (a := y_a (U 42) (U 43)) (c1 := U 42) (c2 := U 43) (mg := mg) (mh := mh) (n := n.toNat) hp.1 (by omega) (fun s s1 s2 => by
          have r := hxy s (by omega) (by omega)
          have e := u42 s (by omega) (by omega)
          unfold y_a
          rw [if_pos (by omega), if_neg (by omega), show ((s + 9 : Nat) : Int) - 9 = s by omega, e.1, e.2, Int.emod_eq_of_lt r.1.1 r.1.2, Int.emod_eq_of_lt r.2.1 r.2.2]
          exact ⟨rfl, rfl⟩) g0 h0' (fun k k1 k2 => (hg k k1 (by omega)).1) (fun k k1 k2 => (hg k k1 (by omega)).2)
        intro k k1 k2
        have e1 := hw k.toNat (by omega) (by omega)
        rw [show ((k.toNat : Nat) : Int) = k by omega] at e1
        have e2 := hcl k.toNat (by omega) (by omega)
        rw [show ((k.toNat : Nat) : Int) = k by omega] at e2
        rw [e1, e2]
        exact y_mx_eq k1 (by omega) (fun s s1 s2 => u42 s s1 (by omega))
      refine ⟨wk, fun Y y1 y2 y3 y5 => ?_⟩
      refine fin n hnn Y x y (fun z z1 z2 z3 z6 z4 z5 => by rw [y1 z z3 z4, am_up_ne z5, w1 z z1 z3 z6, u1 z z1 z2 z3]) (fun j j1 j2 => ⟨by rw [y2 j j1 (by omega), am_up_ne (by decide), (w65 j j1 (by omega)).1, u65 j j1 j2], by rw [y1 76 (by decide) (by decide), am_up_ne (by decide), (w65 j j1 (by omega)).2, u1 76 (by decide) (by decide) (by decide)]⟩) (fun j => by rw [y1 41 (by decide) (by decide), am_up_at, w1 41 (by decide) (by decide) (by decide), u1 41 (by decide) (by decide) (by decide)]) (fun j z => by rw [y3 j z, am_up_ne (by decide), w1 32 (by decide) (by decide) (by decide), u1 32 (by decide) (by decide) (by decide)]) hx hy (fun j j1 j2 => ?_)
      rw [y5 j j1 j2, wk j j1 j2, sr_ls_eq (c := W 42) (c' := y_mx p x y) (fun _ _ _ => rfl) _ (by omega) (fun i i1 i2 => wk i i1 (by omega))]
    clear fin
    refine am_enter mt_F_join ok_F_join rfl ?_
    refine am_run 400 mt_F_join ok_F_join (fun K S hK hS => ?_)
    iterate 30 (all_goals (first
      | (refine And.intro (by omega) ?_)
      | (refine And.intro (fun hb => absurd hb (by omega)) (fun hb => ?_))
      | (refine And.intro (fun hb => ?_) (fun hb => absurd hb (by omega)))
      | (refine And.intro (fun hb => ?_) (fun hb => ?_))
      | (intro hb)
      | (conv => whnf)))
    refine hK (s_F_noSeries h0 (fun r hr => ?_))
    iterate 30 (all_goals (first
      | (refine And.intro (by omega) ?_)
      | (refine And.intro (fun hb => absurd hb (by omega)) (fun hb => ?_))
      | (refine And.intro (fun hb => ?_) (fun hb => absurd hb (by omega)))
      | (refine And.intro (fun hb => ?_) (fun hb => ?_))
      | (intro hb)
      | (conv => whnf)))
    refine hK (s_F_noSeries h1 (fun r2 hr2 => ?_))
    iterate 30 (all_goals (first
      | (refine And.intro (by omega) ?_)
      | (refine And.intro (fun hb => absurd hb (by omega)) (fun hb => ?_))
      | (refine And.intro (fun hb => ?_) (fun hb => absurd hb (by omega)))
      | (refine And.intro (fun hb => ?_) (fun hb => ?_))
      | (intro hb)
      | (conv => whnf)))
    refine hK (s_F_noSeries h2 (fun r3 hr3 => ?_))
    iterate 60 (all_goals (first
      | (refine And.intro (by omega) ?_)
      | (refine And.intro (fun hb => absurd hb (by omega)) (fun hb => ?_))
      | (refine And.intro (fun hb => ?_) (fun hb => absurd hb (by omega)))
      | (refine And.intro (fun hb => ?_) (fun hb => ?_))
      | (intro hb)
      | (conv => whnf)))
    all_goals (refine hK (s_C_of42 hp p3 p4 hc.2.1 (by omega) (by omega) ⟨ra.1, fun j j1 j2 => ra.2 j j1 (by omega)⟩ (fun W w1 w2 w3 w4 => ?_)))
    all_goals (have eW : (fun j => W 32 (64 * b + j)) = (fun j => V 32 (64 * b + j)) := (by rw [w1 32 (by decide) (by decide)]))
    iterate 60 (all_goals (first
      | (refine And.intro (by omega) ?_)
      | (refine And.intro (fun hb => absurd hb (by omega)) (fun hb => ?_))
      | (refine And.intro (fun hb => ?_) (fun hb => absurd hb (by omega)))
      | (refine And.intro (fun hb => ?_) (fun hb => ?_))
      | (intro hb)
      | (conv => whnf)))
    all_goals (refine hK (s_C_of43 hp (by rw [w1 63 (by decide) (by decide)]; exact p3) (by rw [w1 64 (by decide) (by decide)]; exact p4) hc.2.2 (by omega) (by omega) (by rw [eW]; exact ⟨rb.1, fun j j1 j2 => rb.2 j j1 (by omega)⟩) (fun U u1 u2 u3 u4 => ?_)))
    all_goals (rw [eW, w1 32 (by decide) (by decide)] at u4)
    all_goals (have uV : ∀ z, z ≠ 42 → z ≠ 43 → z ≠ 65 → U z = V z := fun z z1 z2 z3 => (by rw [u1 z z3 z2, w1 z z3 z1]))
    all_goals (have u42 : U 42 = W 42 := u1 42 (by decide) (by decide))
    iterate 60 (all_goals (first
      | (refine And.intro (by omega) ?_)
      | (refine And.intro (fun hb => absurd hb (by omega)) (fun hb => ?_))
      | (refine And.intro (fun hb => ?_) (fun hb => absurd hb (by omega)))
      | (refine And.intro (fun hb => ?_) (fun hb => ?_))
      | (intro hb)
      | (conv => whnf)))
    all_goals (refine hK (s_C_multiply hp (by rw [uV 64 (by decide) (by decide) (by decide)]; exact p4) (by rw [uV 75 (by decide) (by decide) (by decide)]; exact p5) (by omega) (fun s s1 s2 => by rw [u42]; exact w3 s s1 s2) (fun s s1 s2 => u3 s s1 s2) (fun j j1 j2 => ⟨by rw [u2 j j1 (by omega), w2 j j1 (by omega)]; exact (hk j j1 j2).1, by rw [uV 76 (by decide) (by decide) (by decide)]; exact (hk j j1 j2).2⟩) (fun X x1 x2 x3 => ?_)))
    all_goals (obtain ⟨wk, af⟩ := after _ (by omega) (by omega) (W 42) (U 43) (fun k k1 k2 => ⟨w3 k k1 k2, u3 k k1 k2⟩) w4 u4 U X uV (fun j j1 j2 => by rw [u2 j j1 (by omega), w2 j j1 (by omega)]) (fun j j1 j2 => ⟨by rw [u42], rfl⟩) x1 x2 x3)
    all_goals (have xV : ∀ z, z ≠ 42 → z ≠ 43 → z ≠ 65 → z ≠ 76 → X z = V z := fun z z1 z2 z3 z4 => (by rw [x1 z z1 z3 z4, uV z z1 z2 z3]))
    all_goals (clear after x3)
    iterate 60 (all_goals (first
      | (refine And.intro (by omega) ?_)
      | (refine And.intro (fun hb => absurd hb (by omega)) (fun hb => ?_))
      | (refine And.intro (fun hb => ?_) (fun hb => absurd hb (by omega)))
      | (refine And.intro (fun hb => ?_) (fun hb => ?_))
      | (intro hb)
      | (conv => whnf)))
    all_goals (refine hK (s_C_to hp (by rw [am_up_ne (by decide), xV 63 (by decide) (by decide) (by decide) (by decide)]; exact p3) (by rw [am_up_ne (by decide), xV 64 (by decide) (by decide) (by decide) (by decide)]; exact p4) hc.1 (by omega) (by omega) (by rw [am_up_ne (by decide), xV 32 (by decide) (by decide) (by decide) (by decide)]; exact q32) (fun j j1 j2 => by rw [am_up_ne (by decide), wk j j1 j2]; exact y_mx_rg (by omega)) (fun Y y1 y2 y3 y4 y5 => ?_)))
    all_goals (rw [am_up_ne (show (42 : Nat) ≠ 41 by decide)] at y5)
    all_goals (have af := af Y y1 y2 y3 y5)
    iterate 60 (all_goals (first
      | (refine And.intro (by omega) ?_)
      | (refine And.intro (fun hb => absurd hb (by omega)) (fun hb => ?_))
      | (refine And.intro (fun hb => ?_) (fun hb => absurd hb (by omega)))
      | (refine And.intro (fun hb => ?_) (fun hb => ?_))
      | (intro hb)
      | (conv => whnf)))
    all_goals exact af
  · have bad : pr_int G (d + 9) 127 [vR 86, vI q, vI a, vI b, vI 3] p f0 (some (vI (-1000001))) V (am_RF sh) T := pr_i (by omega) hJ.1 (s_M_join3 (p := p) h0 h1 h2 hp p2 hzz hmm (fun _ => pr_k (II_bad hI)) (fun q => absurd q hc))
    refine am_enter mt_F_join ok_F_join rfl ?_
    refine am_run 400 mt_F_join ok_F_join (fun K S hK hS => ?_)
    iterate 30 (all_goals (first
      | (refine And.intro (by omega) ?_)
      | (refine And.intro (fun hb => absurd hb (by omega)) (fun hb => ?_))
      | (refine And.intro (fun hb => ?_) (fun hb => absurd hb (by omega)))
      | (refine And.intro (fun hb => ?_) (fun hb => ?_))
      | (intro hb)
      | (conv => whnf)))
    refine hK (s_F_noSeries h0 (fun r hr => ?_))
    iterate 30 (all_goals (first
      | (refine And.intro (by omega) ?_)
      | (refine And.intro (fun hb => absurd hb (by omega)) (fun hb => ?_))
      | (refine And.intro (fun hb => ?_) (fun hb => absurd hb (by omega)))
      | (refine And.intro (fun hb => ?_) (fun hb => ?_))
      | (intro hb)
      | (conv => whnf)))
    · exact bad
    refine hK (s_F_noSeries h1 (fun r2 hr2 => ?_))
    iterate 30 (all_goals (first
      | (refine And.intro (by omega) ?_)
      | (refine And.intro (fun hb => absurd hb (by omega)) (fun hb => ?_))
      | (refine And.intro (fun hb => ?_) (fun hb => absurd hb (by omega)))
      | (refine And.intro (fun hb => ?_) (fun hb => ?_))
      | (intro hb)
      | (conv => whnf)))
    · exact bad
    refine hK (s_F_noSeries h2 (fun r3 hr3 => ?_))
    iterate 30 (all_goals (first
      | (refine And.intro (by omega) ?_)
      | (refine And.intro (fun hb => absurd hb (by omega)) (fun hb => ?_))
      | (refine And.intro (fun hb => ?_) (fun hb => absurd hb (by omega)))
      | (refine And.intro (fun hb => ?_) (fun hb => ?_))
      | (intro hb)
      | (conv => whnf)))
    all_goals exact bad

theorem pr_join {G : am_G} {d : Nat} {sh : Int → Option Nat} {V : am_V} {T : Nat} {p : Int} {f0 : Int → Int} {q a b w : Int} (hI : II V sh T p f0) (h0 : am_in32 q) (h1 : am_in32 a) (h2 : am_in32 b) (h3 : am_in32 w) : am_Calls G (d + 9) 21 [vR 3, vI q, vI a, vI b, vI w] V (am_RF sh) T (pr_int G (d + 9) 127 [vR 86, vI q, vI a, vI b, vI w] p f0) := by
  by_cases hw : w = 3
  · subst hw
    exact pr_join3 hI h0 h1 h2
  · exact pr_join012 hI h0 h1 h2 h3 hw
