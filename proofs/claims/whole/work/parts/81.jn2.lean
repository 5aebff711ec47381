/-! join: the sums, both sides -/
theorem pr_join012 {G : am_G} {d : Nat} {sh : Int → Option Nat} {V : am_V} {T : Nat} {p : Int} {f0 : Int → Int} {q a b w : Int} (hI : II V sh T p f0) (h0 : am_in32 q) (h1 : am_in32 a) (h2 : am_in32 b) (h3 : am_in32 w) (hw3 : w ≠ 3) : am_Calls G (d + 9) 21 [vR 3, vI q, vI a, vI b, vI w] V (am_RF sh) T (pr_int G (d + 9) 127 [vR 86, vI q, vI a, vI b, vI w] p f0) := by
  have hJ := hI.1
  have hst := hI.2
  have hse := hJ.2.2.2.2.2.1
  obtain ⟨p1, p2, p3, p4, p5, p6, p7⟩ := hJ.2.2.2.2.2.2.1
  have hp : 1 < p ∧ p ≤ 2000000000 := by omega
  have hzz : ∀ s, 0 ≤ s → s < 8 → 1 ≤ V 98 s ∧ V 98 s ≤ 8 := fun s a b => by
    have := hse s a b
    omega
  have hmm : ∀ s, 0 ≤ s → s < 8 → sr_rg p (sr_m V s) 8 := fun s a b => iv_se_rg hp.1 hse a b
  by_cases hc : (0 ≤ q ∧ q < 8) ∧ (0 ≤ a ∧ a < 8) ∧ (0 ≤ b ∧ b < 8) ∧ 0 ≤ w ∧ w ≤ 2
  · have za := hse a hc.2.1.1 hc.2.1.2
    have zb := hse b hc.2.2.1.1 hc.2.2.1.2
    have za1 : (1 ≤ V 41 a ∧ V 41 a ≤ 8) ∧ V 98 a = V 41 a := ⟨za.1, za.2.1⟩
    have zb1 : (1 ≤ V 41 b ∧ V 41 b ≤ 8) ∧ V 98 b = V 41 b := ⟨zb.1, zb.2.1⟩
    have ea := iv_se_eqm hse hc.2.1.1 hc.2.1.2
    have eb := iv_se_eqm hse hc.2.2.1.1 hc.2.2.1.2
    have ra := iv_se_rgc hp.1 hse hc.2.1.1 hc.2.1.2
    have rb := iv_se_rgc hp.1 hse hc.2.2.1.1 hc.2.2.1.2
    have q32 : V 32 (64 * q) = 1 := (hse q hc.1.1 hc.1.2).2.2.1
    have fin : ∀ (n : Int), ((n = V 41 a ∧ V 41 a ≤ V 41 b) ∨ (n = V 41 b ∧ V 41 b ≤ V 41 a)) → ∀ (U : am_V) (x y : Int → Int), (∀ z, z ≠ 42 → z ≠ 43 → z ≠ 65 → z ≠ 32 → z ≠ 41 → U z = V z) → (∀ j, 0 ≤ j → j ≤ 8 → U 65 j = V 65 j) → (∀ j, U 41 j = if j = q then n else V 41 j) → (∀ j, ¬ (64 * q + 1 ≤ j ∧ j ≤ 64 * q + n) → U 32 j = V 32 j) → (∀ k, 1 ≤ k → k ≤ n → x k = (V 32 (64 * a + k) + p - sr_ls p (fun j => V 32 (64 * a + j)) x w k (k - 1).toNat) % p) → (∀ k, 1 ≤ k → k ≤ n → y k = (V 32 (64 * b + k) + p - sr_ls p (fun j => V 32 (64 * b + j)) y w k (k - 1).toNat) % p) → (∀ k, 1 ≤ k → k ≤ n → U 32 (64 * q + k) = ((x k + y k) % p + sr_ls p (fun j => U 32 (64 * q + j)) (fun j => (x j + y j) % p) w k (k - 1).toNat) % p) → pr_int G (d + 9) 127 [vR 86, vI q, vI a, vI b, vI w] p f0 (some (vI n)) U (am_RF sh) T := by
      intro n hn U x y u1 u65 u41 u32 ux uy ue
      have uu : ∀ z, z ≠ 42 ∧ z ≠ 43 ∧ z ≠ 65 ∧ z ≠ 32 ∧ z ≠ 41 → U z = V z := fun z k => u1 z k.1 k.2.1 k.2.2.1 k.2.2.2.1 k.2.2.2.2
      have em : ∀ s, sr_m U s = sr_m V s := fun s => by unfold sr_m; rw [uu 99 (by decide)]
      have e98 : ∀ s, U 98 s = V 98 s := fun s => by rw [uu 98 (by decide)]
      refine pr_i (by omega) (by rw [uu 0 (by decide)]; exact hJ.1) (s_M_join012 (p := p) h0 h1 h2 h3 hw3 hp (by rw [uu 86 (by decide)]; exact p2) (fun s a b => by rw [e98]; exact hzz s a b) (fun s a b => by rw [em]; exact hmm s a b) (fun q => absurd hc q) (fun _ n' hn' W x' y' w1 w2 w3 w4 wx wy we => ?_))
      rw [e98, e98] at hn'
      obtain rfl : n' = n := by omega
      rw [em] at wx wy
      have wU : ∀ z, z ≠ 98 ∧ z ≠ 99 ∧ z ≠ 100 ∧ z ≠ 102 ∧ z ≠ 86 → W z = U z := fun z k => by rw [w1 z k.1 k.2.1 k.2.2.1 k.2.2.2.1, am_up_ne k.2.2.2.2]
      have w86 : ∀ j, j ≠ 0 → W 86 j = V 86 j := fun j z => by rw [w1 86 (by decide) (by decide) (by decide) (by decide), am_up_at, if_neg z, uu 86 (by decide)]
      have exx : ∀ k, 1 ≤ k → k ≤ n' → x k = x' k := fun k k1 k2 => sr_of_uniq (n := n') (m := fun j => V 32 (64 * a + j)) (m' := sr_m V a) (fun i i1 i2 => ea i i1 (by omega)) ux wx k.toNat k (by omega) k1 k2
      have eyy : ∀ k, 1 ≤ k → k ≤ n' → y k = y' k := fun k k1 k2 => sr_of_uniq (n := n') (m := fun j => V 32 (64 * b + j)) (m' := sr_m V b) (fun i i1 i2 => eb i i1 (by omega)) uy wy k.toNat k (by omega) k1 k2
      have he : ∀ k, 1 ≤ k → k ≤ n' → W 32 (64 * q + k) = sr_m W q k := by
        rw [wU 32 (by decide)]
        have h00 : U 32 (64 * q + 0) = sr_m W q 0 := by
          rw [w4.1, Int.add_zero, u32 _ (by omega)]
          exact q32
        intro k k1 k2
        exact sr_to_uniq (n := n') (m := fun j => U 32 (64 * q + j)) (m' := sr_m W q) (c := fun j => (x j + y j) % p) (c' := fun j => (x' j + y' j) % p) h00 (fun k k1 k2 => by show (x k + y k) % p = (x' k + y' k) % p; rw [exx k k1 k2, eyy k k1 k2]) ue we k.toNat k (by omega) (by omega) k2
      refine pr_k (II_ser (q := q) (n := n') hJ hc.1 (by omega) (fun z k z1 z2 z3 z4 => by rw [wU z ⟨z3, z4, by omega, by omega, by omega⟩, uu z ⟨by omega, by omega, by omega, z1, z2⟩]) (fun j z => by rw [wU 3 (by decide), uu 3 (by decide)]) (fun j z1 z2 => w86 j z1) (fun j j1 j2 => by rw [wU 65 (by decide), u65 j j1 j2]) (by rw [wU 76 (by decide), uu 76 (by decide)]) (fun j => by rw [wU 41 (by decide), u41]) (fun j => by rw [w2, e98]) (fun j z => by rw [wU 32 (by decide), u32 j z]) (fun j z => by rw [w3 j z, uu 99 (by decide)]) w4 he ?_)
      rw [w86 1 (by decide), wU 3 (by decide), uu 3 (by decide)]
      exact hst
    refine am_enter mt_F_join ok_F_join rfl ?_
    have loop : ∀ (n : Int), 1 ≤ n ∧ n ≤ 8 → ((n = V 41 a ∧ V 41 a ≤ V 41 b) ∨ (n = V 41 b ∧ V 41 b ≤ V 41 a)) → ∀ (x y : Int → Int), (∀ k, 1 ≤ k → k ≤ n → (0 ≤ x k ∧ x k < p) ∧ (0 ≤ y k ∧ y k < p)) → (∀ k, 1 ≤ k → k ≤ n → x k = (V 32 (64 * a + k) + p - sr_ls p (fun j => V 32 (64 * a + j)) x w k (k - 1).toNat) % p) → (∀ k, 1 ≤ k → k ≤ n → y k = (V 32 (64 * b + k) + p - sr_ls p (fun j => V 32 (64 * b + j)) y w k (k - 1).toNat) % p) → ∀ (jj : Nat) (k : Int) (W : am_V), 1 ≤ k → k ≤ n + 1 → n + 1 - k < jj → (∀ z, z ≠ 42 → z ≠ 43 → z ≠ 65 → W z = V z) → (∀ j, 0 ≤ j → j ≤ 8 → W 65 j = V 65 j) → (∀ j, k ≤ j → j ≤ n → W 42 j = x j) → (∀ j, 1 ≤ j → j ≤ n → W 43 j = y j) → (∀ j, 1 ≤ j → j < k → W 42 j = (x j + y j) % p) → am_Sem G (d + 8) 21 V T (pr_int G (d + 9) 127 [vR 86, vI q, vI a, vI b, vI w] p f0) 137 [some (vR 3), some (vI q), some (vI a), some (vI b), some (vI w), some (vI n), some (vI w), some (vI k)] [] W (am_RF sh) T 0 0 := by
      intro n hn hnn x y hxy hx hy jj
      induction jj with
      | zero => intro k W a1 a2 a3; omega
      | succ jj ih =>
        intro k W a1 a2 a3 w1 w65 w2 w3 w4
        by_cases hk : k = n + 1
        · have xq : am_up W 41 q n 32 (64 * q) = 1 := by rw [am_up_ne (by decide), w1 32 (by decide) (by decide) (by decide)]; exact q32
          have e42 : am_up W 41 q n 42 = W 42 := am_up_ne (by decide)
          refine am_run 400 mt_F_join ok_F_join (fun K S hK hS => ?_)
          iterate 40 (all_goals (first
            | (refine And.intro (by omega) ?_)
            | (refine And.intro (fun hb => absurd hb (by omega)) (fun hb => ?_))
            | (refine And.intro (fun hb => ?_) (fun hb => absurd hb (by omega)))
            | (refine And.intro (fun hb => ?_) (fun hb => ?_))
            | (intro hb)
            | (conv => whnf)))
          refine hK (s_C_to hp (by rw [am_up_ne (by decide), w1 63 (by decide) (by decide) (by decide)]; exact p3) (by rw [am_up_ne (by decide), w1 64 (by decide) (by decide) (by decide)]; exact p4) hc.1 (by omega) hn xq (fun j j1 j2 => by rw [e42, w4 j j1 (by omega)]; exact m_modr (by omega)) (fun Y y1 y2 y3 y4 y5 => ?_))
          rw [e42] at y5
          iterate 30 (all_goals (first
            | (refine And.intro (by omega) ?_)
            | (refine And.intro (fun hb => absurd hb (by omega)) (fun hb => ?_))
            | (refine And.intro (fun hb => ?_) (fun hb => absurd hb (by omega)))
            | (refine And.intro (fun hb => ?_) (fun hb => ?_))
            | (intro hb)
            | (conv => whnf)))
          refine fin n hnn Y x y (fun z z1 z2 z3 z4 z5 => by rw [y1 z z3 z4, am_up_ne z5, w1 z z1 z2 z3]) (fun j j1 j2 => by rw [y2 j j1 (by omega), am_up_ne (by decide), w65 j j1 j2]) (fun j => by rw [y1 41 (by decide) (by decide), am_up_at, w1 41 (by decide) (by decide) (by decide)]) (fun j z => by rw [y3 j z, am_up_ne (by decide), w1 32 (by decide) (by decide) (by decide)]) hx hy (fun j j1 j2 => ?_)
          rw [y5 j j1 j2, w4 j j1 (by omega), sr_ls_eq (c := W 42) (c' := fun j => (x j + y j) % p) (fun _ _ _ => rfl) _ (by omega) (fun i i1 i2 => w4 i i1 (by omega))]
        · have f3 : W 3 0 = p := by rw [w1 3 (by decide) (by decide) (by decide)]; exact p1
          have fx := w2 k (by omega) (by omega)
          have fy := w3 k a1 (by omega)
          have r := hxy k a1 (by omega)
          have et : Int.tmod (x k + y k) p = (x k + y k) % p := m_tm (by omega)
          refine am_run 400 mt_F_join ok_F_join (fun K S hK hS => ?_)
          iterate 40 (all_goals (first
            | (refine And.intro (by omega) ?_)
            | (refine And.intro (by decide) ?_)
            | (refine And.intro (fun hb => absurd hb (by omega)) (fun hb => ?_))
            | (refine And.intro (fun hb => ?_) (fun hb => absurd hb (by omega)))
            | (refine And.intro (fun hb => ?_) (fun hb => ?_))
            | (intro hb)
            | (simp only [f3, fx, fy, et])
            | (conv => whnf)))
          refine hS (ih (k + 1) _ (by omega) (by omega) (by omega) (fun z z1 z2 z3 => by rw [am_up_ne z1, w1 z z1 z2 z3]) (fun j j1 j2 => by rw [am_up_ne (by decide), w65 j j1 j2]) (fun j j1 j2 => by rw [am_up_at, if_neg (by omega), w2 j (by omega) j2]) (fun j j1 j2 => by rw [am_up_ne (by decide), w3 j j1 j2]) (fun j j1 j2 => ?_))
          rw [am_up_at]
          by_cases z : j = k
          · rw [if_pos z, z]
          · rw [if_neg z, w4 j j1 (by omega)]
    refine am_run 400 mt_F_join ok_F_join (fun K S hK hS => ?_)
    iterate 30 (all_goals (first
      | (refine And.intro (by omega) ?_)
      | (refine And.intro (fun hb => absurd hb (by omega)) (fun hb => ?_))
      | (refine And.intro (fun hb => ?_) (fun hb => absurd hb (by omega)))
      | (refine And.intro (fun hb => ?_) (fun hb => ?_))
      | (intro hb)
      | (conv => whnf)))
    refine hK (s_F_noSeries h0 (fun r hr => ?_))
    iterate 30 (all_goals (first
      | (refine And.intro (by omega) ?_)
      | (refine And.intro (fun hb => absurd hb (by omega)) (fun hb => ?_))
      | (refine And.intro (fun hb => ?_) (fun hb => absurd hb (by omega)))
      | (refine And.intro (fun hb => ?_) (fun hb => ?_))
      | (intro hb)
      | (conv => whnf)))
    refine hK (s_F_noSeries h1 (fun r2 hr2 => ?_))
    iterate 30 (all_goals (first
      | (refine And.intro (by omega) ?_)
      | (refine And.intro (fun hb => absurd hb (by omega)) (fun hb => ?_))
      | (refine And.intro (fun hb => ?_) (fun hb => absurd hb (by omega)))
      | (refine And.intro (fun hb => ?_) (fun hb => ?_))
      | (intro hb)
      | (conv => whnf)))
    refine hK (s_F_noSeries h2 (fun r3 hr3 => ?_))
    iterate 60 (all_goals (first
      | (refine And.intro (by omega) ?_)
      | (refine And.intro (fun hb => absurd hb (by omega)) (fun hb => ?_))
      | (refine And.intro (fun hb => ?_) (fun hb => absurd hb (by omega)))
      | (refine And.intro (fun hb => ?_) (fun hb => ?_))
      | (intro hb)
      | (conv => whnf)))
    all_goals (refine hK (s_C_of42 hp p3 p4 hc.2.1 (by omega) (by omega) ⟨ra.1, fun j j1 j2 => ra.2 j j1 (by omega)⟩ (fun W w1 w2 w3 w4 => ?_)))
    all_goals (have eW : (fun j => W 32 (64 * b + j)) = (fun j => V 32 (64 * b + j)) := (by rw [w1 32 (by decide) (by decide)]))
    iterate 60 (all_goals (first
      | (refine And.intro (by omega) ?_)
      | (refine And.intro (fun hb => absurd hb (by omega)) (fun hb => ?_))
      | (refine And.intro (fun hb => ?_) (fun hb => absurd hb (by omega)))
      | (refine And.intro (fun hb => ?_) (fun hb => ?_))
      | (intro hb)
      | (conv => whnf)))
    all_goals (refine hK (s_C_of43 hp (by rw [w1 63 (by decide) (by decide)]; exact p3) (by rw [w1 64 (by decide) (by decide)]; exact p4) hc.2.2.1 (by omega) (by omega) (by rw [eW]; exact ⟨rb.1, fun j j1 j2 => rb.2 j j1 (by omega)⟩) (fun U u1 u2 u3 u4 => ?_)))
    all_goals (rw [eW, w1 32 (by decide) (by decide)] at u4)
    iterate 60 (all_goals (first
      | (refine And.intro (by omega) ?_)
      | (refine And.intro (fun hb => absurd hb (by omega)) (fun hb => ?_))
      | (refine And.intro (fun hb => ?_) (fun hb => absurd hb (by omega)))
      | (refine And.intro (fun hb => ?_) (fun hb => ?_))
      | (intro hb)
      | (conv => whnf)))
    all_goals exact hS (loop _ (by omega) (by omega) (W 42) (U 43) (fun k k1 k2 => ⟨w3 k k1 k2, u3 k k1 k2⟩) w4 u4 9 1 U (by omega) (by omega) (by omega) (fun z z1 z2 z3 => by rw [u1 z z3 z2, w1 z z3 z1]) (fun j j1 j2 => by rw [u2 j j1 (by omega), w2 j j1 (by omega)]) (fun j j1 j2 => by rw [u1 42 (by decide) (by decide)]) (fun j j1 j2 => rfl) (fun j j1 j2 => absurd j2 (by omega)))
  · have bad : pr_int G (d + 9) 127 [vR 86, vI q, vI a, vI b, vI w] p f0 (some (vI (-1000001))) V (am_RF sh) T := pr_i (by omega) hJ.1 (s_M_join012 (p := p) h0 h1 h2 h3 hw3 hp p2 hzz hmm (fun _ => pr_k (II_bad hI)) (fun q => absurd q hc))
    refine am_enter mt_F_join ok_F_join rfl ?_
    refine am_run 400 mt_F_join ok_F_join (fun K S hK hS => ?_)
    iterate 30 (all_goals (first
      | (refine And.intro (by omega) ?_)
      | (refine And.intro (fun hb => absurd hb (by omega)) (fun hb => ?_))
      | (refine And.intro (fun hb => ?_) (fun hb => absurd hb (by omega)))
      | (refine And.intro (fun hb => ?_) (fun hb => ?_))
      | (intro hb)
      | (conv => whnf)))
    refine hK (s_F_noSeries h0 (fun r hr => ?_))
    iterate 30 (all_goals (first
      | (refine And.intro (by omega) ?_)
      | (refine And.intro (fun hb => absurd hb (by omega)) (fun hb => ?_))
      | (refine And.intro (fun hb => ?_) (fun hb => absurd hb (by omega)))
      | (refine And.intro (fun hb => ?_) (fun hb => ?_))
      | (intro hb)
      | (conv => whnf)))
    · exact bad
    refine hK (s_F_noSeries h1 (fun r2 hr2 => ?_))
    iterate 30 (all_goals (first
      | (refine And.intro (by omega) ?_)
      | (refine And.intro (fun hb => absurd hb (by omega)) (fun hb => ?_))
      | (refine And.intro (fun hb => ?_) (fun hb => absurd hb (by omega)))
      | (refine And.intro (fun hb => ?_) (fun hb => ?_))
      | (intro hb)
      | (conv => whnf)))
    · exact bad
    refine hK (s_F_noSeries h2 (fun r3 hr3 => ?_))
    iterate 30 (all_goals (first
      | (refine And.intro (by omega) ?_)
      | (refine And.intro (fun hb => absurd hb (by omega)) (fun hb => ?_))
      | (refine And.intro (fun hb => ?_) (fun hb => absurd hb (by omega)))
      | (refine And.intro (fun hb => ?_) (fun hb => ?_))
      | (intro hb)
      | (conv => whnf)))
    all_goals exact bad
