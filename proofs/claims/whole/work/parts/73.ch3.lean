/-! change: the class beside the reference -/
theorem pr_change {G : am_G} {d : Nat} {sh : Int → Option Nat} {V : am_V} {T : Nat} {p : Int} {f0 : Int → Int} {q f w c : Int} (hI : II V sh T p f0) (h0 : am_in32 q) (h1 : am_in32 f) (h2 : am_in32 w) (h3 : am_in32 c) : am_Calls G (d + 9) 22 [vR 3, vI q, vI f, vI w, vI c] V (am_RF sh) T (pr_int G (d + 9) 129 [vR 86, vI q, vI f, vI w, vI c] p f0) := by
  have hJ := hI.1
  have hst := hI.2
  have hse := hJ.2.2.2.2.2.1
  obtain ⟨p1, p2, p3, p4, p5, p6, p7⟩ := hJ.2.2.2.2.2.2.1
  have hp : 1 < p ∧ p ≤ 2000000000 := by omega
  have hzz : ∀ s, 0 ≤ s → s < 8 → 1 ≤ V 98 s ∧ V 98 s ≤ 8 := fun s a b => by
    have := hse s a b
    omega
  have hmm : ∀ s, 0 ≤ s → s < 8 → sr_rg p (sr_m V s) 8 := fun s a b => iv_se_rg hp.1 hse a b
  by_cases hc : (0 ≤ q ∧ q < 8) ∧ (0 ≤ f ∧ f < 8) ∧ (0 ≤ w ∧ w ≤ 1) ∧ 0 ≤ c ∧ c < p
  · have zf := hse f hc.2.1.1 hc.2.1.2
    have zf1 : (1 ≤ V 41 f ∧ V 41 f ≤ 8) ∧ V 98 f = V 41 f := ⟨zf.1, zf.2.1⟩
    have eqm := iv_se_eqm hse hc.2.1.1 hc.2.1.2
    have rgc := iv_se_rgc hp.1 hse hc.2.1.1 hc.2.1.2
    have q32 : V 32 (64 * q) = 1 := (hse q hc.1.1 hc.1.2).2.2.1
    obtain ⟨n, hn⟩ : ∃ n, n = V 41 f := ⟨_, rfl⟩
    rw [← hn] at zf1 eqm rgc
    have fin : ∀ (U : am_V) (y : Int → Int), (∀ a, a ≠ 42 → a ≠ 65 → a ≠ 32 → a ≠ 41 → U a = V a) → (∀ j, 0 ≤ j → j ≤ 8 → U 65 j = V 65 j) → (∀ j, U 41 j = if j = q then n else V 41 j) → (∀ j, ¬ (64 * q + 1 ≤ j ∧ j ≤ 64 * q + n) → U 32 j = V 32 j) → ((w = 0 ∧ ∀ k, 1 ≤ k → k ≤ n → U 32 (64 * q + k) = V 32 (64 * f + k) * sr_fc p c c (k - 1).toNat % p) ∨ (w = 1 ∧ (∀ k, 1 ≤ k → k ≤ n → y k = (V 32 (64 * f + k) + p - sr_ls p (fun j => V 32 (64 * f + j)) y 1 k (k - 1).toNat) % p) ∧ (∀ k, 1 ≤ k → k ≤ n → U 32 (64 * q + k) = (y k * sr_fc p 1 c (k - 1).toNat % p + sr_ls p (fun j => U 32 (64 * q + j)) (fun j => y j * sr_fc p 1 c (j - 1).toNat % p) 1 k (k - 1).toNat) % p))) → pr_int G (d + 9) 129 [vR 86, vI q, vI f, vI w, vI c] p f0 (some (vI n)) U (am_RF sh) T := by
      intro U y u1 u65 u41 u32 ue
      have uu : ∀ a, a ≠ 42 ∧ a ≠ 65 ∧ a ≠ 32 ∧ a ≠ 41 → U a = V a := fun a z => u1 a z.1 z.2.1 z.2.2.1 z.2.2.2
      have em : ∀ s, sr_m U s = sr_m V s := fun s => by unfold sr_m; rw [uu 99 (by decide)]
      have e98 : ∀ s, U 98 s = V 98 s := fun s => by rw [uu 98 (by decide)]
      refine pr_i (by omega) (by rw [uu 0 (by decide)]; exact hJ.1) (s_M_change (p := p) h0 h1 h2 h3 ⟨p6, p7⟩ (by rw [uu 86 (by decide)]; exact p2) (fun s a b => by rw [e98]; exact hzz s a b) (fun s a b => by rw [em]; exact hmm s a b) (fun q => absurd hc q) (fun _ W x w1 w2 w3 w4 w5 => ?_))
      rw [e98, zf1.2] at w2 w3 w5 ⊢
      rw [em] at w5
      have wU : ∀ a, a ≠ 98 ∧ a ≠ 99 ∧ a ≠ 100 ∧ a ≠ 101 ∧ a ≠ 102 ∧ a ≠ 86 → W a = U a := fun a z => by rw [w1 a z.1 z.2.1 z.2.2.1 z.2.2.2.1 z.2.2.2.2.1, am_up_ne z.2.2.2.2.2]
      have w86 : ∀ j, j ≠ 0 → W 86 j = V 86 j := fun j z => by rw [w1 86 (by decide) (by decide) (by decide) (by decide) (by decide), am_up_at, if_neg z, uu 86 (by decide)]
      have he : ∀ k, 1 ≤ k → k ≤ n → W 32 (64 * q + k) = sr_m W q k := by
        rw [wU 32 (by decide)]
        rcases ue with ⟨z1, z2⟩ | ⟨z1, z2, z3⟩ <;> rcases w5 with ⟨z4, z5⟩ | ⟨z4, z5, z6⟩
        · intro k a b; rw [z2 k a b, z5 k a b, eqm k (by omega) b]
        · omega
        · omega
        · have exy : ∀ k, 1 ≤ k → k ≤ n → y k = x k := fun k a b => sr_of_uniq (n := n) (m := fun j => V 32 (64 * f + j)) (m' := sr_m V f) (fun i a b => eqm i a b) z2 z5 k.toNat k (by omega) a b
          have h00 : U 32 (64 * q + 0) = sr_m W q 0 := by
            rw [w4.1, Int.add_zero, u32 _ (by omega)]
            exact q32
          intro k a b
          exact sr_to_uniq (n := n) (m := fun j => U 32 (64 * q + j)) (m' := sr_m W q) (c := fun j => y j * sr_fc p 1 c (j - 1).toNat % p) (c' := fun j => x j * sr_fc p 1 c (j - 1).toNat % p) h00 (fun k a b => by show y k * _ % p = x k * _ % p; rw [exy k a b]) z3 z6 k.toNat k (by omega) (by omega) b
      refine pr_k (II_ser (q := q) (n := n) hJ hc.1 (by omega) (fun a z z1 z2 z3 z4 => by rw [wU a ⟨z3, z4, by omega, by omega, by omega, by omega⟩, uu a ⟨by omega, by omega, z1, z2⟩]) (fun j z => by rw [wU 3 (by decide), uu 3 (by decide)]) (fun j z1 z2 => w86 j z1) (fun j a b => by rw [wU 65 (by decide), u65 j a b]) (by rw [wU 76 (by decide), uu 76 (by decide)]) (fun j => by rw [wU 41 (by decide), u41]) (fun j => by rw [w2, e98]) (fun j z => by rw [wU 32 (by decide), u32 j z]) (fun j z => by rw [w3 j z, uu 99 (by decide)]) w4 he ?_)
      rw [w86 1 (by decide), wU 3 (by decide), uu 3 (by decide)]
      exact hst
    have e41f : V 41 f = n := hn.symm
    have g41 : ∀ k v, am_up V 41 k v 3 0 = p := fun k v => by rw [am_up_ne (by decide)]; exact p1
    refine am_enter mt_F_change ok_F_change rfl ?_
    refine am_run 400 mt_F_change ok_F_change (fun K S hK hS => ?_)
    iterate 30 (all_goals (first
      | (refine And.intro (by omega) ?_)
      | (refine And.intro (fun hb => absurd hb (by omega)) (fun hb => ?_))
      | (refine And.intro (fun hb => ?_) (fun hb => absurd hb (by omega)))
      | (refine And.intro (fun hb => ?_) (fun hb => ?_))
      | (intro hb)
      | (conv => whnf)))
    refine hK (s_F_noSeries h0 (fun r hr => ?_))
    iterate 30 (all_goals (first
      | (refine And.intro (by omega) ?_)
      | (refine And.intro (fun hb => absurd hb (by omega)) (fun hb => ?_))
      | (refine And.intro (fun hb => ?_) (fun hb => absurd hb (by omega)))
      | (refine And.intro (fun hb => ?_) (fun hb => ?_))
      | (intro hb)
      | (conv => whnf)))
    refine hK (s_F_noSeries h1 (fun r2 hr2 => ?_))
    by_cases hw : w = 0
    · iterate 60 (all_goals (first
        | (simp only [am_st2, am_st1, am_set, am_cut, am_get])
        | (refine And.intro (by omega) ?_)
        | (refine And.intro (by decide) ?_)
        | (refine And.intro (fun hb => absurd hb (by omega)) (fun hb => ?_))
        | (refine And.intro (fun hb => ?_) (fun hb => absurd hb (by omega)))
        | (refine And.intro (fun hb => ?_) (fun hb => ?_))
        | (intro hb)
        | (simp only [p1, e41f])
        | (conv => whnf)))
      refine hK (s_F_mulRow (p := p) (a := f) (b := q) hp (g41 _ _) hc.2.1 hc.1 (by omega) hc.2.2.2 hc.2.2.2 (fun k a b => by rw [am_up_ne (by decide)]; exact rgc.2 k a (by omega)) (fun U u1 u2 u3 => ?_))
      iterate 30 (all_goals (first
        | (simp only [am_st2, am_st1, am_set, am_cut, am_get])
        | (refine And.intro (by omega) ?_)
        | (refine And.intro (fun hb => absurd hb (by omega)) (fun hb => ?_))
        | (refine And.intro (fun hb => ?_) (fun hb => absurd hb (by omega)))
        | (refine And.intro (fun hb => ?_) (fun hb => ?_))
        | (intro hb)
        | (conv => whnf)))
      refine fin U (fun _ => 0) (fun a z1 z2 z3 z4 => by rw [u1 a z3, am_up_ne z4]) (fun j _ _ => by rw [u1 65 (by decide), am_up_ne (by decide)]) (fun j => by rw [u1 41 (by decide), am_up_at]) (fun j z => by rw [u2 j z, am_up_ne (by decide)]) (Or.inl ⟨hw, fun k a b => ?_⟩)
      rw [u3 k a b, am_up_ne (by decide)]
    · iterate 60 (all_goals (first
        | (simp only [am_st2, am_st1, am_set, am_cut, am_get])
        | (refine And.intro (by omega) ?_)
        | (refine And.intro (by decide) ?_)
        | (refine And.intro (fun hb => absurd hb (by omega)) (fun hb => ?_))
        | (refine And.intro (fun hb => ?_) (fun hb => absurd hb (by omega)))
        | (refine And.intro (fun hb => ?_) (fun hb => ?_))
        | (intro hb)
        | (simp only [p1, e41f])
        | (conv => whnf)))
      have e32' : am_up V 41 q n 32 = V 32 := am_up_ne (by decide)
      refine hK (s_C_of42 hp (by rw [am_up_ne (by decide)]; exact p3) (by rw [am_up_ne (by decide)]; exact p4) hc.2.1 (by omega) (by omega) (by rw [e32']; exact rgc) (fun U u1 u2 u3 u4 => ?_))
      rw [e32'] at u4
      iterate 30 (all_goals (first
        | (simp only [am_st2, am_st1, am_set, am_cut, am_get])
        | (refine And.intro (by omega) ?_)
        | (refine And.intro (fun hb => absurd hb (by omega)) (fun hb => ?_))
        | (refine And.intro (fun hb => ?_) (fun hb => absurd hb (by omega)))
        | (refine And.intro (fun hb => ?_) (fun hb => ?_))
        | (intro hb)
        | (conv => whnf)))
      refine hK (s_F_mulLeft (p := p) hp (by rw [u1 3 (by decide) (by decide)]; exact g41 _ _) (by omega) hc.2.2.2 (by omega) (fun k a b => u3 k a b) (fun X x1 x2 x3 => ?_))
      iterate 30 (all_goals (first
        | (simp only [am_st2, am_st1, am_set, am_cut, am_get])
        | (refine And.intro (by omega) ?_)
        | (refine And.intro (fun hb => absurd hb (by omega)) (fun hb => ?_))
        | (refine And.intro (fun hb => ?_) (fun hb => absurd hb (by omega)))
        | (refine And.intro (fun hb => ?_) (fun hb => ?_))
        | (intro hb)
        | (conv => whnf)))
      have xq : X 32 (64 * q) = 1 := by rw [x1 32 (by decide), u1 32 (by decide) (by decide), am_up_ne (by decide)]; exact q32
      refine hK (s_C_to hp (by rw [x1 63 (by decide), u1 63 (by decide) (by decide), am_up_ne (by decide)]; exact p3) (by rw [x1 64 (by decide), u1 64 (by decide) (by decide), am_up_ne (by decide)]; exact p4) hc.1 (by omega) (by omega) xq (fun k a b => by rw [x3 k a b]; exact m_modr (by omega)) (fun Y y1 y2 y3 y4 y5 => ?_))
      iterate 30 (all_goals (first
        | (simp only [am_st2, am_st1, am_set, am_cut, am_get])
        | (refine And.intro (by omega) ?_)
        | (refine And.intro (fun hb => absurd hb (by omega)) (fun hb => ?_))
        | (refine And.intro (fun hb => ?_) (fun hb => absurd hb (by omega)))
        | (refine And.intro (fun hb => ?_) (fun hb => ?_))
        | (intro hb)
        | (conv => whnf)))
      refine fin Y (U 42) (fun a z1 z2 z3 z4 => by rw [y1 a z2 z3, x1 a z1, u1 a z2 z1, am_up_ne z4]) (fun j a b => by rw [y2 j a (by omega), x1 65 (by decide), u2 j a (by omega), am_up_ne (by decide)]) (fun j => by rw [y1 41 (by decide) (by decide), x1 41 (by decide), u1 41 (by decide) (by decide), am_up_at]) (fun j z => by rw [y3 j z, x1 32 (by decide), u1 32 (by decide) (by decide), am_up_ne (by decide)]) (Or.inr ⟨by omega, u4, fun k a b => ?_⟩)
      rw [y5 k a b, x3 k a b, sr_ls_eq (c := X 42) (c' := fun j => U 42 j * sr_fc p 1 c (j - 1).toNat % p) (fun _ _ _ => rfl) _ (by omega) (fun i i1 i2 => x3 i i1 (by omega))]
  · have bad : pr_int G (d + 9) 129 [vR 86, vI q, vI f, vI w, vI c] p f0 (some (vI (-1000001))) V (am_RF sh) T := pr_i (by omega) hJ.1 (s_M_change (p := p) h0 h1 h2 h3 ⟨p6, p7⟩ p2 hzz hmm (fun _ => pr_k (II_bad hI)) (fun q => absurd q hc))
    refine am_enter mt_F_change ok_F_change rfl ?_
    refine am_run 400 mt_F_change ok_F_change (fun K S hK hS => ?_)
    iterate 30 (all_goals (first
      | (refine And.intro (by omega) ?_)
      | (refine And.intro (fun hb => absurd hb (by omega)) (fun hb => ?_))
      | (refine And.intro (fun hb => ?_) (fun hb => absurd hb (by omega)))
      | (refine And.intro (fun hb => ?_) (fun hb => ?_))
      | (intro hb)
      | (conv => whnf)))
    refine hK (s_F_noSeries h0 (fun r hr => ?_))
    iterate 30 (all_goals (first
      | (refine And.intro (by omega) ?_)
      | (refine And.intro (fun hb => absurd hb (by omega)) (fun hb => ?_))
      | (refine And.intro (fun hb => ?_) (fun hb => absurd hb (by omega)))
      | (refine And.intro (fun hb => ?_) (fun hb => ?_))
      | (intro hb)
      | (conv => whnf)))
    · exact bad
    refine hK (s_F_noSeries h1 (fun r2 hr2 => ?_))
    iterate 40 (all_goals (first
      | (refine And.intro (by omega) ?_)
      | (refine And.intro (by decide) ?_)
      | (refine And.intro (fun hb => absurd hb (by omega)) (fun hb => ?_))
      | (refine And.intro (fun hb => ?_) (fun hb => absurd hb (by omega)))
      | (refine And.intro (fun hb => ?_) (fun hb => ?_))
      | (intro hb)
      | (simp only [p1])
      | (conv => whnf)))
    all_goals exact bad
