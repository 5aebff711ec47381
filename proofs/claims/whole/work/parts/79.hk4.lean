/-! hankel, both sides -/
theorem hk_rng {p n : Int} (hp : 1 < p) : ∀ (f : Nat) (c : Int) (t : Int → Int → Int) (e : Int), 0 ≤ e ∧ e < p → 0 ≤ hk p n f c t e ∧ hk p n f c t e < p
  | 0, _, _, _, h => h
  | f + 1, c, t, e, h => by
    unfold hk
    split
    · omega
    · exact hk_rng hp f _ _ _ (m_modr (by omega))
theorem pr_hankel {G : am_G} {d : Nat} {sh : Int → Option Nat} {V : am_V} {T : Nat} {p : Int} {f0 : Int → Int} {s k : Int} (hI : II V sh T p f0) (h0 : am_in32 s) (h1 : am_in32 k) : am_Calls G (d + 9) 23 [vR 3, vI s, vI k] V (am_RF sh) T (pr_long G (d + 9) 131 [vR 86, vI s, vI k] p f0) := by
  have hJ := hI.1
  have hst := hI.2
  have hse := hJ.2.2.2.2.2.1
  obtain ⟨p1, p2, p3, p4, p5, p6, p7⟩ := hJ.2.2.2.2.2.2.1
  have hp : 101 ≤ p ∧ p ≤ 2000000000 := ⟨p6, p7⟩
  have hzz : ∀ s, 0 ≤ s → s < 8 → 1 ≤ V 98 s ∧ V 98 s ≤ 8 := fun s a b => by
    have := hse s a b
    omega
  have hmm : ∀ s, 0 ≤ s → s < 8 → sr_rg p (sr_m V s) 8 := fun s a b => iv_se_rg (by omega) hse a b
  by_cases hs : 0 ≤ s ∧ s < 8
  · have z := hse s hs.1 hs.2
    have z1 : (1 ≤ V 41 s ∧ V 41 s ≤ 8) ∧ V 98 s = V 41 s := ⟨z.1, z.2.1⟩
    have eqm := iv_se_eqm hse hs.1 hs.2
    have hms := hmm s hs.1 hs.2
    have rgm : ∀ j, 0 ≤ j → j ≤ 8 → 0 ≤ sr_m V s j ∧ sr_m V s j < p := fun j a b => by
      by_cases z : j = 0
      · rw [z, hms.1]; omega
      · exact hms.2 j (by omega) b
    by_cases hkk : 0 ≤ k ∧ 2 * k ≤ V 41 s
    · have dv : k ≤ V 41 s / 2 := by omega
      obtain ⟨D, hD⟩ : ∃ D, D = hk p (k + 1) (k + 1).toNat 0 (fun i j => sr_m V s (i + j)) 1 := ⟨_, rfl⟩
      have fin : am_in64 D → ∀ U : am_V, (∀ x, x ≠ 44 → U x = V x) → pr_long G (d + 9) 131 [vR 86, vI s, vI k] p f0 (some (vJ D)) U (am_RF sh) T := by
        intro rD U u1
        have em : ∀ s, sr_m U s = sr_m V s := fun s => by unfold sr_m; rw [u1 99 (by decide)]
        have e98 : ∀ s, U 98 s = V 98 s := fun s => by rw [u1 98 (by decide)]
        refine pr_j rD (by rw [u1 0 (by decide)]; exact hJ.1) (s_M_hankel h0 h1 hp (by rw [u1 86 (by decide)]; exact p2) (fun s a b => by rw [e98]; exact hzz s a b) (fun s a b => by rw [em]; exact hmm s a b) (fun q => absurd ⟨hs, by rw [e98]; omega⟩ q) (fun _ X x1 => ?_))
        rw [em, ← hD]
        have xV : ∀ a, a ≠ 103 → a ≠ 86 → a ≠ 44 → X a = V a := fun a q1 q2 q3 => by rw [x1 a q1, am_up_ne q2, u1 a q3]
        have x86 : ∀ j, j ≠ 0 → X 86 j = V 86 j := fun j q => by rw [x1 86 (by decide), am_up_at, if_neg q, u1 86 (by decide)]
        refine pr_k (II_rd hI (fun a q => xV a (by omega) (by omega) (by omega)) (fun j q => by rw [xV 3 (by decide) (by decide) (by decide)]) (fun j q1 q2 => x86 j q1) (xV 65 (by decide) (by decide) (by decide)) (xV 76 (by decide) (by decide) (by decide)) ?_)
        rw [x86 1 (by decide), xV 3 (by decide) (by decide) (by decide)]
        exact hst
      refine am_enter mt_F_hankel ok_F_hankel rfl ?_
      have loop : ∀ (jj : Nat) (i : Int) (W : am_V), 0 ≤ i → i ≤ k + 1 → k + 1 - i < jj → (∀ x, x ≠ 44 → W x = V x) → (∀ a b, 0 ≤ a → a < i → 0 ≤ b → b < k + 1 → hk_F W a b = sr_m V s (a + b)) → am_Sem G (d + 8) 23 V T (pr_long G (d + 9) 131 [vR 86, vI s, vI k] p f0) 29 [some (vR 3), some (vI s), some (vI k), some (vI i)] [] W (am_RF sh) T 0 0 := by
        intro jj
        induction jj with
        | zero => intro i W a1 a2 a3; omega
        | succ jj ih =>
          intro i W a1 a2 a3 w1 w2
          by_cases hik : i = k + 1
          · have eqt : hk_eq (k + 1) (hk_F W) (fun i j => sr_m V s (i + j)) := fun a b z0 z1 z2 z3 => w2 a b z0 (by omega) z2 z3
            have hrg : hk_rg p (k + 1) (hk_F W) := fun a b z0 z1 z2 z3 => by rw [eqt a b z0 z1 z2 z3]; exact rgm _ (by omega) (by omega)
            have eD : hk p (k + 1) (k + 1).toNat 0 (hk_F W) 1 = D := by rw [hk_congr (k + 1).toNat 0 _ _ 1 (by omega) (by omega) eqt, hD]
            have rD : am_in64 D := by
              rw [hD]
              have := hk_rng (p := p) (n := k + 1) (by omega) (k + 1).toNat 0 (fun i j => sr_m V s (i + j)) 1 (by omega)
              constructor <;> omega
            refine am_run 400 mt_F_hankel ok_F_hankel (fun K S hK hS => ?_)
            iterate 30 (all_goals (first
              | (refine And.intro (by omega) ?_)
              | (refine And.intro (fun hb => absurd hb (by omega)) (fun hb => ?_))
              | (refine And.intro (fun hb => ?_) (fun hb => absurd hb (by omega)))
              | (refine And.intro (fun hb => ?_) (fun hb => ?_))
              | (intro hb)
              | (conv => whnf)))
            refine hK (s_F_determinant hp (by rw [w1 3 (by decide)]; exact p1) (by omega) hrg (fun U u1 => ?_))
            rw [eD]
            iterate 30 (all_goals (first
              | (refine And.intro (by omega) ?_)
              | (refine And.intro (fun hb => absurd hb (by omega)) (fun hb => ?_))
              | (refine And.intro (fun hb => ?_) (fun hb => absurd hb (by omega)))
              | (refine And.intro (fun hb => ?_) (fun hb => ?_))
              | (intro hb)
              | (conv => whnf)))
            exact fin rD U (fun x hx => by rw [u1 x hx, w1 x hx])
          · refine am_run 400 mt_F_hankel ok_F_hankel (fun K S hK hS => ?_)
            iterate 30 (all_goals (first
              | (refine And.intro (by omega) ?_)
              | (refine And.intro (fun hb => absurd hb (by omega)) (fun hb => ?_))
              | (refine And.intro (fun hb => ?_) (fun hb => absurd hb (by omega)))
              | (refine And.intro (fun hb => ?_) (fun hb => ?_))
              | (intro hb)
              | (conv => whnf)))
            refine hS (ih (i + 1) _ (by omega) (by omega) (by omega) (fun x hx => ?_) (fun a b z0 z1 z2 z3 => ?_))
            · funext y
              unfold am_cpy
              rw [if_neg hx, w1 x hx]
            · show am_cpy W 32 (64 * s + i) 44 (64 * i + 0) (k + 1) 44 (64 * a + b) = _
              unfold am_cpy
              rw [if_pos rfl]
              by_cases z : a = i
              · rw [if_pos (by omega), w1 32 (by decide), show 64 * s + i + (64 * a + b - (64 * i + 0)) = 64 * s + (a + b) by omega, eqm (a + b) (by omega) (by omega)]
              · rw [if_neg (by omega)]
                exact w2 a b z0 (by omega) z2 z3
      refine am_run 400 mt_F_hankel ok_F_hankel (fun K S hK hS => ?_)
      iterate 30 (all_goals (first
        | (refine And.intro (by omega) ?_)
        | (refine And.intro (fun hb => absurd hb (by omega)) (fun hb => ?_))
        | (refine And.intro (fun hb => ?_) (fun hb => absurd hb (by omega)))
        | (refine And.intro (fun hb => ?_) (fun hb => ?_))
        | (intro hb)
        | (conv => whnf)))
      refine hK (s_F_noSeries h0 (fun r hr => ?_))
      iterate 30 (all_goals (first
        | (refine And.intro (by omega) ?_)
        | (refine And.intro (fun hb => absurd hb (by omega)) (fun hb => ?_))
        | (refine And.intro (fun hb => ?_) (fun hb => absurd hb (by omega)))
        | (refine And.intro (fun hb => ?_) (fun hb => ?_))
        | (intro hb)
        | (conv => whnf)))
      exact hS (loop (k + 2).toNat 0 V (by omega) (by omega) (by omega) (fun _ _ => rfl) (fun a b z0 z1 => absurd z1 (by omega)))
    · have bad : pr_long G (d + 9) 131 [vR 86, vI s, vI k] p f0 (some (vJ (-1000001))) V (am_RF sh) T := pr_j (by omega) hJ.1 (s_M_hankel h0 h1 hp p2 hzz hmm (fun _ => pr_k (II_bad hI)) (fun q => absurd q (by omega)))
      refine am_enter mt_F_hankel ok_F_hankel rfl ?_
      refine am_run 400 mt_F_hankel ok_F_hankel (fun K S hK hS => ?_)
      iterate 30 (all_goals (first
        | (refine And.intro (by omega) ?_)
        | (refine And.intro (fun hb => absurd hb (by omega)) (fun hb => ?_))
        | (refine And.intro (fun hb => ?_) (fun hb => absurd hb (by omega)))
        | (refine And.intro (fun hb => ?_) (fun hb => ?_))
        | (intro hb)
        | (conv => whnf)))
      refine hK (s_F_noSeries h0 (fun r hr => ?_))
      iterate 30 (all_goals (first
        | (refine And.intro (by omega) ?_)
        | (refine And.intro (fun hb => absurd hb (by omega)) (fun hb => ?_))
        | (refine And.intro (fun hb => ?_) (fun hb => absurd hb (by omega)))
        | (refine And.intro (fun hb => ?_) (fun hb => ?_))
        | (intro hb)
        | (conv => whnf)))
      all_goals exact bad
  · have bad : pr_long G (d + 9) 131 [vR 86, vI s, vI k] p f0 (some (vJ (-1000001))) V (am_RF sh) T := pr_j (by omega) hJ.1 (s_M_hankel h0 h1 hp p2 hzz hmm (fun _ => pr_k (II_bad hI)) (fun q => absurd q.1 hs))
    refine am_enter mt_F_hankel ok_F_hankel rfl ?_
    refine am_run 400 mt_F_hankel ok_F_hankel (fun K S hK hS => ?_)
    iterate 30 (all_goals (first
      | (refine And.intro (by omega) ?_)
      | (refine And.intro (fun hb => absurd hb (by omega)) (fun hb => ?_))
      | (refine And.intro (fun hb => ?_) (fun hb => absurd hb (by omega)))
      | (refine And.intro (fun hb => ?_) (fun hb => ?_))
      | (intro hb)
      | (conv => whnf)))
    refine hK (s_F_noSeries h0 (fun r hr => ?_))
    iterate 30 (all_goals (first
      | (refine And.intro (by omega) ?_)
      | (refine And.intro (fun hb => absurd hb (by omega)) (fun hb => ?_))
      | (refine And.intro (fun hb => ?_) (fun hb => absurd hb (by omega)))
      | (refine And.intro (fun hb => ?_) (fun hb => ?_))
      | (intro hb)
      | (conv => whnf)))
    exact bad
