/-! mean, both sides -/
theorem m_modkey (L a b p : Int) : (L + a * b % p) % p = (L + a * (b % p)) % p := by
  have h1 : a * (b % p) % p = a * b % p := by rw [Int.mul_emod, Int.emod_emod_of_dvd b (Int.dvd_refl p), ← Int.mul_emod]
  rw [Int.add_emod L (a * b % p), Int.emod_emod_of_dvd (a * b) (Int.dvd_refl p), ← h1, ← Int.add_emod]
theorem pr_mean {G : am_G} {d : Nat} {sh : Int → Option Nat} {V : am_V} {T : Nat} {p : Int} {f0 : Int → Int} {h x : Int} (hI : II V sh T p f0) (h0 : am_in32 h) (h1 : am_in32 x) : am_Calls G (d + 9) 26 [vR 3, vI h, vI x] V (am_RF sh) T (pr_long G (d + 9) 135 [vR 86, vI h, vI x] p f0) := by
  have hJ := hI.1
  have hq := hJ.2.2.2.2.2.2.2.2
  obtain ⟨p1, p2, p3, p4, p5, p6, p7⟩ := hJ.2.2.2.2.2.2.1
  have hp : 1 < p ∧ p ≤ 2000000000 := by omega
  have fin : ∀ (W : am_V), (∀ a, a ≠ 104 → W a = am_up V 86 0 0 a) → II W sh T p f0 := fun W w1 => II_rd (II_bad hI) (fun a q => w1 a (by omega)) (fun j q => by rw [w1 3 (by decide)]) (fun j q1 q2 => by rw [w1 86 (by decide)]) (w1 65 (by decide)) (w1 76 (by decide)) (by rw [w1 86 (by decide), w1 3 (by decide)]; exact (II_bad hI).2)
  by_cases hc : (1 ≤ h ∧ h ≤ 10) ∧ 0 ≤ x ∧ x ≤ 1000
  · refine am_enter mt_F_mean ok_F_mean rfl ?_
    have loop : ∀ (jj : Nat) (g : Int), 0 ≤ g → g ≤ h / 2 + 1 → h / 2 + 1 - g < jj → am_Sem G (d + 8) 26 V T (pr_long G (d + 9) 135 [vR 86, vI h, vI x] p f0) 27 [some (vR 3), some (vI h), some (vI x), some (vJ (mn_s p h x g.toNat)), none, some (vI g)] [] V (am_RF sh) T 0 0 := by
      intro jj
      induction jj with
      | zero => intro g a1 a2 a3; omega
      | succ jj ih =>
        intro g a1 a2 a3
        have rs := mn_rg (p := p) (h := h) (x := x) (by omega) g.toNat
        by_cases hg : g = h / 2 + 1
        · have rr : am_in64 (mn_s p h x g.toNat) := by constructor <;> omega
          have ff : pr_long G (d + 9) 135 [vR 86, vI h, vI x] p f0 (some (vJ (mn_s p h x g.toNat))) V (am_RF sh) T := pr_j rr hJ.1 (s_M_mean (p := p) h0 h1 hp p2 (fun q => absurd hc q) (fun _ W w1 => by rw [hg]; exact pr_k (fin W w1)))
          refine am_run 400 mt_F_mean ok_F_mean (fun K S hK hS => ?_)
          iterate 30 (all_goals (first
            | (simp only [am_st2, am_st1, am_set, am_cut, am_get])
            | (refine And.intro (by omega) ?_)
            | (refine And.intro (fun hb => absurd hb (by omega)) (fun hb => ?_))
            | (refine And.intro (fun hb => ?_) (fun hb => absurd hb (by omega)))
            | (refine And.intro (fun hb => ?_) (fun hb => ?_))
            | (intro hb)
            | (conv => whnf)))
          exact ff
        · have kk := hq h g (by omega) (by omega) a1 (by omega)
          have rk := kp_rg (h := h) (g := g) (by omega) (by omega) a1 (by omega)
          have nx := ih (g + 1) (by omega) (by omega) (by omega)
          rw [show (g + 1).toNat = g.toNat + 1 by omega, mn_s, show ((g.toNat : Nat) : Int) = g by omega] at nx
          have key : ∀ N : Nat, h + 1 - 2 * g ≤ N → ∀ L K0, (L + K0 % p * x ^ (h + 1 - 2 * g).toNat % p) % p = (L + K0 % p * sr_sq p N (h + 1 - 2 * g).toNat 1 (x % p)) % p := fun N hN L K0 => by
            rw [sr_sq_pow N _ 1 (x % p) (by omega) (Int.emod_eq_of_lt (by omega) (by omega)), Int.one_mul, sr_powmod]
            exact m_modkey _ _ _ _
          obtain ⟨K0, hK0⟩ : ∃ K0, K0 = k_pr h g := ⟨_, rfl⟩
          obtain ⟨L, hL⟩ : ∃ L, L = mn_s p h x g.toNat := ⟨_, rfl⟩
          rw [← hK0] at kk rk
          rw [← hK0, ← hL] at nx
          rw [← hL] at rs ⊢
          have ek : Int.tmod K0 p = K0 % p := m_tm rk.1
          have rk2 : 0 ≤ K0 % p ∧ K0 % p < p := m_modr (by omega)
          clear hK0 hL ih
          refine am_run 400 mt_F_mean ok_F_mean (fun K S hK hS => ?_)
          iterate 51 (all_goals (first
            | (simp only [am_st2, am_st1, am_set, am_cut, am_get])
            | (refine And.intro (by omega) ?_)
            | (refine And.intro (fun hb => absurd hb (by omega)) (fun hb => ?_))
            | (refine And.intro (fun hb => ?_) (fun hb => absurd hb (by omega)))
            | (refine And.intro (fun hb => ?_) (fun hb => ?_))
            | (intro hb)
            | (simp only [kk, p1, ek])
            | (conv => whnf)))
          refine hK (s_F_power (p := p) hp p1 (by omega) (by omega) ?_)
          rw [key (h + 1 - 2 * g).toNat (by omega)] at nx
          have ro := sr_sq_rg (p := p) (by omega) (h + 1 - 2 * g).toNat (h + 1 - 2 * g).toNat 1 (x % p) (by omega)
          obtain ⟨O, hO⟩ : ∃ O, O = sr_sq p (h + 1 - 2 * g).toNat (h + 1 - 2 * g).toNat 1 (x % p) := ⟨_, rfl⟩
          rw [← hO] at nx ro ⊢
          have m1 := m_mulr rk2.1 rk2.2 ro.1 ro.2 hp.2
          have x1 : am_in64 (L + K0 % p * O) := by constructor <;> omega
          have el : Int.tmod (L + K0 % p * O) p = (L + K0 % p * O) % p := m_tm (by omega)
          rw [← el] at nx
          clear key hO el m1
          iterate 51 (all_goals (first
            | (simp only [am_st2, am_st1, am_set, am_cut, am_get])
            | (refine And.intro (⟨by with_reducible assumption, by omega⟩) ?_)
            | (refine And.intro (by omega) ?_)
            | (refine And.intro (fun hb => absurd hb (by omega)) (fun hb => ?_))
            | (refine And.intro (fun hb => ?_) (fun hb => absurd hb (by omega)))
            | (refine And.intro (fun hb => ?_) (fun hb => ?_))
            | (intro hb)
            | (simp only [p1])
            | (conv => whnf)))
          exact hS nx
    refine am_run 400 mt_F_mean ok_F_mean (fun K S hK hS => ?_)
    iterate 30 (all_goals (first
      | (refine And.intro (by omega) ?_)
      | (refine And.intro (fun hb => absurd hb (by omega)) (fun hb => ?_))
      | (refine And.intro (fun hb => ?_) (fun hb => absurd hb (by omega)))
      | (refine And.intro (fun hb => ?_) (fun hb => ?_))
      | (intro hb)
      | (conv => whnf)))
    refine hK (s_F_noPairs h0 (fun r hr => ?_))
    iterate 30 (all_goals (first
      | (simp only [am_st2, am_st1, am_set, am_cut, am_get])
      | (refine And.intro (by omega) ?_)
      | (refine And.intro (fun hb => absurd hb (by omega)) (fun hb => ?_))
      | (refine And.intro (fun hb => ?_) (fun hb => absurd hb (by omega)))
      | (refine And.intro (fun hb => ?_) (fun hb => ?_))
      | (intro hb)
      | (conv => whnf)))
    exact hS (loop (h / 2 + 2).toNat 0 (by omega) (by omega) (by omega))
  · have bad : pr_long G (d + 9) 135 [vR 86, vI h, vI x] p f0 (some (vJ (-1000001))) V (am_RF sh) T := pr_j (by omega) hJ.1 (s_M_mean (p := p) h0 h1 hp p2 (fun _ => pr_k (II_bad hI)) (fun q => absurd q hc))
    refine am_enter mt_F_mean ok_F_mean rfl ?_
    refine am_run 400 mt_F_mean ok_F_mean (fun K S hK hS => ?_)
    iterate 30 (all_goals (first
      | (refine And.intro (by omega) ?_)
      | (refine And.intro (fun hb => absurd hb (by omega)) (fun hb => ?_))
      | (refine And.intro (fun hb => ?_) (fun hb => absurd hb (by omega)))
      | (refine And.intro (fun hb => ?_) (fun hb => ?_))
      | (intro hb)
      | (conv => whnf)))
    refine hK (s_F_noPairs h0 (fun r hr => ?_))
    iterate 30 (all_goals (first
      | (refine And.intro (by omega) ?_)
      | (refine And.intro (fun hb => absurd hb (by omega)) (fun hb => ?_))
      | (refine And.intro (fun hb => ?_) (fun hb => absurd hb (by omega)))
      | (refine And.intro (fun hb => ?_) (fun hb => ?_))
      | (intro hb)
      | (conv => whnf)))
    all_goals exact bad
