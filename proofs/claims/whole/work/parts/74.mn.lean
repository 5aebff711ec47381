/-! powers, mean -/
def sr_sq (p : Int) : Nat → Nat → Int → Int → Int
  | 0, _, r, _ => r
  | f + 1, e, r, s => if e = 0 then r else sr_sq p f (e / 2) (if e % 2 = 1 then r * s % p else r) (s * s % p)
theorem sr_sq_rg {p : Int} (hp : 0 < p) : ∀ (f e : Nat) (r s : Int), 0 ≤ r ∧ r < p → 0 ≤ sr_sq p f e r s ∧ sr_sq p f e r s < p
  | 0, _, _, _, h => h
  | f + 1, e, r, s, h => by
    unfold sr_sq
    split
    · exact h
    · apply sr_sq_rg hp
      split
      · exact m_modr hp
      · exact h
theorem sr_powmod {p : Int} (a : Int) : ∀ k : Nat, (a % p) ^ k % p = a ^ k % p
  | 0 => by rw [Int.pow_zero, Int.pow_zero]
  | k + 1 => by
    rw [Int.pow_succ, Int.pow_succ, Int.mul_emod, sr_powmod a k, Int.emod_emod_of_dvd _ (Int.dvd_refl p), ← Int.mul_emod]
theorem sr_sq_pow {p : Int} : ∀ (f e : Nat) (r s : Int), e ≤ f → r % p = r → sr_sq p f e r s = r * s ^ e % p
  | 0, e, r, s, he, hr => by
    rw [show e = 0 by omega]
    unfold sr_sq
    rw [Int.pow_zero, Int.mul_one, hr]
  | f + 1, e, r, s, he, hr => by
    unfold sr_sq
    by_cases h : e = 0
    · rw [if_pos h, h, Int.pow_zero, Int.mul_one, hr]
    · rw [if_neg h]
      by_cases ho : e % 2 = 1
      · rw [if_pos ho, sr_sq_pow f (e / 2) _ _ (by omega) (Int.emod_emod_of_dvd _ (Int.dvd_refl p)), Int.mul_emod, Int.emod_emod_of_dvd _ (Int.dvd_refl p), sr_powmod, ← Int.mul_emod]
        congr 1
        have : s ^ e = s * (s * s) ^ (e / 2) := by
          conv => lhs; rw [show e = 2 * (e / 2) + 1 by omega, Int.pow_succ, Int.pow_mul, Int.mul_comm]
          rw [show s ^ 2 = s * s by rw [Int.pow_succ, Int.pow_succ, Int.pow_zero, Int.one_mul]]
        rw [this, Int.mul_assoc]
      · rw [if_neg ho, sr_sq_pow f (e / 2) _ _ (by omega) hr, Int.mul_emod, sr_powmod, ← Int.mul_emod]
        congr 2
        conv => rhs; rw [show e = 2 * (e / 2) by omega, Int.pow_mul]
        rw [show s ^ 2 = s * s by rw [Int.pow_succ, Int.pow_succ, Int.pow_zero, Int.one_mul]]
theorem s_F_power {G : am_G} {d : Nat} {sh : Int → Option Nat} {V : am_V} {T : Nat} {Q : Option AV → am_V → am_T → Nat → Prop} {p b e : Int} (hp : 1 < p ∧ p ≤ 2000000000) (e0 : V 3 0 = p) (hb : 0 ≤ b ∧ b ≤ 2000000000) (he : 0 ≤ e ∧ e ≤ 2000000000) (hQ : Q (some (vJ (sr_sq p e.toNat e.toNat 1 (b % p)))) V (am_RF sh) T) : am_Calls G (d + 1) 60 [vR 3, vJ b, vJ e] V (am_RF sh) T Q := by
  refine am_enter mt_F_power ok_F_power rfl ?_
  have loop : ∀ (f : Nat) (t r s : Int), 0 ≤ t → t ≤ 2000000000 → t ≤ f → 0 ≤ r ∧ r < p → 0 ≤ s ∧ s < p → Q (some (vJ (sr_sq p f t.toNat r s))) V (am_RF sh) T → am_Sem G d 60 V T Q 14 [some (vR 3), some (vJ b), none, some (vJ e), none, some (vJ r), none, some (vJ s), none, some (vJ t), none] [] V (am_RF sh) T 0 0 := by
    intro f
    induction f with
    | zero =>
      intro t r s t0 t1 t2 hr hs hq
      have ht : t = 0 := by omega
      subst ht
      refine am_run 400 mt_F_power ok_F_power (fun K S hK hS => ?_)
      iterate 30 (all_goals (first
        | (simp only [am_st2, am_st1, am_set, am_cut, am_get])
        | (refine And.intro (by omega) ?_)
        | (refine And.intro (fun hb => absurd hb (by omega)) (fun hb => ?_))
        | (refine And.intro (fun hb => ?_) (fun hb => absurd hb (by omega)))
        | (refine And.intro (fun hb => ?_) (fun hb => ?_))
        | (intro hb)
        | (conv => whnf)))
      exact hq
    | succ f ih =>
      intro t r s t0 t1 t2 hr hs hq
      by_cases ht : t = 0
      · subst ht
        refine am_run 400 mt_F_power ok_F_power (fun K S hK hS => ?_)
        iterate 30 (all_goals (first
          | (simp only [am_st2, am_st1, am_set, am_cut, am_get])
          | (refine And.intro (by omega) ?_)
          | (refine And.intro (fun hb => absurd hb (by omega)) (fun hb => ?_))
          | (refine And.intro (fun hb => ?_) (fun hb => absurd hb (by omega)))
          | (refine And.intro (fun hb => ?_) (fun hb => ?_))
          | (intro hb)
          | (conv => whnf)))
        exact hq
      · have m1 := m_mulr hr.1 hr.2 hs.1 hs.2 hp.2
        have m2 := m_mulr hs.1 hs.2 hs.1 hs.2 hp.2
        have x1 : am_in64 (r * s) := by constructor <;> omega
        have x2 : am_in64 (s * s) := by constructor <;> omega
        have e2 : Int.tmod (s * s) p = s * s % p := m_tm m2.1
        have e1 : Int.tmod (r * s) p = r * s % p := m_tm m1.1
        have et : Int.tmod t 2 = t % 2 := m_tm t0
        rw [sr_sq, if_neg (by omega), show t.toNat / 2 = (t / 2).toNat by omega] at hq
        have r1 : 0 ≤ r * s % p ∧ r * s % p < p := m_modr (by omega)
        have r2 : 0 ≤ s * s % p ∧ s * s % p < p := m_modr (by omega)
        by_cases ho : t % 2 = 1
        · rw [if_pos (by omega)] at hq
          have nx := ih (t / 2) _ _ (by omega) (by omega) (by omega) r1 r2 hq
          rw [← e1, ← e2] at nx
          clear ih hq e1 e2 r1 r2 m1 m2
          refine am_run 400 mt_F_power ok_F_power (fun K S hK hS => ?_)
          iterate 51 (all_goals (first
            | (simp only [am_st2, am_st1, am_set, am_cut, am_get])
            | (refine And.intro (⟨by with_reducible assumption, by omega⟩) ?_)
            | (refine And.intro (by omega) ?_)
            | (refine And.intro (fun hb => absurd hb (by omega)) (fun hb => ?_))
            | (refine And.intro (fun hb => ?_) (fun hb => absurd hb (by omega)))
            | (refine And.intro (fun hb => ?_) (fun hb => ?_))
            | (intro hb)
            | (simp only [e0, et])
            | (conv => whnf)))
          exact hS nx
        · rw [if_neg (by omega)] at hq
          have nx := ih (t / 2) _ _ (by omega) (by omega) (by omega) hr r2 hq
          rw [← e2] at nx
          clear ih hq e1 e2 r1 r2 m1 m2
          refine am_run 400 mt_F_power ok_F_power (fun K S hK hS => ?_)
          iterate 51 (all_goals (first
            | (simp only [am_st2, am_st1, am_set, am_cut, am_get])
            | (refine And.intro (⟨by with_reducible assumption, by omega⟩) ?_)
            | (refine And.intro (by omega) ?_)
            | (refine And.intro (fun hb => absurd hb (by omega)) (fun hb => ?_))
            | (refine And.intro (fun hb => ?_) (fun hb => absurd hb (by omega)))
            | (refine And.intro (fun hb => ?_) (fun hb => ?_))
            | (intro hb)
            | (simp only [e0, et])
            | (conv => whnf)))
          exact hS nx
  have eb : Int.tmod b p = b % p := m_tm hb.1
  have rb : 0 ≤ b % p ∧ b % p < p := m_modr (by omega)
  have st := loop e.toNat e 1 (b % p) (by omega) (by omega) (by omega) (by omega) rb hQ
  rw [← eb] at st
  refine am_run 400 mt_F_power ok_F_power (fun K S hK hS => ?_)
  iterate 51 (all_goals (first
    | (simp only [am_st2, am_st1, am_set, am_cut, am_get])
    | (refine And.intro (by omega) ?_)
    | (refine And.intro (fun hb => absurd hb (by omega)) (fun hb => ?_))
    | (refine And.intro (fun hb => ?_) (fun hb => absurd hb (by omega)))
    | (refine And.intro (fun hb => ?_) (fun hb => ?_))
    | (intro hb)
    | (simp only [e0])
    | (conv => whnf)))
  exact hS st
/-- the mean's sum, g terms -/
def mn_s (p h x : Int) : Nat → Int
  | 0 => 0
  | g + 1 => (mn_s p h x g + k_pr h g % p * x ^ (h + 1 - 2 * g).toNat % p) % p
theorem mn_rg {p h x : Int} (hp : 0 < p) : ∀ g, 0 ≤ mn_s p h x g ∧ mn_s p h x g < p
  | 0 => ⟨Int.le_refl _, hp⟩
  | g + 1 => m_modr hp
theorem s_M_mean {G : am_G} {d : Nat} {sh : Int → Option Nat} {V : am_V} {T : Nat} {Q : Option AV → am_V → am_T → Nat → Prop} {h x p : Int} (h0 : am_in32 h) (h1 : am_in32 x) (hp : 1 < p ∧ p ≤ 2000000000) (e0 : V 86 2 = p) (hB : ¬ ((1 ≤ h ∧ h ≤ 10) ∧ 0 ≤ x ∧ x ≤ 1000) → Q (some (vJ (-1000001))) (am_up V 86 0 0) (am_RF sh) T) (hQ : ((1 ≤ h ∧ h ≤ 10) ∧ 0 ≤ x ∧ x ≤ 1000) → ∀ V', (∀ a, a ≠ 104 → V' a = am_up V 86 0 0 a) → Q (some (vJ (mn_s p h x (h / 2 + 1).toNat))) V' (am_RF sh) T) : am_Calls G (d + 3) 135 [vR 86, vI h, vI x] V (am_RF sh) T Q := by
  refine am_enter mt_M_mean ok_M_mean rfl ?_
  have loop : ((1 ≤ h ∧ h ≤ 10) ∧ 0 ≤ x ∧ x ≤ 1000) → ∀ (W : am_V), (∀ a, a ≠ 104 → W a = am_up V 86 0 0 a) → (∀ h g, 0 ≤ h → h ≤ 10 → 0 ≤ g → g ≤ 5 → W 104 (6 * h + g) = k_pr h g) → ∀ (jj : Nat) (g : Int) (x6 x8 : Option AV), 0 ≤ g → g ≤ h / 2 + 1 → h / 2 + 1 - g < jj → am_Sem G (d + 2) 135 V T Q 42 [some (vR 86), some (vI h), some (vI x), some (vJ (mn_s p h x g.toNat)), none, some (vI g), x6, none, x8] [] W (am_RF sh) T 0 0 := by
    intro hc W w1 w2 jj
    have f86 : W 86 2 = p := by rw [w1 86 (by decide)]; simp +decide [am_up_ne, am_up_at, reduceIte]; exact e0
    induction jj with
    | zero => intro g x6 x8 a1 a2 a3; omega
    | succ jj ih =>
      intro g x6 x8 a1 a2 a3
      by_cases hg : g = h / 2 + 1
      · subst hg
        refine am_run 400 mt_M_mean ok_M_mean (fun K S hK hS => ?_)
        iterate 30 (all_goals (first
          | (simp only [am_st2, am_st1, am_set, am_cut, am_get])
          | (refine And.intro (by omega) ?_)
          | (refine And.intro (fun hb => absurd hb (by omega)) (fun hb => ?_))
          | (refine And.intro (fun hb => ?_) (fun hb => absurd hb (by omega)))
          | (refine And.intro (fun hb => ?_) (fun hb => ?_))
          | (intro hb)
          | (conv => whnf)))
        exact hQ hc W w1
      · have kk := w2 h g (by omega) (by omega) a1 (by omega)
        have rk := kp_rg (h := h) (g := g) (by omega) (by omega) a1 (by omega)
        have rs := mn_rg (p := p) (h := h) (x := x) (by omega) g.toNat
        have nx := fun x6 x8 => ih (g + 1) x6 x8 (by omega) (by omega) (by omega)
        rw [show (g + 1).toNat = g.toNat + 1 by omega, mn_s, show ((g.toNat : Nat) : Int) = g by omega] at nx
        obtain ⟨K0, hK0⟩ : ∃ K0, K0 = k_pr h g := ⟨_, rfl⟩
        obtain ⟨L, hL⟩ : ∃ L, L = mn_s p h x g.toNat := ⟨_, rfl⟩
        rw [← hK0] at kk rk
        rw [← hK0, ← hL] at nx
        rw [← hL] at rs ⊢
        clear hK0 hL ih
        have inner : ∀ (j2 : Nat) (i : Int), 0 ≤ i → i ≤ h + 1 - 2 * g → h + 1 - 2 * g - i < j2 → am_Sem G (d + 2) 135 V T Q 73 [some (vR 86), some (vI h), some (vI x), some (vJ L), none, some (vI g), some (vJ (K0 % p * x ^ i.toNat % p)), none, some (vI i)] [] W (am_RF sh) T 0 0 := by
          intro j2
          induction j2 with
          | zero => intro i b1 b2 b3; omega
          | succ j2 ih2 =>
            intro i b1 b2 b3
            have rv : 0 ≤ K0 % p * x ^ i.toNat % p ∧ K0 % p * x ^ i.toNat % p < p := m_modr (by omega)
            by_cases hi : i = h + 1 - 2 * g
            · have nx2 := nx (some (vJ (K0 % p * x ^ i.toNat % p))) (some (vI i))
              rw [show (h + 1 - 2 * g).toNat = i.toNat by omega] at nx2
              obtain ⟨A, hA⟩ : ∃ A, A = K0 % p * x ^ i.toNat % p := ⟨_, rfl⟩
              rw [← hA] at nx2 rv ⊢
              have ea : Int.tmod (L + A) p = (L + A) % p := m_tm (by omega)
              rw [← ea] at nx2
              clear hA nx ih2 ea
              refine am_run 400 mt_M_mean ok_M_mean (fun K S hK hS => ?_)
              iterate 51 (all_goals (first
                | (simp only [am_st2, am_st1, am_set, am_cut, am_get])
                | (refine And.intro (by omega) ?_)
                | (refine And.intro (fun hb => absurd hb (by omega)) (fun hb => ?_))
                | (refine And.intro (fun hb => ?_) (fun hb => absurd hb (by omega)))
                | (refine And.intro (fun hb => ?_) (fun hb => ?_))
                | (intro hb)
                | (simp only [f86])
                | (conv => whnf)))
              exact hS nx2
            · have nx2 := ih2 (i + 1) (by omega) (by omega) (by omega)
              have es : K0 % p * x ^ (i + 1).toNat % p = (K0 % p * x ^ i.toNat % p) * x % p := by
                rw [show (i + 1).toNat = i.toNat + 1 by omega, Int.pow_succ, ← Int.mul_assoc, Int.mul_emod (K0 % p * x ^ i.toNat % p) x, Int.emod_emod_of_dvd _ (Int.dvd_refl p), ← Int.mul_emod]
              rw [es] at nx2
              obtain ⟨A, hA⟩ : ∃ A, A = K0 % p * x ^ i.toNat % p := ⟨_, rfl⟩
              rw [← hA] at nx2 rv ⊢
              have h3 : 0 ≤ A * x := Int.mul_nonneg rv.1 (by omega)
              have h4 : A * x ≤ 2000000000 * 1000 := Int.mul_le_mul (by omega) (by omega) (by omega) (by omega)
              have x1 : am_in64 (A * x) := by constructor <;> omega
              have ea : Int.tmod (A * x) p = A * x % p := m_tm h3
              rw [← ea] at nx2
              clear hA nx ih2 ea es h3 h4
              refine am_run 400 mt_M_mean ok_M_mean (fun K S hK hS => ?_)
              iterate 51 (all_goals (first
                | (simp only [am_st2, am_st1, am_set, am_cut, am_get])
                | (refine And.intro (⟨by with_reducible assumption, by omega⟩) ?_)
                | (refine And.intro (by omega) ?_)
                | (refine And.intro (fun hb => absurd hb (by omega)) (fun hb => ?_))
                | (refine And.intro (fun hb => ?_) (fun hb => absurd hb (by omega)))
                | (refine And.intro (fun hb => ?_) (fun hb => ?_))
                | (intro hb)
                | (simp only [f86])
                | (conv => whnf)))
              exact hS nx2
        have st := inner (h + 2 - 2 * g).toNat 0 (by omega) (by omega) (by omega)
        have e00 : K0 % p * x ^ (0 : Int).toNat % p = Int.tmod K0 p := by
          show K0 % p * x ^ 0 % p = _
          rw [Int.pow_zero, Int.mul_one, Int.emod_emod_of_dvd _ (Int.dvd_refl p), m_tm rk.1]
        rw [e00] at st
        clear inner nx e00
        refine am_run 400 mt_M_mean ok_M_mean (fun K S hK hS => ?_)
        iterate 51 (all_goals (first
          | (simp only [am_st2, am_st1, am_set, am_cut, am_get])
          | (refine And.intro (by omega) ?_)
          | (refine And.intro (fun hb => absurd hb (by omega)) (fun hb => ?_))
          | (refine And.intro (fun hb => ?_) (fun hb => absurd hb (by omega)))
          | (refine And.intro (fun hb => ?_) (fun hb => ?_))
          | (intro hb)
          | (simp only [f86, kk])
          | (conv => whnf)))
        exact hS st
  refine am_run 400 mt_M_mean ok_M_mean (fun K S hK hS => ?_)
  iterate 30 (all_goals (first
    | (refine And.intro (by omega) ?_)
    | (refine And.intro (fun hb => absurd hb (by omega)) (fun hb => ?_))
    | (refine And.intro (fun hb => ?_) (fun hb => absurd hb (by omega)))
    | (refine And.intro (fun hb => ?_) (fun hb => ?_))
    | (intro hb)
    | (conv => whnf)))
  refine hK (s_M_in (by omega) (by omega) (by omega) (fun r hr => ?_))
  iterate 30 (all_goals (first
    | (refine And.intro (by omega) ?_)
    | (refine And.intro (fun hb => absurd hb (by omega)) (fun hb => ?_))
    | (refine And.intro (fun hb => ?_) (fun hb => absurd hb (by omega)))
    | (refine And.intro (fun hb => ?_) (fun hb => ?_))
    | (intro hb)
    | (conv => whnf)))
  · exact hB (by omega)
  refine hK (s_M_in (by omega) (by omega) (by omega) (fun r2 hr2 => ?_))
  by_cases hc : (1 ≤ h ∧ h ≤ 10) ∧ 0 ≤ x ∧ x ≤ 1000
  · iterate 30 (all_goals (first
      | (refine And.intro (by omega) ?_)
      | (refine And.intro (fun hb => absurd hb (by omega)) (fun hb => ?_))
      | (refine And.intro (fun hb => ?_) (fun hb => absurd hb (by omega)))
      | (refine And.intro (fun hb => ?_) (fun hb => ?_))
      | (intro hb)
      | (conv => whnf)))
    refine hK (s_M_findPairings (fun W w1 w2 => ?_))
    iterate 30 (all_goals (first
      | (simp only [am_st2, am_st1, am_set, am_cut, am_get])
      | (refine And.intro (by omega) ?_)
      | (refine And.intro (fun hb => absurd hb (by omega)) (fun hb => ?_))
      | (refine And.intro (fun hb => ?_) (fun hb => absurd hb (by omega)))
      | (refine And.intro (fun hb => ?_) (fun hb => ?_))
      | (intro hb)
      | (conv => whnf)))
    exact hS (loop hc W w1 w2 (h / 2 + 2).toNat 0 _ _ (by omega) (by omega) (by omega))
  · iterate 30 (all_goals (first
      | (refine And.intro (by omega) ?_)
      | (refine And.intro (fun hb => absurd hb (by omega)) (fun hb => ?_))
      | (refine And.intro (fun hb => ?_) (fun hb => absurd hb (by omega)))
      | (refine And.intro (fun hb => ?_) (fun hb => ?_))
      | (intro hb)
      | (conv => whnf)))
    exact hB (by omega)
