/-! series: the class -/
theorem s_P_at {G : am_G} {d : Nat} {sh : Int → Option Nat} {V : am_V} {T : Nat} {Q : Option AV → am_V → am_T → Nat → Prop} {e k : Int} (h1 : 0 ≤ e ∧ e ≤ 8) (h2 : 0 ≤ k ∧ k ≤ 8) (hQ : Q (some (vJ (V 65 (64 * e + k)))) V (am_RF sh) T) : am_Calls G (d + 1) 151 [vR 64, vI e, vI k] V (am_RF sh) T Q := by
  refine am_enter mt_P_at ok_P_at rfl ?_
  refine am_run 400 mt_P_at ok_P_at (fun K S hK hS => ?_)
  iterate 30 (all_goals (first
    | (refine And.intro (by omega) ?_)
    | (refine And.intro (fun hb => absurd hb (by omega)) (fun hb => ?_))
    | (refine And.intro (fun hb => ?_) (fun hb => absurd hb (by omega)))
    | (refine And.intro (fun hb => ?_) (fun hb => ?_))
    | (intro hb)
    | (conv => whnf)))
  exact hQ
theorem s_C_keepPowers {G : am_G} {d : Nat} {sh : Int → Option Nat} {V : am_V} {T : Nat} {Q : Option AV → am_V → am_T → Nat → Prop} {p sort k v : Int} {m : Int → Int} (hp : 1 < p ∧ p ≤ 2000000000) (e0 : V 64 0 = p) (hk : 1 ≤ k ∧ k ≤ 8) (hv : 0 ≤ v ∧ v < p) (hm : sr_rg p m k) (hmk : m k = v) (ho : 0 ≤ sort ∧ sort ≤ 2) (hkp : sort = 1 → sr_kp V p m (k - 1)) (hQ : sort = 1 → ∀ V', (∀ a, a ≠ 65 → V' a = V a) → (∀ j, 0 ≤ j → j < 64 → V' 65 j = V 65 j) → sr_kp V' p m k → Q none V' (am_RF sh) T) (hQ0 : sort ≠ 1 → Q none V (am_RF sh) T) : am_Calls G (d + 2) 142 [vR 63, vI sort, vI k, vJ v] V (am_RF sh) T Q := by
  refine am_enter mt_C_keepPowers ok_C_keepPowers rfl ?_
  by_cases h : sort = 1
  · refine am_run 400 mt_C_keepPowers ok_C_keepPowers (fun K S hK hS => ?_)
    iterate 30 (all_goals (first
      | (refine And.intro (by omega) ?_)
      | (refine And.intro (fun hb => absurd hb (by omega)) (fun hb => ?_))
      | (refine And.intro (fun hb => ?_) (fun hb => absurd hb (by omega)))
      | (refine And.intro (fun hb => ?_) (fun hb => ?_))
      | (intro hb)
      | (conv => whnf)))
    refine hK (s_P_add64 (m := m) hp e0 hk hv hm hmk (hkp h) (fun W w1 w2 w3 => ?_))
    iterate 30 (all_goals (first
      | (refine And.intro (by omega) ?_)
      | (refine And.intro (fun hb => absurd hb (by omega)) (fun hb => ?_))
      | (refine And.intro (fun hb => ?_) (fun hb => absurd hb (by omega)))
      | (refine And.intro (fun hb => ?_) (fun hb => ?_))
      | (intro hb)
      | (conv => whnf)))
    exact hQ h W w1 w2 w3
  · refine am_run 400 mt_C_keepPowers ok_C_keepPowers (fun K S hK hS => ?_)
    iterate 30 (all_goals (first
      | (refine And.intro (by omega) ?_)
      | (refine And.intro (fun hb => absurd hb (by omega)) (fun hb => ?_))
      | (refine And.intro (fun hb => ?_) (fun hb => absurd hb (by omega)))
      | (refine And.intro (fun hb => ?_) (fun hb => ?_))
      | (intro hb)
      | (conv => whnf)))
    exact hQ0 h
set_option maxHeartbeats 2000000 in
theorem s_C_sum42 {G : am_G} {d : Nat} {sh : Int → Option Nat} {V : am_V} {T : Nat} {Q : Option AV → am_V → am_T → Nat → Prop} {p sort n s : Int} (hp : 1 < p ∧ p ≤ 2000000000) (e0 : V 63 0 = p) (hs : 0 ≤ s ∧ s < 8) (ho : 0 ≤ sort ∧ sort ≤ 2) (hn : 1 ≤ n ∧ n ≤ 8) (hm : sr_rg p (fun j => V 32 (64 * s + j)) (n - 1)) (hc : ∀ k, 1 ≤ k → k < n → 0 ≤ V 42 k ∧ V 42 k < p) (hk : sort = 1 → sr_kp V p (fun j => V 32 (64 * s + j)) (n - 1)) (hQ : Q (some (vJ (sr_ls p (fun j => V 32 (64 * s + j)) (V 42) sort n (n - 1).toNat))) V (am_RF sh) T) : am_Calls G (d + 2) 143 [vR 63, vI sort, vI n, vR 42, vW 32 s] V (am_RF sh) T Q := by
  refine am_enter mt_C_sumOfFiner ok_C_sumOfFiner rfl ?_
  obtain ⟨m, em⟩ : ∃ m : Int → Int, m = fun j => V 32 (64 * s + j) := ⟨_, rfl⟩
  rw [← em] at hm hk hQ
  have emj : ∀ j, V 32 (64 * s + j) = m j := fun j => by rw [em]
  have hmr : ∀ j, 0 ≤ j → j < n → 0 ≤ m j ∧ m j < p := fun j a b => by
    by_cases q : j = 0
    · rw [q, hm.1]; omega
    · exact hm.2 j (by omega) (by omega)
  have loop : ∀ (jj : Nat) (t : Int) (x10 : Option AV), 1 ≤ t → t ≤ n → n - t < jj → am_Sem G (d + 1) 143 V T Q 9 [some (vR 63), some (vI sort), some (vI n), some (vR 42), some (vW 32 s), some (vJ (sr_ls p m (V 42) sort n (t - 1).toNat)), none, some (vJ (sr_ch (n - 1) (t - 1).toNat)), none, some (vI t), x10, none] [] V (am_RF sh) T 0 0 := by
    intro jj
    induction jj with
    | zero => intro t x10 a b c; omega
    | succ jj ih =>
      intro t x10 a b c
      by_cases ht : t = n
      · subst ht
        refine am_run 400 mt_C_sumOfFiner ok_C_sumOfFiner (fun K S hK hS => ?_)
        iterate 30 (all_goals (first
          | (refine And.intro (by omega) ?_)
          | (refine And.intro (fun hb => absurd hb (by omega)) (fun hb => ?_))
          | (refine And.intro (fun hb => ?_) (fun hb => absurd hb (by omega)))
          | (refine And.intro (fun hb => ?_) (fun hb => ?_))
          | (intro hb)
          | (conv => whnf)))
        exact hQ
      · have r1 := sr_ls_rg (p := p) (m := m) (c := V 42) (sort := sort) (n := n) (by omega) (t - 1).toNat
        have r2 := hc t a (by omega)
        have r3 := sr_ch_b (n := n - 1) (t := (t - 1).toNat) (by omega) (by omega) (by omega)
        have r4 := hmr (n - t) (by omega) (by omega)
        have r5 := sr_ch_b (n := n - 1) (t := t.toNat) (by omega) (by omega) (by omega)
        have ech : sr_ch (n - 1) (t - 1).toNat * (n - t) / t = sr_ch (n - 1) t.toNat := by
          rw [show t.toNat = (t - 1).toNat + 1 by omega, sr_ch, show (((t - 1).toNat : Nat) : Int) = t - 1 by omega, show n - 1 - (t - 1) = n - t by omega, show t - 1 + 1 = t by omega]
        have rch : 0 ≤ sr_ch (n - 1) (t - 1).toNat * (n - t) ∧ sr_ch (n - 1) (t - 1).toNat * (n - t) ≤ 1000 := by
          refine ⟨Int.mul_nonneg r3.1 (by omega), ?_⟩
          have : sr_ch (n - 1) (t - 1).toNat * (n - t) ≤ 100 * 8 := Int.mul_le_mul r3.2 (by omega) (by omega) (by omega)
          omega
        have els : ∀ o, o = sr_ot p m sort n t → 0 ≤ o ∧ o < p → Int.tmod (sr_ls p m (V 42) sort n (t - 1).toNat + V 42 t * o) p = sr_ls p m (V 42) sort n t.toNat := fun o ho hr => by
          have rm := m_mulr r2.1 r2.2 hr.1 hr.2 hp.2
          rw [m_tm (by omega), show t.toNat = (t - 1).toNat + 1 by omega, sr_ls, show (((t - 1).toNat : Nat) : Int) = t - 1 by omega, show t - 1 + 1 = t by omega, ho]
        have ih := fun x => ih (t + 1) x (by omega) (by omega) (by omega)
        rw [show t + 1 - 1 = t by omega] at ih
        have fin : ∀ o, o = sr_ot p m sort n t → 0 ≤ o ∧ o < p → am_Sem G (d + 1) 143 V T Q 9 [some (vR 63), some (vI sort), some (vI n), some (vR 42), some (vW 32 s), some (vJ (Int.tmod (sr_ls p m (V 42) sort n (t - 1).toNat + V 42 t * o) p)), none, some (vJ (sr_ch (n - 1) (t - 1).toNat * (n - t) / t)), none, some (vI (t + 1)), some (vJ o), none] [] V (am_RF sh) T 0 0 := fun o h1 h2 => by
          rw [els o h1 h2, ech]
          exact ih _
        have fin2 : ∀ L C, L = sr_ls p m (V 42) sort n (t - 1).toNat → C = sr_ch (n - 1) (t - 1).toNat → ∀ o, o = sr_ot p m sort n t → 0 ≤ o ∧ o < p → am_Sem G (d + 1) 143 V T Q 9 [some (vR 63), some (vI sort), some (vI n), some (vR 42), some (vW 32 s), some (vJ (Int.tmod (L + V 42 t * o) p)), none, some (vJ (C * (n - t) / t)), none, some (vI (t + 1)), some (vJ o), none] [] V (am_RF sh) T 0 0 := fun L C h1 h2 => by rw [h1, h2]; exact fin
        have rmm : ∀ L o, (0 ≤ L ∧ L < p) → 0 ≤ o ∧ o < p → am_in64 (L + V 42 t * o) := fun L o hL hr => by
          have rm := m_mulr r2.1 r2.2 hr.1 hr.2 hp.2
          constructor <;> omega
        obtain ⟨L, hL⟩ : ∃ L, L = sr_ls p m (V 42) sort n (t - 1).toNat := ⟨_, rfl⟩
        obtain ⟨C, hC⟩ : ∃ C, C = sr_ch (n - 1) (t - 1).toNat := ⟨_, rfl⟩
        rw [← hL, ← hC]
        rw [← hL] at r1
        rw [← hC] at r3 rch
        have fin3 := fin2 L C hL hC
        clear ech els fin fin2 ih r5
        by_cases h1 : sort = 1
        · have ep : V 65 (64 * t + (n - t)) = sr_pw p m t.toNat (n - t) := hk h1 t (n - t) a (by omega) (by omega) (by omega)
          have rp := sr_pw_rg (p := p) (m := m) (by omega) t.toNat (n - t)
          have eo : sr_pw p m t.toNat (n - t) = sr_ot p m sort n t := by unfold sr_ot; rw [if_pos h1]
          obtain ⟨O, hO⟩ : ∃ O, O = sr_pw p m t.toNat (n - t) := ⟨_, rfl⟩
          rw [← hO] at ep rp eo
          have rx := rmm L O r1 rp
          clear hL hC hO rmm
          refine am_run 400 mt_C_sumOfFiner ok_C_sumOfFiner (fun K S hK hS => ?_)
          iterate 30 (all_goals (first
            | (refine And.intro (by omega) ?_)
            | (refine And.intro (fun hb => absurd hb (by omega)) (fun hb => ?_))
            | (refine And.intro (fun hb => ?_) (fun hb => absurd hb (by omega)))
            | (refine And.intro (fun hb => ?_) (fun hb => ?_))
            | (intro hb)
            | (conv => whnf)))
          refine hK (s_P_at (by omega) (by omega) ?_)
          rw [ep]
          iterate 51 (all_goals (first
            | (refine And.intro (⟨by with_reducible assumption, by omega⟩) ?_)
            | (refine And.intro (by omega) ?_)
            | (refine And.intro (fun hb => absurd hb (by omega)) (fun hb => ?_))
            | (refine And.intro (fun hb => ?_) (fun hb => absurd hb (by omega)))
            | (refine And.intro (fun hb => ?_) (fun hb => ?_))
            | (intro hb)
            | (simp only [e0])
            | (conv => whnf)))
          exact hS (fin3 _ eo rp)
        · by_cases h2 : sort = 0
          · have h0 : 0 ≤ m (n - t) * C := Int.mul_nonneg r4.1 r3.1
            have h4 : m (n - t) * C ≤ 2000000000 * 100 := Int.mul_le_mul (by omega) r3.2 r3.1 (by omega)
            have eo : Int.tmod (m (n - t) * C) p = sr_ot p m sort n t := by
              unfold sr_ot
              rw [if_neg h1, if_pos h2, m_tm h0, hC]
            have ro : 0 ≤ Int.tmod (m (n - t) * C) p ∧ Int.tmod (m (n - t) * C) p < p := by
              rw [m_tm h0]
              exact m_modr (by omega)
            have rx : am_in64 (m (n - t) * C) := by constructor <;> omega
            have ry := rmm L _ r1 ro
            have fin4 := fin3 _ eo ro
            clear hL hC rmm eo ro h0 h4 fin3
            refine am_run 400 mt_C_sumOfFiner ok_C_sumOfFiner (fun K S hK hS => ?_)
            iterate 51 (all_goals (first
              | (refine And.intro (⟨by with_reducible assumption, by omega⟩) ?_)
              | (refine And.intro (by omega) ?_)
              | (refine And.intro (fun hb => absurd hb (by omega)) (fun hb => ?_))
              | (refine And.intro (fun hb => ?_) (fun hb => absurd hb (by omega)))
              | (refine And.intro (fun hb => ?_) (fun hb => ?_))
              | (intro hb)
              | (simp only [e0, emj])
              | (conv => whnf)))
            exact hS fin4
          · have eo : m (n - t) = sr_ot p m sort n t := by
              unfold sr_ot
              rw [if_neg h1, if_neg h2, Int.mul_one, Int.emod_eq_of_lt r4.1 r4.2]
            have ry := rmm L _ r1 r4
            clear hL hC rmm
            refine am_run 400 mt_C_sumOfFiner ok_C_sumOfFiner (fun K S hK hS => ?_)
            iterate 51 (all_goals (first
              | (refine And.intro (⟨by with_reducible assumption, by omega⟩) ?_)
              | (refine And.intro (by omega) ?_)
              | (refine And.intro (fun hb => absurd hb (by omega)) (fun hb => ?_))
              | (refine And.intro (fun hb => ?_) (fun hb => absurd hb (by omega)))
              | (refine And.intro (fun hb => ?_) (fun hb => ?_))
              | (intro hb)
              | (simp only [e0, emj])
              | (conv => whnf)))
            exact hS (fin3 _ eo r4)
  refine am_run 400 mt_C_sumOfFiner ok_C_sumOfFiner (fun K S hK hS => ?_)
  iterate 30 (all_goals (first
    | (refine And.intro (by omega) ?_)
    | (refine And.intro (fun hb => absurd hb (by omega)) (fun hb => ?_))
    | (refine And.intro (fun hb => ?_) (fun hb => absurd hb (by omega)))
    | (refine And.intro (fun hb => ?_) (fun hb => ?_))
    | (intro hb)
    | (conv => whnf)))
  exact hS (loop n.toNat 1 _ (by omega) (by omega) (by omega))
