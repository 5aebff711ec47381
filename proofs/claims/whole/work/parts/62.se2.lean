/-! series: the class -/
theorem s_P_at {G : am_G} {d : Nat} {sh : Int → Option Nat} {V : am_V} {T : Nat} {Q : Option AV → am_V → am_T → Nat → Prop} {e k : Int} (h1 : 0 ≤ e ∧ e ≤ 8) (h2 : 0 ≤ k ∧ k ≤ 8) (hQ : Q (some (vJ (V 65 (64 * e + k)))) V (am_RF sh) T) : am_Calls G (d + 1) 151 [vR 64, vI e, vI k] V (am_RF sh) T Q := by
  refine am_enter mt_P_at ok_P_at rfl ?_
  refine am_run 400 mt_P_at ok_P_at (fun K S hK hS => ?_)
  iterate 30 (all_goals (first
    | (refine And.intro (by omega) ?_)
    | (refine And.intro (fun hb => absurd hb (by omega)) (fun hb => ?_))
    | (refine And.intro (fun hb => ?_) (fun hb => absurd hb (by omega)))
    | (refine And.intro (fun hb => ?_) (fun hb => ?_))
    | (intro hb)
    | (conv => whnf)))
  exact hQ
theorem s_C_keepPowers {G : am_G} {d : Nat} {sh : Int → Option Nat} {V : am_V} {T : Nat} {Q : Option AV → am_V → am_T → Nat → Prop} {p sort k v : Int} {m : Int → Int} (hp : 1 < p ∧ p ≤ 2000000000) (e0 : V 64 0 = p) (hk : 1 ≤ k ∧ k ≤ 8) (hv : 0 ≤ v ∧ v < p) (hm : sr_rg p m k) (hmk : m k = v) (ho : 0 ≤ sort ∧ sort ≤ 2) (hkp : sort = 1 → sr_kp V p m (k - 1)) (hQ : sort = 1 → ∀ V', (∀ a, a ≠ 65 → V' a = V a) → (∀ j, 0 ≤ j → j < 64 → V' 65 j = V 65 j) → sr_kp V' p m k → Q none V' (am_RF sh) T) (hQ0 : sort ≠ 1 → Q none V (am_RF sh) T) : am_Calls G (d + 2) 142 [vR 63, vI sort, vI k, vJ v] V (am_RF sh) T Q := by
  refine am_enter mt_C_keepPowers ok_C_keepPowers rfl ?_
  by_cases h : sort = 1
  · refine am_run 400 mt_C_keepPowers ok_C_keepPowers (fun K S hK hS => ?_)
    iterate 30 (all_goals (first
      | (refine And.intro (by omega) ?_)
      | (refine And.intro (fun hb => absurd hb (by omega)) (fun hb => ?_))
      | (refine And.intro (fun hb => ?_) (fun hb => absurd hb (by omega)))
      | (refine And.intro (fun hb => ?_) (fun hb => ?_))
      | (intro hb)
      | (conv => whnf)))
    refine hK (s_P_add64 (m := m) hp e0 hk hv hm hmk (hkp h) (fun W w1 w2 w3 => ?_))
    iterate 30 (all_goals (first
      | (refine And.intro (by omega) ?_)
      | (refine And.intro (fun hb => absurd hb (by omega)) (fun hb => ?_))
      | (refine And.intro (fun hb => ?_) (fun hb => absurd hb (by omega)))
      | (refine And.intro (fun hb => ?_) (fun hb => ?_))
      | (intro hb)
      | (conv => whnf)))
    exact hQ h W w1 w2 w3
  · refine am_run 400 mt_C_keepPowers ok_C_keepPowers (fun K S hK hS => ?_)
    iterate 30 (all_goals (first
      | (refine And.intro (by omega) ?_)
      | (refine And.intro (fun hb => absurd hb (by omega)) (fun hb => ?_))
      | (refine And.intro (fun hb => ?_) (fun hb => absurd hb (by omega)))
      | (refine And.intro (fun hb => ?_) (fun hb => ?_))
      | (intro hb)
      | (conv => whnf)))
    exact hQ0 h
set_option maxHeartbeats 2000000 in
theorem s_C_sum42 {G : am_G} {d : Nat} {sh : Int → Option Nat} {V : am_V} {T : Nat} {Q : Option AV → am_V → am_T → Nat → Prop} {p sort n s : Int} (hp : 1 < p ∧ p ≤ 2000000000) (e0 : V 63 0 = p) (hs : 0 ≤ s ∧ s < 8) (ho : 0 ≤ sort ∧ sort ≤ 2) (hn : 1 ≤ n ∧ n ≤ 8) (hm : sr_rg p (fun j => V 32 (64 * s + j)) (n - 1)) (hc : ∀ k, 1 ≤ k → k < n → 0 ≤ V 42 k ∧ V 42 k < p) (hk : sort = 1 → sr_kp V p (fun j => V 32 (64 * s + j)) (n - 1)) (hQ : Q (some (vJ (sr_ls p (fun j => V 32 (64 * s + j)) (V 42) sort n (n - 1).toNat))) V (am_RF sh) T) : am_Calls G (d + 2) 143 [vR 63, vI sort, vI n, vR 42, vW 32 s] V (am_RF sh) T Q := by
  refine am_enter mt_C_sumOfFiner ok_C_sumOfFiner rfl ?_
  obtain ⟨m, em⟩ : ∃ m : Int → Int, m = fun j => V 32 (64 * s + j) := ⟨_, rfl⟩
  rw [← em] at hm hk hQ
  have emj : ∀ j, V 32 (64 * s + j) = m j := fun j => by rw [em]
  have hmr : ∀ j, 0 ≤ j → j < n → 0 ≤ m j ∧ m j < p := fun j a b => by
    by_cases q : j = 0
    · rw [q, hm.1]; omega
    · exact hm.2 j (by omega) (by omega)
  have loop : ∀ (jj : Nat) (t : Int) (x10 : Option AV), 1 ≤ t → t ≤ n → n - t < jj → am_Sem G (d + 1) 143 V T Q 9 [some (vR 63), some (vI sort), some (vI n), some (vR 42), some (vW 32 s), some (vJ (sr_ls p m (V 42) sort n (t - 1).toNat)), none, some (vJ (sr_ch (n - 1) (t - 1).toNat)), none, some (vI t), x10, none] [] V (am_RF sh) T 0 0 := by
    intro jj
    induction jj with
    | zero => intro t x10 a b c; omega
    | succ jj ih =>
      intro t x10 a b c
      by_cases ht : t = n
      · subst ht
        refine am_run 400 mt_C_sumOfFiner ok_C_sumOfFiner (fun K S hK hS => ?_)
        iterate 30 (all_goals (first
          | (refine And.intro (by omega) ?_)
          | (refine And.intro (fun hb => absurd hb (by omega)) (fun hb => ?_))
          | (refine And.intro (fun hb => ?_) (fun hb => absurd hb (by omega)))
          | (refine And.intro (fun hb => ?_) (fun hb => ?_))
          | (intro hb)
          | (conv => whnf)))
        exact hQ
      · have r1 := sr_ls_rg (p := p) (m := m) (c := V 42) (sort := sort) (n := n) (by omega) (t - 1).toNat
        have r2 := hc t a (by omega)
        have r3 := sr_ch_b (n := n - 1) (t := (t - 1).toNat) (by omega) (by omega) (by omega)
        have r4 := hmr (n - t) (by omega) (by omega)
        have r5 := sr_ch_b (n := n - 1) (t := t.toNat) (by omega) (by omega) (by omega)
        have ech : sr_ch (n - 1) (t - 1).toNat * (n - t) / t = sr_ch (n - 1) t.toNat := by
          rw [show t.toNat = (t - 1).toNat + 1 by omega, sr_ch, show (((t - 1).toNat : Nat) : Int) = t - 1 by omega, show n - 1 - (t - 1) = n - t by omega, show t - 1 + 1 = t by omega]
        have rch : 0 ≤ sr_ch (n - 1) (t - 1).toNat * (n - t) ∧ sr_ch (n - 1) (t - 1).toNat * (n - t) ≤ 1000 := by
          refine ⟨Int.mul_nonneg r3.1 (by omega), ?_⟩
          have : sr_ch (n - 1) (t - 1).toNat * (n - t) ≤ 100 * 8 := Int.mul_le_mul r3.2 (by omega) (by omega) (by omega)
          omega
        have els : ∀ o, o = sr_ot p m sort n t → 0 ≤ o ∧ o < p → Int.tmod (sr_ls p m (V 42) sort n (t - 1).toNat + V 42 t * o) p = sr_ls p m (V 42) sort n t.toNat := fun o ho hr => by
          have rm := m_mulr r2.1 r2.2 hr.1 hr.2 hp.2
          rw [m_tm (by omega), show t.toNat = (t - 1).toNat + 1 by omega, sr_ls, show (((t - 1).toNat : Nat) : Int) = t - 1 by omega, show t - 1 + 1 = t by omega, ho]
        have ih := fun x => ih (t + 1) x (by omega) (by omega) (by omega)
        rw [show t + 1 - 1 = t by omega] at ih
        have fin : ∀ o, o = sr_ot p m sort n t → 0 ≤ o ∧ o < p → am_Sem G (d + 1) 143 V T Q 9 [some (vR 63), some (vI sort), some (vI n), some (vR 42), some (vW 32 s), some (vJ (Int.tmod (sr_ls p m (V 42) sort n (t - 1).toNat + V 42 t * o) p)), none, some (vJ (sr_ch (n - 1) (t - 1).toNat * (n - t) / t)), none, some (vI (t + 1)), some (vJ o), none] [] V (am_RF sh) T 0 0 := fun o h1 h2 => by
          rw [els o h1 h2, ech]
          exact ih _
        have fin2 : ∀ L C, L = sr_ls p m (V 42) sort n (t - 1).toNat → C = sr_ch (n - 1) (t - 1).toNat → ∀ o, o = sr_ot p m sort n t → 0 ≤ o ∧ o < p → am_Sem G (d + 1) 143 V T Q 9 [some (vR 63), some (vI sort), some (vI n), some (vR 42), some (vW 32 s), some (vJ (Int.tmod (L + V 42 t * o) p)), none, some (vJ (C * (n - t) / t)), none, some (vI (t + 1)), some (vJ o), none] [] V (am_RF sh) T 0 0 := fun L C h1 h2 => by rw [h1, h2]; exact fin
        have rmm : ∀ L o, (0 ≤ L ∧ L < p) → 0 ≤ o ∧ o < p → am_in64 (L + V 42 t * o) := fun L o hL hr => by
          have rm := m_mulr r2.1 r2.2 hr.1 hr.2 hp.2
          constructor <;> omega
        obtain ⟨L, hL⟩ : ∃ L, L = sr_ls p m (V 42) sort n (t - 1).toNat := ⟨_, rfl⟩
        obtain ⟨C, hC⟩ : ∃ C, C = sr_ch (n - 1) (t - 1).toNat := ⟨_, rfl⟩
        rw [← hL, ← hC]
        rw [← hL] at r1
        rw [← hC] at r3 rch
        have fin3 := fin2 L C hL hC
        clear ech els fin fin2 ih r5
        by_cases h1 : sort = 1
        · have ep : V 65 (64 * t + (n - t)) = sr_pw p m t.toNat (n - t) := hk h1 t (n - t) a (by omega) (by omega) (by omega)
          have rp := sr_pw_rg (p := p) (m := m) (by omega) t.toNat (n - t)
          have eo : sr_pw p m t.toNat (n - t) = sr_ot p m sort n t := by unfold sr_ot; rw [if_pos h1]
          obtain ⟨O, hO⟩ : ∃ O, O = sr_pw p m t.toNat (n - t) := ⟨_, rfl⟩
          rw [← hO] at ep rp eo
          have rx := rmm L O r1 rp
          clear hL hC hO rmm
          refine am_run 400 mt_C_sumOfFiner ok_C_sumOfFiner (fun K S hK hS => ?_)
          iterate 30 (all_goals (first
            | (refine And.intro (by omega) ?_)
            | (refine And.intro (fun hb => absurd hb (by omega)) (fun hb => ?_))
            | (refine And.intro (fun hb => ?_) (fun hb => absurd hb (by omega)))
            | (refine And.intro (fun hb => ?_) (fun hb => ?_))
            | (intro hb)
            | (conv => whnf)))
          refine hK (s_P_at (by omega) (by omega) ?_)
          rw [ep]
          iterate 51 (all_goals (first
            | (simp only [am_st2, am_st1, am_set, am_cut, am_get])
            | (refine And.intro (⟨by with_reducible assumption, by omega⟩) ?_)
            | (refine And.intro (by omega) ?_)
            | (refine And.intro (fun hb => absurd hb (by omega)) (fun hb => ?_))
            | (refine And.intro (fun hb => ?_) (fun hb => absurd hb (by omega)))
            | (refine And.intro (fun hb => ?_) (fun hb => ?_))
            | (intro hb)
            | (simp only [e0])
            | (conv => whnf)))
          exact hS (fin3 _ eo rp)
        · by_cases h2 : sort = 0
          · have h0 : 0 ≤ m (n - t) * C := Int.mul_nonneg r4.1 r3.1
            have h4 : m (n - t) * C ≤ 2000000000 * 100 := Int.mul_le_mul (by omega) r3.2 r3.1 (by omega)
            have eo : Int.tmod (m (n - t) * C) p = sr_ot p m sort n t := by
              unfold sr_ot
              rw [if_neg h1, if_pos h2, m_tm h0, hC]
            have ro : 0 ≤ Int.tmod (m (n - t) * C) p ∧ Int.tmod (m (n - t) * C) p < p := by
              rw [m_tm h0]
              exact m_modr (by omega)
            have rx : am_in64 (m (n - t) * C) := by constructor <;> omega
            have ry := rmm L _ r1 ro
            have fin4 := fin3 _ eo ro
            clear hL hC rmm eo ro h0 h4 fin3
            refine am_run 400 mt_C_sumOfFiner ok_C_sumOfFiner (fun K S hK hS => ?_)
            iterate 51 (all_goals (first
              | (simp only [am_st2, am_st1, am_set, am_cut, am_get])
              | (refine And.intro (⟨by with_reducible assumption, by omega⟩) ?_)
              | (refine And.intro (by omega) ?_)
              | (refine And.intro (fun hb => absurd hb (by omega)) (fun hb => ?_))
              | (refine And.intro (fun hb => ?_) (fun hb => absurd hb (by omega)))
              | (refine And.intro (fun hb => ?_) (fun hb => ?_))
              | (intro hb)
              | (simp only [e0, emj])
              | (conv => whnf)))
            exact hS fin4
          · have eo : m (n - t) = sr_ot p m sort n t := by
              unfold sr_ot
              rw [if_neg h1, if_neg h2, Int.mul_one, Int.emod_eq_of_lt r4.1 r4.2]
            have ry := rmm L _ r1 r4
            clear hL hC rmm
            refine am_run 400 mt_C_sumOfFiner ok_C_sumOfFiner (fun K S hK hS => ?_)
            iterate 51 (all_goals (first
              | (simp only [am_st2, am_st1, am_set, am_cut, am_get])
              | (refine And.intro (⟨by with_reducible assumption, by omega⟩) ?_)
              | (refine And.intro (by omega) ?_)
              | (refine And.intro (fun hb => absurd hb (by omega)) (fun hb => ?_))
              | (refine And.intro (fun hb => ?_) (fun hb => absurd hb (by omega)))
              | (refine And.intro (fun hb => ?_) (fun hb => ?_))
              | (intro hb)
              | (simp only [e0, emj])
              | (conv => whnf)))
            exact hS (fin3 _ eo r4)
  refine am_run 400 mt_C_sumOfFiner ok_C_sumOfFiner (fun K S hK hS => ?_)
  iterate 30 (all_goals (first
    | (refine And.intro (by omega) ?_)
    | (refine And.intro (fun hb => absurd hb (by omega)) (fun hb => ?_))
    | (refine And.intro (fun hb => ?_) (fun hb => absurd hb (by omega)))
    | (refine And.intro (fun hb => ?_) (fun hb => ?_))
    | (intro hb)
    | (conv => whnf)))
  exact hS (loop n.toNat 1 _ (by omega) (by omega) (by omega))
set_option maxHeartbeats 2000000 in
theorem s_C_sum43 {G : am_G} {d : Nat} {sh : Int → Option Nat} {V : am_V} {T : Nat} {Q : Option AV → am_V → am_T → Nat → Prop} {p sort n s : Int} (hp : 1 < p ∧ p ≤ 2000000000) (e0 : V 63 0 = p) (hs : 0 ≤ s ∧ s < 8) (ho : 0 ≤ sort ∧ sort ≤ 2) (hn : 1 ≤ n ∧ n ≤ 8) (hm : sr_rg p (fun j => V 32 (64 * s + j)) (n - 1)) (hc : ∀ k, 1 ≤ k → k < n → 0 ≤ V 43 k ∧ V 43 k < p) (hk : sort = 1 → sr_kp V p (fun j => V 32 (64 * s + j)) (n - 1)) (hQ : Q (some (vJ (sr_ls p (fun j => V 32 (64 * s + j)) (V 43) sort n (n - 1).toNat))) V (am_RF sh) T) : am_Calls G (d + 2) 143 [vR 63, vI sort, vI n, vR 43, vW 32 s] V (am_RF sh) T Q := by
  refine am_enter mt_C_sumOfFiner ok_C_sumOfFiner rfl ?_
  obtain ⟨m, em⟩ : ∃ m : Int → Int, m = fun j => V 32 (64 * s + j) := ⟨_, rfl⟩
  rw [← em] at hm hk hQ
  have emj : ∀ j, V 32 (64 * s + j) = m j := fun j => by rw [em]
  have hmr : ∀ j, 0 ≤ j → j < n → 0 ≤ m j ∧ m j < p := fun j a b => by
    by_cases q : j = 0
    · rw [q, hm.1]; omega
    · exact hm.2 j (by omega) (by omega)
  have loop : ∀ (jj : Nat) (t : Int) (x10 : Option AV), 1 ≤ t → t ≤ n → n - t < jj → am_Sem G (d + 1) 143 V T Q 9 [some (vR 63), some (vI sort), some (vI n), some (vR 43), some (vW 32 s), some (vJ (sr_ls p m (V 43) sort n (t - 1).toNat)), none, some (vJ (sr_ch (n - 1) (t - 1).toNat)), none, some (vI t), x10, none] [] V (am_RF sh) T 0 0 := by
    intro jj
    induction jj with
    | zero => intro t x10 a b c; omega
    | succ jj ih =>
      intro t x10 a b c
      by_cases ht : t = n
      · subst ht
        refine am_run 400 mt_C_sumOfFiner ok_C_sumOfFiner (fun K S hK hS => ?_)
        iterate 30 (all_goals (first
          | (refine And.intro (by omega) ?_)
          | (refine And.intro (fun hb => absurd hb (by omega)) (fun hb => ?_))
          | (refine And.intro (fun hb => ?_) (fun hb => absurd hb (by omega)))
          | (refine And.intro (fun hb => ?_) (fun hb => ?_))
          | (intro hb)
          | (conv => whnf)))
        exact hQ
      · have r1 := sr_ls_rg (p := p) (m := m) (c := V 43) (sort := sort) (n := n) (by omega) (t - 1).toNat
        have r2 := hc t a (by omega)
        have r3 := sr_ch_b (n := n - 1) (t := (t - 1).toNat) (by omega) (by omega) (by omega)
        have r4 := hmr (n - t) (by omega) (by omega)
        have r5 := sr_ch_b (n := n - 1) (t := t.toNat) (by omega) (by omega) (by omega)
        have ech : sr_ch (n - 1) (t - 1).toNat * (n - t) / t = sr_ch (n - 1) t.toNat := by
          rw [show t.toNat = (t - 1).toNat + 1 by omega, sr_ch, show (((t - 1).toNat : Nat) : Int) = t - 1 by omega, show n - 1 - (t - 1) = n - t by omega, show t - 1 + 1 = t by omega]
        have rch : 0 ≤ sr_ch (n - 1) (t - 1).toNat * (n - t) ∧ sr_ch (n - 1) (t - 1).toNat * (n - t) ≤ 1000 := by
          refine ⟨Int.mul_nonneg r3.1 (by omega), ?_⟩
          have : sr_ch (n - 1) (t - 1).toNat * (n - t) ≤ 100 * 8 := Int.mul_le_mul r3.2 (by omega) (by omega) (by omega)
          omega
        have els : ∀ o, o = sr_ot p m sort n t → 0 ≤ o ∧ o < p → Int.tmod (sr_ls p m (V 43) sort n (t - 1).toNat + V 43 t * o) p = sr_ls p m (V 43) sort n t.toNat := fun o ho hr => by
          have rm := m_mulr r2.1 r2.2 hr.1 hr.2 hp.2
          rw [m_tm (by omega), show t.toNat = (t - 1).toNat + 1 by omega, sr_ls, show (((t - 1).toNat : Nat) : Int) = t - 1 by omega, show t - 1 + 1 = t by omega, ho]
        have ih := fun x => ih (t + 1) x (by omega) (by omega) (by omega)
        rw [show t + 1 - 1 = t by omega] at ih
        have fin : ∀ o, o = sr_ot p m sort n t → 0 ≤ o ∧ o < p → am_Sem G (d + 1) 143 V T Q 9 [some (vR 63), some (vI sort), some (vI n), some (vR 43), some (vW 32 s), some (vJ (Int.tmod (sr_ls p m (V 43) sort n (t - 1).toNat + V 43 t * o) p)), none, some (vJ (sr_ch (n - 1) (t - 1).toNat * (n - t) / t)), none, some (vI (t + 1)), some (vJ o), none] [] V (am_RF sh) T 0 0 := fun o h1 h2 => by
          rw [els o h1 h2, ech]
          exact ih _
        have fin2 : ∀ L C, L = sr_ls p m (V 43) sort n (t - 1).toNat → C = sr_ch (n - 1) (t - 1).toNat → ∀ o, o = sr_ot p m sort n t → 0 ≤ o ∧ o < p → am_Sem G (d + 1) 143 V T Q 9 [some (vR 63), some (vI sort), some (vI n), some (vR 43), some (vW 32 s), some (vJ (Int.tmod (L + V 43 t * o) p)), none, some (vJ (C * (n - t) / t)), none, some (vI (t + 1)), some (vJ o), none] [] V (am_RF sh) T 0 0 := fun L C h1 h2 => by rw [h1, h2]; exact fin
        have rmm : ∀ L o, (0 ≤ L ∧ L < p) → 0 ≤ o ∧ o < p → am_in64 (L + V 43 t * o) := fun L o hL hr => by
          have rm := m_mulr r2.1 r2.2 hr.1 hr.2 hp.2
          constructor <;> omega
        obtain ⟨L, hL⟩ : ∃ L, L = sr_ls p m (V 43) sort n (t - 1).toNat := ⟨_, rfl⟩
        obtain ⟨C, hC⟩ : ∃ C, C = sr_ch (n - 1) (t - 1).toNat := ⟨_, rfl⟩
        rw [← hL, ← hC]
        rw [← hL] at r1
        rw [← hC] at r3 rch
        have fin3 := fin2 L C hL hC
        clear ech els fin fin2 ih r5
        by_cases h1 : sort = 1
        · have ep : V 65 (64 * t + (n - t)) = sr_pw p m t.toNat (n - t) := hk h1 t (n - t) a (by omega) (by omega) (by omega)
          have rp := sr_pw_rg (p := p) (m := m) (by omega) t.toNat (n - t)
          have eo : sr_pw p m t.toNat (n - t) = sr_ot p m sort n t := by unfold sr_ot; rw [if_pos h1]
          obtain ⟨O, hO⟩ : ∃ O, O = sr_pw p m t.toNat (n - t) := ⟨_, rfl⟩
          rw [← hO] at ep rp eo
          have rx := rmm L O r1 rp
          clear hL hC hO rmm
          refine am_run 400 mt_C_sumOfFiner ok_C_sumOfFiner (fun K S hK hS => ?_)
          iterate 30 (all_goals (first
            | (refine And.intro (by omega) ?_)
            | (refine And.intro (fun hb => absurd hb (by omega)) (fun hb => ?_))
            | (refine And.intro (fun hb => ?_) (fun hb => absurd hb (by omega)))
            | (refine And.intro (fun hb => ?_) (fun hb => ?_))
            | (intro hb)
            | (conv => whnf)))
          refine hK (s_P_at (by omega) (by omega) ?_)
          rw [ep]
          iterate 51 (all_goals (first
            | (simp only [am_st2, am_st1, am_set, am_cut, am_get])
            | (refine And.intro (⟨by with_reducible assumption, by omega⟩) ?_)
            | (refine And.intro (by omega) ?_)
            | (refine And.intro (fun hb => absurd hb (by omega)) (fun hb => ?_))
            | (refine And.intro (fun hb => ?_) (fun hb => absurd hb (by omega)))
            | (refine And.intro (fun hb => ?_) (fun hb => ?_))
            | (intro hb)
            | (simp only [e0])
            | (conv => whnf)))
          exact hS (fin3 _ eo rp)
        · by_cases h2 : sort = 0
          · have h0 : 0 ≤ m (n - t) * C := Int.mul_nonneg r4.1 r3.1
            have h4 : m (n - t) * C ≤ 2000000000 * 100 := Int.mul_le_mul (by omega) r3.2 r3.1 (by omega)
            have eo : Int.tmod (m (n - t) * C) p = sr_ot p m sort n t := by
              unfold sr_ot
              rw [if_neg h1, if_pos h2, m_tm h0, hC]
            have ro : 0 ≤ Int.tmod (m (n - t) * C) p ∧ Int.tmod (m (n - t) * C) p < p := by
              rw [m_tm h0]
              exact m_modr (by omega)
            have rx : am_in64 (m (n - t) * C) := by constructor <;> omega
            have ry := rmm L _ r1 ro
            have fin4 := fin3 _ eo ro
            clear hL hC rmm eo ro h0 h4 fin3
            refine am_run 400 mt_C_sumOfFiner ok_C_sumOfFiner (fun K S hK hS => ?_)
            iterate 51 (all_goals (first
              | (simp only [am_st2, am_st1, am_set, am_cut, am_get])
              | (refine And.intro (⟨by with_reducible assumption, by omega⟩) ?_)
              | (refine And.intro (by omega) ?_)
              | (refine And.intro (fun hb => absurd hb (by omega)) (fun hb => ?_))
              | (refine And.intro (fun hb => ?_) (fun hb => absurd hb (by omega)))
              | (refine And.intro (fun hb => ?_) (fun hb => ?_))
              | (intro hb)
              | (simp only [e0, emj])
              | (conv => whnf)))
            exact hS fin4
          · have eo : m (n - t) = sr_ot p m sort n t := by
              unfold sr_ot
              rw [if_neg h1, if_neg h2, Int.mul_one, Int.emod_eq_of_lt r4.1 r4.2]
            have ry := rmm L _ r1 r4
            clear hL hC rmm
            refine am_run 400 mt_C_sumOfFiner ok_C_sumOfFiner (fun K S hK hS => ?_)
            iterate 51 (all_goals (first
              | (simp only [am_st2, am_st1, am_set, am_cut, am_get])
              | (refine And.intro (⟨by with_reducible assumption, by omega⟩) ?_)
              | (refine And.intro (by omega) ?_)
              | (refine And.intro (fun hb => absurd hb (by omega)) (fun hb => ?_))
              | (refine And.intro (fun hb => ?_) (fun hb => absurd hb (by omega)))
              | (refine And.intro (fun hb => ?_) (fun hb => ?_))
              | (intro hb)
              | (simp only [e0, emj])
              | (conv => whnf)))
            exact hS (fin3 _ eo r4)
  refine am_run 400 mt_C_sumOfFiner ok_C_sumOfFiner (fun K S hK hS => ?_)
  iterate 30 (all_goals (first
    | (refine And.intro (by omega) ?_)
    | (refine And.intro (fun hb => absurd hb (by omega)) (fun hb => ?_))
    | (refine And.intro (fun hb => ?_) (fun hb => absurd hb (by omega)))
    | (refine And.intro (fun hb => ?_) (fun hb => ?_))
    | (intro hb)
    | (conv => whnf)))
  exact hS (loop n.toNat 1 _ (by omega) (by omega) (by omega))
theorem s_C_of42 {G : am_G} {d : Nat} {sh : Int → Option Nat} {V : am_V} {T : Nat} {Q : Option AV → am_V → am_T → Nat → Prop} {p sort n s : Int} (hp : 1 < p ∧ p ≤ 2000000000) (e0 : V 63 0 = p) (e64 : V 64 0 = p) (hs : 0 ≤ s ∧ s < 8) (ho : 0 ≤ sort ∧ sort ≤ 2) (hn : 1 ≤ n ∧ n ≤ 8) (hm : sr_rg p (fun j => V 32 (64 * s + j)) n) (hQ : ∀ V', (∀ a, a ≠ 65 → a ≠ 42 → V' a = V a) → (∀ j, 0 ≤ j → j < 64 → V' 65 j = V 65 j) → (∀ k, 1 ≤ k → k ≤ n → 0 ≤ V' 42 k ∧ V' 42 k < p) → (∀ k, 1 ≤ k → k ≤ n → V' 42 k = (V 32 (64 * s + k) + p - sr_ls p (fun j => V 32 (64 * s + j)) (V' 42) sort k (k - 1).toNat) % p) → Q none V' (am_RF sh) T) : am_Calls G (d + 4) 141 [vR 63, vI sort, vI n, vW 32 s, vR 42] V (am_RF sh) T Q := by
  refine am_enter mt_C_ofMoments ok_C_ofMoments rfl ?_
  obtain ⟨m, em⟩ : ∃ m : Int → Int, m = fun j => V 32 (64 * s + j) := ⟨_, rfl⟩
  rw [← em] at hm hQ
  have emj : ∀ j, V 32 (64 * s + j) = m j := fun j => by rw [em]
  have loop : ∀ (jj : Nat) (k : Int) (W : am_V), 1 ≤ k → k ≤ n + 1 → n + 1 - k < jj → (∀ a, a ≠ 65 → a ≠ 42 → W a = V a) → (∀ j, 0 ≤ j → j < 64 → W 65 j = V 65 j) → (sort = 1 → sr_kp W p m (k - 1)) → (∀ i, 1 ≤ i → i < k → 0 ≤ W 42 i ∧ W 42 i < p) → (∀ i, 1 ≤ i → i < k → W 42 i = (m i + p - sr_ls p m (W 42) sort i (i - 1).toNat) % p) → am_Sem G (d + 3) 141 V T Q 11 [some (vR 63), some (vI sort), some (vI n), some (vW 32 s), some (vR 42), some (vI k)] [] W (am_RF sh) T 0 0 := by
    intro jj
    induction jj with
    | zero => intro k W a b c; omega
    | succ jj ih =>
      intro k W a b c w1 w2 w3 w4 w5
      by_cases hk : k = n + 1
      · refine am_run 400 mt_C_ofMoments ok_C_ofMoments (fun K S hK hS => ?_)
        iterate 30 (all_goals (first
          | (refine And.intro (by omega) ?_)
          | (refine And.intro (fun hb => absurd hb (by omega)) (fun hb => ?_))
          | (refine And.intro (fun hb => ?_) (fun hb => absurd hb (by omega)))
          | (refine And.intro (fun hb => ?_) (fun hb => ?_))
          | (intro hb)
          | (conv => whnf)))
        refine hQ W w1 w2 (fun i a b => w4 i a (by omega)) (fun i a b => ?_)
        rw [emj]
        exact w5 i a (by omega)
      · have f63 : W 63 0 = p := by rw [w1 63 (by decide) (by decide)]; exact e0
        have f64 : W 64 0 = p := by rw [w1 64 (by decide) (by decide)]; exact e64
        have f32 : ∀ j, W 32 (64 * s + j) = m j := fun j => by rw [w1 32 (by decide) (by decide)]; exact emj j
        have fm : (fun j => W 32 (64 * s + j)) = m := funext f32
        have rk := hm.2 k a (by omega)
        refine am_run 400 mt_C_ofMoments ok_C_ofMoments (fun K S hK hS => ?_)
        iterate 30 (all_goals (first
          | (refine And.intro (by omega) ?_)
          | (refine And.intro (by decide) ?_)
          | (refine And.intro (fun hb => absurd hb (by omega)) (fun hb => ?_))
          | (refine And.intro (fun hb => ?_) (fun hb => absurd hb (by omega)))
          | (refine And.intro (fun hb => ?_) (fun hb => ?_))
          | (intro hb)
          | (simp only [f63, f32])
          | (conv => whnf)))
        refine hK (s_C_sum42 hp f63 hs ho (by omega) (by rw [fm]; exact ⟨hm.1, fun j a1 a2 => hm.2 j a1 (by omega)⟩) (fun i a1 a2 => w4 i a1 a2) (fun q => by rw [fm]; exact w3 q) ?_)
        rw [fm]
        have rl := sr_ls_rg (p := p) (m := m) (c := W 42) (sort := sort) (n := k) (by omega) (k - 1).toNat
        have rv : 0 ≤ (m k + p - sr_ls p m (W 42) sort k (k - 1).toNat) % p ∧ (m k + p - sr_ls p m (W 42) sort k (k - 1).toNat) % p < p := m_modr (by omega)
        have et : Int.tmod (m k + p - sr_ls p m (W 42) sort k (k - 1).toNat) p = (m k + p - sr_ls p m (W 42) sort k (k - 1).toNat) % p := m_tm (by omega)
        iterate 30 (all_goals (first
          | (refine And.intro (by omega) ?_)
          | (refine And.intro (by decide) ?_)
          | (refine And.intro (fun hb => absurd hb (by omega)) (fun hb => ?_))
          | (refine And.intro (fun hb => ?_) (fun hb => absurd hb (by omega)))
          | (refine And.intro (fun hb => ?_) (fun hb => ?_))
          | (intro hb)
          | (simp only [f63, et])
          | (conv => whnf)))
        obtain ⟨v, hv⟩ : ∃ v, v = (m k + p - sr_ls p m (W 42) sort k (k - 1).toNat) % p := ⟨_, rfl⟩
        rw [← hv] at rv ⊢
        have g32 : ∀ j, am_up W 42 k v 32 (64 * s + j) = m j := fun j => by rw [am_up_ne (by decide)]; exact f32 j
        have nx : ∀ U : am_V, (∀ a, a ≠ 65 → U a = am_up W 42 k v a) → (∀ j, 0 ≤ j → j < 64 → U 65 j = W 65 j) → (sort = 1 → sr_kp U p m k) → am_Sem G (d + 3) 141 V T Q 11 [some (vR 63), some (vI sort), some (vI n), some (vW 32 s), some (vR 42), some (vI (k + 1))] [] U (am_RF sh) T 0 0 := by
          intro U u1 u2 u3
          have uc : ∀ i, U 42 i = if i = k then v else W 42 i := fun i => by rw [u1 42 (by decide), am_up_at]
          have ul : ∀ i, 1 ≤ i → i ≤ k → sr_ls p m (U 42) sort i (i - 1).toNat = sr_ls p m (W 42) sort i (i - 1).toNat := fun i i1 i2 => sr_ls_eq (fun _ _ _ => rfl) _ (by omega) (fun y y1 y2 => by rw [uc, if_neg (by omega)])
          refine ih (k + 1) U (by omega) (by omega) (by omega) (fun x x1 x2 => by rw [u1 x x1, am_up_ne x2, w1 x x1 x2]) (fun j j1 j2 => by rw [u2 j j1 j2, w2 j j1 j2]) (fun q => by rw [show k + 1 - 1 = k by omega]; exact u3 q) (fun i i1 i2 => ?_) (fun i i1 i2 => ?_)
          · rw [uc]
            by_cases q : i = k
            · rw [if_pos q]; exact rv
            · rw [if_neg q]; exact w4 i i1 (by omega)
          · rw [ul i i1 (by omega), uc]
            by_cases q : i = k
            · rw [if_pos q, q]; exact hv
            · rw [if_neg q]; exact w5 i i1 (by omega)
        iterate 30 (all_goals (first
          | (refine And.intro (by omega) ?_)
          | (refine And.intro (by decide) ?_)
          | (refine And.intro (fun hb => absurd hb (by omega)) (fun hb => ?_))
          | (refine And.intro (fun hb => ?_) (fun hb => absurd hb (by omega)))
          | (refine And.intro (fun hb => ?_) (fun hb => ?_))
          | (intro hb)
          | (simp only [g32])
          | (conv => whnf)))
        refine hK (s_C_keepPowers (m := m) hp (by rw [am_up_ne (by decide)]; exact f64) ⟨by omega, by omega⟩ rk ⟨hm.1, fun j a1 a2 => hm.2 j a1 (by omega)⟩ rfl (by omega) (fun q => ?_) (fun q U u1 u2 u3 => ?_) (fun q => ?_))
        · intro e j a1 a2 a3 a4
          rw [am_up_ne (by decide)]
          exact w3 q e j a1 a2 a3 a4
        · iterate 30 (all_goals (first
            | (refine And.intro (by omega) ?_)
            | (refine And.intro (fun hb => absurd hb (by omega)) (fun hb => ?_))
            | (refine And.intro (fun hb => ?_) (fun hb => absurd hb (by omega)))
            | (refine And.intro (fun hb => ?_) (fun hb => ?_))
            | (intro hb)
            | (conv => whnf)))
          exact hS (nx U u1 (fun j j1 j2 => by rw [u2 j j1 j2, am_up_ne (by decide)]) (fun _ => u3))
        · iterate 30 (all_goals (first
            | (refine And.intro (by omega) ?_)
            | (refine And.intro (fun hb => absurd hb (by omega)) (fun hb => ?_))
            | (refine And.intro (fun hb => ?_) (fun hb => absurd hb (by omega)))
            | (refine And.intro (fun hb => ?_) (fun hb => ?_))
            | (intro hb)
            | (conv => whnf)))
          exact hS (nx _ (fun _ _ => rfl) (fun j j1 j2 => by rw [am_up_ne (by decide)]) (fun e => absurd e q))
  refine am_run 400 mt_C_ofMoments ok_C_ofMoments (fun K S hK hS => ?_)
  iterate 30 (all_goals (first
    | (refine And.intro (by omega) ?_)
    | (refine And.intro (fun hb => absurd hb (by omega)) (fun hb => ?_))
    | (refine And.intro (fun hb => ?_) (fun hb => absurd hb (by omega)))
    | (refine And.intro (fun hb => ?_) (fun hb => ?_))
    | (intro hb)
    | (conv => whnf)))
  refine hK (s_P_begin64 (fun W w1 w2 w3 => ?_))
  iterate 30 (all_goals (first
    | (refine And.intro (by omega) ?_)
    | (refine And.intro (fun hb => absurd hb (by omega)) (fun hb => ?_))
    | (refine And.intro (fun hb => ?_) (fun hb => absurd hb (by omega)))
    | (refine And.intro (fun hb => ?_) (fun hb => ?_))
    | (intro hb)
    | (conv => whnf)))
  refine hS (loop (n + 1).toNat 1 W (by omega) (by omega) (by omega) (fun a a1 a2 => w1 a a1) (fun j j1 j2 => w3 j (fun e e1 e2 => by omega)) (fun q e j a1 a2 a3 a4 => ?_) (fun i a b => absurd b (by omega)) (fun i a b => absurd b (by omega)))
  rw [show j = 0 by omega, Int.add_zero, w2 e a1 a2, sr_pw00 (by omega) hm.1]
theorem s_C_of43 {G : am_G} {d : Nat} {sh : Int → Option Nat} {V : am_V} {T : Nat} {Q : Option AV → am_V → am_T → Nat → Prop} {p sort n s : Int} (hp : 1 < p ∧ p ≤ 2000000000) (e0 : V 63 0 = p) (e64 : V 64 0 = p) (hs : 0 ≤ s ∧ s < 8) (ho : 0 ≤ sort ∧ sort ≤ 2) (hn : 1 ≤ n ∧ n ≤ 8) (hm : sr_rg p (fun j => V 32 (64 * s + j)) n) (hQ : ∀ V', (∀ a, a ≠ 65 → a ≠ 43 → V' a = V a) → (∀ j, 0 ≤ j → j < 64 → V' 65 j = V 65 j) → (∀ k, 1 ≤ k → k ≤ n → 0 ≤ V' 43 k ∧ V' 43 k < p) → (∀ k, 1 ≤ k → k ≤ n → V' 43 k = (V 32 (64 * s + k) + p - sr_ls p (fun j => V 32 (64 * s + j)) (V' 43) sort k (k - 1).toNat) % p) → Q none V' (am_RF sh) T) : am_Calls G (d + 4) 141 [vR 63, vI sort, vI n, vW 32 s, vR 43] V (am_RF sh) T Q := by
  refine am_enter mt_C_ofMoments ok_C_ofMoments rfl ?_
  obtain ⟨m, em⟩ : ∃ m : Int → Int, m = fun j => V 32 (64 * s + j) := ⟨_, rfl⟩
  rw [← em] at hm hQ
  have emj : ∀ j, V 32 (64 * s + j) = m j := fun j => by rw [em]
  have loop : ∀ (jj : Nat) (k : Int) (W : am_V), 1 ≤ k → k ≤ n + 1 → n + 1 - k < jj → (∀ a, a ≠ 65 → a ≠ 43 → W a = V a) → (∀ j, 0 ≤ j → j < 64 → W 65 j = V 65 j) → (sort = 1 → sr_kp W p m (k - 1)) → (∀ i, 1 ≤ i → i < k → 0 ≤ W 43 i ∧ W 43 i < p) → (∀ i, 1 ≤ i → i < k → W 43 i = (m i + p - sr_ls p m (W 43) sort i (i - 1).toNat) % p) → am_Sem G (d + 3) 141 V T Q 11 [some (vR 63), some (vI sort), some (vI n), some (vW 32 s), some (vR 43), some (vI k)] [] W (am_RF sh) T 0 0 := by
    intro jj
    induction jj with
    | zero => intro k W a b c; omega
    | succ jj ih =>
      intro k W a b c w1 w2 w3 w4 w5
      by_cases hk : k = n + 1
      · refine am_run 400 mt_C_ofMoments ok_C_ofMoments (fun K S hK hS => ?_)
        iterate 30 (all_goals (first
          | (refine And.intro (by omega) ?_)
          | (refine And.intro (fun hb => absurd hb (by omega)) (fun hb => ?_))
          | (refine And.intro (fun hb => ?_) (fun hb => absurd hb (by omega)))
          | (refine And.intro (fun hb => ?_) (fun hb => ?_))
          | (intro hb)
          | (conv => whnf)))
        refine hQ W w1 w2 (fun i a b => w4 i a (by omega)) (fun i a b => ?_)
        rw [emj]
        exact w5 i a (by omega)
      · have f63 : W 63 0 = p := by rw [w1 63 (by decide) (by decide)]; exact e0
        have f64 : W 64 0 = p := by rw [w1 64 (by decide) (by decide)]; exact e64
        have f32 : ∀ j, W 32 (64 * s + j) = m j := fun j => by rw [w1 32 (by decide) (by decide)]; exact emj j
        have fm : (fun j => W 32 (64 * s + j)) = m := funext f32
        have rk := hm.2 k a (by omega)
        refine am_run 400 mt_C_ofMoments ok_C_ofMoments (fun K S hK hS => ?_)
        iterate 30 (all_goals (first
          | (refine And.intro (by omega) ?_)
          | (refine And.intro (by decide) ?_)
          | (refine And.intro (fun hb => absurd hb (by omega)) (fun hb => ?_))
          | (refine And.intro (fun hb => ?_) (fun hb => absurd hb (by omega)))
          | (refine And.intro (fun hb => ?_) (fun hb => ?_))
          | (intro hb)
          | (simp only [f63, f32])
          | (conv => whnf)))
        refine hK (s_C_sum43 hp f63 hs ho (by omega) (by rw [fm]; exact ⟨hm.1, fun j a1 a2 => hm.2 j a1 (by omega)⟩) (fun i a1 a2 => w4 i a1 a2) (fun q => by rw [fm]; exact w3 q) ?_)
        rw [fm]
        have rl := sr_ls_rg (p := p) (m := m) (c := W 43) (sort := sort) (n := k) (by omega) (k - 1).toNat
        have rv : 0 ≤ (m k + p - sr_ls p m (W 43) sort k (k - 1).toNat) % p ∧ (m k + p - sr_ls p m (W 43) sort k (k - 1).toNat) % p < p := m_modr (by omega)
        have et : Int.tmod (m k + p - sr_ls p m (W 43) sort k (k - 1).toNat) p = (m k + p - sr_ls p m (W 43) sort k (k - 1).toNat) % p := m_tm (by omega)
        iterate 30 (all_goals (first
          | (refine And.intro (by omega) ?_)
          | (refine And.intro (by decide) ?_)
          | (refine And.intro (fun hb => absurd hb (by omega)) (fun hb => ?_))
          | (refine And.intro (fun hb => ?_) (fun hb => absurd hb (by omega)))
          | (refine And.intro (fun hb => ?_) (fun hb => ?_))
          | (intro hb)
          | (simp only [f63, et])
          | (conv => whnf)))
        obtain ⟨v, hv⟩ : ∃ v, v = (m k + p - sr_ls p m (W 43) sort k (k - 1).toNat) % p := ⟨_, rfl⟩
        rw [← hv] at rv ⊢
        have g32 : ∀ j, am_up W 43 k v 32 (64 * s + j) = m j := fun j => by rw [am_up_ne (by decide)]; exact f32 j
        have nx : ∀ U : am_V, (∀ a, a ≠ 65 → U a = am_up W 43 k v a) → (∀ j, 0 ≤ j → j < 64 → U 65 j = W 65 j) → (sort = 1 → sr_kp U p m k) → am_Sem G (d + 3) 141 V T Q 11 [some (vR 63), some (vI sort), some (vI n), some (vW 32 s), some (vR 43), some (vI (k + 1))] [] U (am_RF sh) T 0 0 := by
          intro U u1 u2 u3
          have uc : ∀ i, U 43 i = if i = k then v else W 43 i := fun i => by rw [u1 43 (by decide), am_up_at]
          have ul : ∀ i, 1 ≤ i → i ≤ k → sr_ls p m (U 43) sort i (i - 1).toNat = sr_ls p m (W 43) sort i (i - 1).toNat := fun i i1 i2 => sr_ls_eq (fun _ _ _ => rfl) _ (by omega) (fun y y1 y2 => by rw [uc, if_neg (by omega)])
          refine ih (k + 1) U (by omega) (by omega) (by omega) (fun x x1 x2 => by rw [u1 x x1, am_up_ne x2, w1 x x1 x2]) (fun j j1 j2 => by rw [u2 j j1 j2, w2 j j1 j2]) (fun q => by rw [show k + 1 - 1 = k by omega]; exact u3 q) (fun i i1 i2 => ?_) (fun i i1 i2 => ?_)
          · rw [uc]
            by_cases q : i = k
            · rw [if_pos q]; exact rv
            · rw [if_neg q]; exact w4 i i1 (by omega)
          · rw [ul i i1 (by omega), uc]
            by_cases q : i = k
            · rw [if_pos q, q]; exact hv
            · rw [if_neg q]; exact w5 i i1 (by omega)
        iterate 30 (all_goals (first
          | (refine And.intro (by omega) ?_)
          | (refine And.intro (by decide) ?_)
          | (refine And.intro (fun hb => absurd hb (by omega)) (fun hb => ?_))
          | (refine And.intro (fun hb => ?_) (fun hb => absurd hb (by omega)))
          | (refine And.intro (fun hb => ?_) (fun hb => ?_))
          | (intro hb)
          | (simp only [g32])
          | (conv => whnf)))
        refine hK (s_C_keepPowers (m := m) hp (by rw [am_up_ne (by decide)]; exact f64) ⟨by omega, by omega⟩ rk ⟨hm.1, fun j a1 a2 => hm.2 j a1 (by omega)⟩ rfl (by omega) (fun q => ?_) (fun q U u1 u2 u3 => ?_) (fun q => ?_))
        · intro e j a1 a2 a3 a4
          rw [am_up_ne (by decide)]
          exact w3 q e j a1 a2 a3 a4
        · iterate 30 (all_goals (first
            | (refine And.intro (by omega) ?_)
            | (refine And.intro (fun hb => absurd hb (by omega)) (fun hb => ?_))
            | (refine And.intro (fun hb => ?_) (fun hb => absurd hb (by omega)))
            | (refine And.intro (fun hb => ?_) (fun hb => ?_))
            | (intro hb)
            | (conv => whnf)))
          exact hS (nx U u1 (fun j j1 j2 => by rw [u2 j j1 j2, am_up_ne (by decide)]) (fun _ => u3))
        · iterate 30 (all_goals (first
            | (refine And.intro (by omega) ?_)
            | (refine And.intro (fun hb => absurd hb (by omega)) (fun hb => ?_))
            | (refine And.intro (fun hb => ?_) (fun hb => absurd hb (by omega)))
            | (refine And.intro (fun hb => ?_) (fun hb => ?_))
            | (intro hb)
            | (conv => whnf)))
          exact hS (nx _ (fun _ _ => rfl) (fun j j1 j2 => by rw [am_up_ne (by decide)]) (fun e => absurd e q))
  refine am_run 400 mt_C_ofMoments ok_C_ofMoments (fun K S hK hS => ?_)
  iterate 30 (all_goals (first
    | (refine And.intro (by omega) ?_)
    | (refine And.intro (fun hb => absurd hb (by omega)) (fun hb => ?_))
    | (refine And.intro (fun hb => ?_) (fun hb => absurd hb (by omega)))
    | (refine And.intro (fun hb => ?_) (fun hb => ?_))
    | (intro hb)
    | (conv => whnf)))
  refine hK (s_P_begin64 (fun W w1 w2 w3 => ?_))
  iterate 30 (all_goals (first
    | (refine And.intro (by omega) ?_)
    | (refine And.intro (fun hb => absurd hb (by omega)) (fun hb => ?_))
    | (refine And.intro (fun hb => ?_) (fun hb => absurd hb (by omega)))
    | (refine And.intro (fun hb => ?_) (fun hb => ?_))
    | (intro hb)
    | (conv => whnf)))
  refine hS (loop (n + 1).toNat 1 W (by omega) (by omega) (by omega) (fun a a1 a2 => w1 a a1) (fun j j1 j2 => w3 j (fun e e1 e2 => by omega)) (fun q e j a1 a2 a3 a4 => ?_) (fun i a b => absurd b (by omega)) (fun i a b => absurd b (by omega)))
  rw [show j = 0 by omega, Int.add_zero, w2 e a1 a2, sr_pw00 (by omega) hm.1]
theorem s_C_to {G : am_G} {d : Nat} {sh : Int → Option Nat} {V : am_V} {T : Nat} {Q : Option AV → am_V → am_T → Nat → Prop} {p sort n s : Int} (hp : 1 < p ∧ p ≤ 2000000000) (e0 : V 63 0 = p) (e64 : V 64 0 = p) (hs : 0 ≤ s ∧ s < 8) (ho : 0 ≤ sort ∧ sort ≤ 2) (hn : 1 ≤ n ∧ n ≤ 8) (h1 : V 32 (64 * s) = 1) (hc : ∀ k, 1 ≤ k → k ≤ n → 0 ≤ V 42 k ∧ V 42 k < p) (hQ : ∀ V', (∀ a, a ≠ 65 → a ≠ 32 → V' a = V a) → (∀ j, 0 ≤ j → j < 64 → V' 65 j = V 65 j) → (∀ j, ¬ (64 * s + 1 ≤ j ∧ j ≤ 64 * s + n) → V' 32 j = V 32 j) → (∀ k, 1 ≤ k → k ≤ n → 0 ≤ V' 32 (64 * s + k) ∧ V' 32 (64 * s + k) < p) → (∀ k, 1 ≤ k → k ≤ n → V' 32 (64 * s + k) = (V 42 k + sr_ls p (fun j => V' 32 (64 * s + j)) (V 42) sort k (k - 1).toNat) % p) → Q none V' (am_RF sh) T) : am_Calls G (d + 4) 140 [vR 63, vI sort, vI n, vR 42, vW 32 s] V (am_RF sh) T Q := by
  refine am_enter mt_C_toMoments ok_C_toMoments rfl ?_
  have loop : ∀ (jj : Nat) (k : Int) (W : am_V), 1 ≤ k → k ≤ n + 1 → n + 1 - k < jj → (∀ a, a ≠ 65 → a ≠ 32 → W a = V a) → (∀ j, 0 ≤ j → j < 64 → W 65 j = V 65 j) → (∀ j, ¬ (64 * s + 1 ≤ j ∧ j < 64 * s + k) → W 32 j = V 32 j) → (sort = 1 → sr_kp W p (fun j => W 32 (64 * s + j)) (k - 1)) → (∀ i, 1 ≤ i → i < k → 0 ≤ W 32 (64 * s + i) ∧ W 32 (64 * s + i) < p) → (∀ i, 1 ≤ i → i < k → W 32 (64 * s + i) = (V 42 i + sr_ls p (fun j => W 32 (64 * s + j)) (V 42) sort i (i - 1).toNat) % p) → am_Sem G (d + 3) 140 V T Q 11 [some (vR 63), some (vI sort), some (vI n), some (vR 42), some (vW 32 s), some (vI k)] [] W (am_RF sh) T 0 0 := by
    intro jj
    induction jj with
    | zero => intro k W a b c; omega
    | succ jj ih =>
      intro k W a b c w1 w2 w6 w3 w4 w5
      by_cases hk : k = n + 1
      · refine am_run 400 mt_C_toMoments ok_C_toMoments (fun K S hK hS => ?_)
        iterate 30 (all_goals (first
          | (refine And.intro (by omega) ?_)
          | (refine And.intro (fun hb => absurd hb (by omega)) (fun hb => ?_))
          | (refine And.intro (fun hb => ?_) (fun hb => absurd hb (by omega)))
          | (refine And.intro (fun hb => ?_) (fun hb => ?_))
          | (intro hb)
          | (conv => whnf)))
        exact hQ W w1 w2 (fun j q => w6 j (by omega)) (fun i a b => w4 i a (by omega)) (fun i a b => w5 i a (by omega))
      · have f63 : W 63 0 = p := by rw [w1 63 (by decide) (by decide)]; exact e0
        have f64 : W 64 0 = p := by rw [w1 64 (by decide) (by decide)]; exact e64
        have f42 : W 42 = V 42 := w1 42 (by decide) (by decide)
        have f42k : ∀ k, W 42 k = V 42 k := fun k => by rw [f42]
        have m0 : W 32 (64 * s) = 1 := by rw [w6 _ (by omega)]; exact h1
        have m0' : W 32 (64 * s + 0) = 1 := by rw [Int.add_zero]; exact m0
        have rk := hc k a (by omega)
        refine am_run 400 mt_C_toMoments ok_C_toMoments (fun K S hK hS => ?_)
        iterate 30 (all_goals (first
          | (refine And.intro (by omega) ?_)
          | (refine And.intro (by decide) ?_)
          | (refine And.intro (fun hb => absurd hb (by omega)) (fun hb => ?_))
          | (refine And.intro (fun hb => ?_) (fun hb => absurd hb (by omega)))
          | (refine And.intro (fun hb => ?_) (fun hb => ?_))
          | (intro hb)
          | (simp only [f63, f42k])
          | (conv => whnf)))
        refine hK (s_C_sum42 hp f63 hs ho (by omega) ⟨m0', fun j a1 a2 => w4 j a1 (by omega)⟩ (fun i a1 a2 => by rw [f42]; exact hc i a1 (by omega)) (fun q => w3 q) ?_)
        rw [f42]
        have rl := sr_ls_rg (p := p) (m := fun j => W 32 (64 * s + j)) (c := V 42) (sort := sort) (n := k) (by omega) (k - 1).toNat
        have rv : 0 ≤ (V 42 k + sr_ls p (fun j => W 32 (64 * s + j)) (V 42) sort k (k - 1).toNat) % p ∧ (V 42 k + sr_ls p (fun j => W 32 (64 * s + j)) (V 42) sort k (k - 1).toNat) % p < p := m_modr (by omega)
        have et : Int.tmod (V 42 k + sr_ls p (fun j => W 32 (64 * s + j)) (V 42) sort k (k - 1).toNat) p = (V 42 k + sr_ls p (fun j => W 32 (64 * s + j)) (V 42) sort k (k - 1).toNat) % p := m_tm (by omega)
        iterate 30 (all_goals (first
          | (refine And.intro (by omega) ?_)
          | (refine And.intro (by decide) ?_)
          | (refine And.intro (fun hb => absurd hb (by omega)) (fun hb => ?_))
          | (refine And.intro (fun hb => ?_) (fun hb => absurd hb (by omega)))
          | (refine And.intro (fun hb => ?_) (fun hb => ?_))
          | (intro hb)
          | (simp only [f63, et])
          | (conv => whnf)))
        obtain ⟨v, hv⟩ : ∃ v, v = (V 42 k + sr_ls p (fun j => W 32 (64 * s + j)) (V 42) sort k (k - 1).toNat) % p := ⟨_, rfl⟩
        rw [← hv] at rv ⊢
        have gk : am_up W 32 (64 * s + k) v 32 (64 * s + k) = v := am_up_same
        have nx : ∀ U : am_V, (∀ a, a ≠ 65 → U a = am_up W 32 (64 * s + k) v a) → (∀ j, 0 ≤ j → j < 64 → U 65 j = W 65 j) → (sort = 1 → sr_kp U p (fun j => U 32 (64 * s + j)) k) → am_Sem G (d + 3) 140 V T Q 11 [some (vR 63), some (vI sort), some (vI n), some (vR 42), some (vW 32 s), some (vI (k + 1))] [] U (am_RF sh) T 0 0 := by
          intro U u1 u2 u3
          have uc : ∀ i, U 32 i = if i = 64 * s + k then v else W 32 i := fun i => by rw [u1 32 (by decide), am_up_at]
          have ul : ∀ i, 1 ≤ i → i ≤ k → sr_ls p (fun j => U 32 (64 * s + j)) (V 42) sort i (i - 1).toNat = sr_ls p (fun j => W 32 (64 * s + j)) (V 42) sort i (i - 1).toNat := fun i i1 i2 => sr_ls_eq (fun y y1 y2 => by show U 32 (64 * s + y) = W 32 (64 * s + y); rw [uc, if_neg (by omega)]) _ (by omega) (fun _ _ _ => rfl)
          refine ih (k + 1) U (by omega) (by omega) (by omega) (fun x x1 x2 => by rw [u1 x x1, am_up_ne x2, w1 x x1 x2]) (fun j j1 j2 => by rw [u2 j j1 j2, w2 j j1 j2]) (fun j q => by rw [uc, if_neg (by omega), w6 j (by omega)]) (fun q => by rw [show k + 1 - 1 = k by omega]; exact u3 q) (fun i i1 i2 => ?_) (fun i i1 i2 => ?_)
          · rw [uc]
            by_cases q : i = k
            · rw [if_pos (by omega)]; exact rv
            · rw [if_neg (by omega)]; exact w4 i i1 (by omega)
          · rw [ul i i1 (by omega), uc]
            by_cases q : i = k
            · rw [if_pos (by omega), q]; exact hv
            · rw [if_neg (by omega)]; exact w5 i i1 (by omega)
        iterate 30 (all_goals (first
          | (refine And.intro (by omega) ?_)
          | (refine And.intro (by decide) ?_)
          | (refine And.intro (fun hb => absurd hb (by omega)) (fun hb => ?_))
          | (refine And.intro (fun hb => ?_) (fun hb => absurd hb (by omega)))
          | (refine And.intro (fun hb => ?_) (fun hb => ?_))
          | (intro hb)
          | (simp only [gk])
          | (conv => whnf)))
        refine hK (s_C_keepPowers (m := fun j => am_up W 32 (64 * s + k) v 32 (64 * s + j)) hp (by rw [am_up_ne (by decide)]; exact f64) ⟨by omega, by omega⟩ rv ⟨?_, fun j a1 a2 => ?_⟩ gk (by omega) (fun q => ?_) (fun q U u1 u2 u3 => ?_) (fun q => ?_))
        · show am_up W 32 (64 * s + k) v 32 (64 * s + 0) = 1
          rw [am_up_at, if_neg (by omega)]; exact m0'
        · show 0 ≤ am_up W 32 (64 * s + k) v 32 (64 * s + j) ∧ am_up W 32 (64 * s + k) v 32 (64 * s + j) < p
          rw [am_up_at]
          by_cases q : j = k
          · rw [if_pos (by omega)]; exact rv
          · rw [if_neg (by omega)]; exact w4 j a1 (by omega)
        · intro e j a1 a2 a3 a4
          rw [am_up_ne (by decide), w3 q e j a1 a2 a3 a4]
          exact sr_pw_eq _ _ (fun y y1 y2 => by show W 32 (64 * s + y) = am_up W 32 (64 * s + k) v 32 (64 * s + y); rw [am_up_at, if_neg (by omega)])
        · iterate 30 (all_goals (first
            | (refine And.intro (by omega) ?_)
            | (refine And.intro (fun hb => absurd hb (by omega)) (fun hb => ?_))
            | (refine And.intro (fun hb => ?_) (fun hb => absurd hb (by omega)))
            | (refine And.intro (fun hb => ?_) (fun hb => ?_))
            | (intro hb)
            | (conv => whnf)))
          refine hS (nx U u1 (fun j j1 j2 => by rw [u2 j j1 j2, am_up_ne (by decide)]) (fun _ => ?_))
          have eU : (fun j => U 32 (64 * s + j)) = (fun j => am_up W 32 (64 * s + k) v 32 (64 * s + j)) := by rw [u1 32 (by decide)]
          rw [eU]
          exact u3
        · iterate 30 (all_goals (first
            | (refine And.intro (by omega) ?_)
            | (refine And.intro (fun hb => absurd hb (by omega)) (fun hb => ?_))
            | (refine And.intro (fun hb => ?_) (fun hb => absurd hb (by omega)))
            | (refine And.intro (fun hb => ?_) (fun hb => ?_))
            | (intro hb)
            | (conv => whnf)))
          exact hS (nx _ (fun _ _ => rfl) (fun j j1 j2 => by rw [am_up_ne (by decide)]) (fun e => absurd e q))
  refine am_run 400 mt_C_toMoments ok_C_toMoments (fun K S hK hS => ?_)
  iterate 30 (all_goals (first
    | (refine And.intro (by omega) ?_)
    | (refine And.intro (fun hb => absurd hb (by omega)) (fun hb => ?_))
    | (refine And.intro (fun hb => ?_) (fun hb => absurd hb (by omega)))
    | (refine And.intro (fun hb => ?_) (fun hb => ?_))
    | (intro hb)
    | (conv => whnf)))
  refine hK (s_P_begin64 (fun W w1 w2 w3 => ?_))
  iterate 30 (all_goals (first
    | (refine And.intro (by omega) ?_)
    | (refine And.intro (fun hb => absurd hb (by omega)) (fun hb => ?_))
    | (refine And.intro (fun hb => ?_) (fun hb => absurd hb (by omega)))
    | (refine And.intro (fun hb => ?_) (fun hb => ?_))
    | (intro hb)
    | (conv => whnf)))
  have m0 : W 32 (64 * s) = 1 := by rw [w1 32 (by decide)]; exact h1
  refine hS (loop (n + 1).toNat 1 W (by omega) (by omega) (by omega) (fun a a1 a2 => w1 a a1) (fun j j1 j2 => w3 j (fun e e1 e2 => by omega)) (fun j _ => by rw [w1 32 (by decide)]) (fun q e j a1 a2 a3 a4 => ?_) (fun i a b => absurd b (by omega)) (fun i a b => absurd b (by omega)))
  rw [show j = 0 by omega, Int.add_zero, w2 e a1 a2, sr_pw00 (by omega) (by show W 32 (64 * s + 0) = 1; rw [Int.add_zero]; exact m0)]
