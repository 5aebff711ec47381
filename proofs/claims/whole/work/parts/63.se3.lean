/-! series: the reference -/
def sr_m (V : am_V) (s : Int) : Int → Int := fun j => if j = 0 then 1 else V 99 (9 * s + j)
theorem s_M_m {G : am_G} {d : Nat} {sh : Int → Option Nat} {V : am_V} {T : Nat} {Q : Option AV → am_V → am_T → Nat → Prop} {s n : Int} (hs : 0 ≤ s ∧ s < 8) (hn : 0 ≤ n ∧ n ≤ 8) (hQ : Q (some (vJ (sr_m V s n))) V (am_RF sh) T) : am_Calls G (d + 1) 119 [vR 86, vI s, vI n] V (am_RF sh) T Q := by
  refine am_enter mt_M_m ok_M_m rfl ?_
  by_cases h : n = 0
  · rw [sr_m, if_pos h] at hQ
    refine am_run 400 mt_M_m ok_M_m (fun K S hK hS => ?_)
    iterate 30 (all_goals (first
      | (refine And.intro (by omega) ?_)
      | (refine And.intro (fun hb => absurd hb (by omega)) (fun hb => ?_))
      | (refine And.intro (fun hb => ?_) (fun hb => absurd hb (by omega)))
      | (refine And.intro (fun hb => ?_) (fun hb => ?_))
      | (intro hb)
      | (conv => whnf)))
    exact hQ
  · rw [sr_m, if_neg h] at hQ
    refine am_run 400 mt_M_m ok_M_m (fun K S hK hS => ?_)
    iterate 30 (all_goals (first
      | (refine And.intro (by omega) ?_)
      | (refine And.intro (fun hb => absurd hb (by omega)) (fun hb => ?_))
      | (refine And.intro (fun hb => ?_) (fun hb => absurd hb (by omega)))
      | (refine And.intro (fun hb => ?_) (fun hb => ?_))
      | (intro hb)
      | (conv => whnf)))
    exact hQ
theorem sr_ch_zz : ∀ n : Fin 8, ∀ t : Fin 8, (n : Nat) < t → sr_ch ((n : Nat) : Int) t = 0 := by decide +kernel
theorem sr_ch_z {n : Int} {t : Nat} (h0 : 0 ≤ n) (h1 : n < t) (h2 : t < 8) : sr_ch n t = 0 := by
  have := sr_ch_zz ⟨n.toNat, by omega⟩ ⟨t, h2⟩ (by show n.toNat < t; omega)
  rw [show (((⟨n.toNat, by omega⟩ : Fin 8) : Nat) : Int) = n from Int.toNat_of_nonneg h0] at this
  exact this
theorem s_M_choose {G : am_G} {d : Nat} {V : am_V} {R : am_T} {T : Nat} {Q : Option AV → am_V → am_T → Nat → Prop} {n k : Int} (hn : 0 ≤ n ∧ n < 8) (hk : 0 ≤ k ∧ k < 8) (hQ : Q (some (vJ (sr_ch n k.toNat))) V R T) : am_Calls G (d + 1) 120 [vI n, vI k] V R T Q := by
  refine am_enter mt_M_choose ok_M_choose rfl ?_
  have loop : ∀ (jj : Nat) (t : Int), 1 ≤ t → t ≤ k + 1 → k + 1 - t < jj → am_Sem G d 120 V T Q 5 [some (vI n), some (vI k), some (vJ (sr_ch n (t - 1).toNat)), none, some (vI t)] [] V R T 0 0 := by
    intro jj
    induction jj with
    | zero => intro t a b c; omega
    | succ jj ih =>
      intro t a b c
      have r1 := sr_ch_b (n := n) (t := (t - 1).toNat) (by omega) (by omega) (by omega)
      by_cases ht : t = k + 1
      · rw [show (t - 1).toNat = k.toNat by omega]
        refine am_run 400 mt_M_choose ok_M_choose (fun K S hK hS => ?_)
        iterate 30 (all_goals (first
          | (simp only [am_st2, am_st1, am_set, am_cut, am_get])
          | (refine And.intro (by omega) ?_)
          | (refine And.intro (fun hb => absurd hb (by omega)) (fun hb => ?_))
          | (refine And.intro (fun hb => ?_) (fun hb => absurd hb (by omega)))
          | (refine And.intro (fun hb => ?_) (fun hb => ?_))
          | (intro hb)
          | (conv => whnf)))
        exact hQ
      · have r2 := sr_ch_b (n := n) (t := t.toNat) (by omega) (by omega) (by omega)
        have ih := ih (t + 1) (by omega) (by omega) (by omega)
        have es : sr_ch n (t + 1 - 1).toNat = sr_ch n (t - 1).toNat * (n - t + 1) / t := by
          rw [show (t + 1 - 1).toNat = (t - 1).toNat + 1 by omega, sr_ch, show (((t - 1).toNat : Nat) : Int) = t - 1 by omega, show n - (t - 1) = n - t + 1 by omega, show t - 1 + 1 = t by omega]
        rw [es] at ih
        have rg : t ≤ n + 1 → 0 ≤ sr_ch n (t - 1).toNat * (n - t + 1) ∧ sr_ch n (t - 1).toNat * (n - t + 1) ≤ 1000 := fun q => by
          refine ⟨Int.mul_nonneg r1.1 (by omega), ?_⟩
          have : sr_ch n (t - 1).toNat * (n - t + 1) ≤ 100 * 8 := Int.mul_le_mul r1.2 (by omega) (by omega) (by omega)
          omega
        have rg2 : 0 ≤ sr_ch n (t - 1).toNat * (n - t + 1) ∧ sr_ch n (t - 1).toNat * (n - t + 1) ≤ 1000 := by
          by_cases q : t ≤ n + 1
          · exact rg q
          · have z : sr_ch n (t - 1).toNat = 0 := sr_ch_z (by omega) (by omega) (by omega)
            rw [z, Int.zero_mul]; omega
        obtain ⟨C, hC⟩ : ∃ C, C = sr_ch n (t - 1).toNat := ⟨_, rfl⟩
        rw [← hC] at ih rg2 ⊢
        clear es rg r1 r2 hC
        refine am_run 400 mt_M_choose ok_M_choose (fun K S hK hS => ?_)
        iterate 30 (all_goals (first
          | (simp only [am_st2, am_st1, am_set, am_cut, am_get])
          | (refine And.intro (by omega) ?_)
          | (refine And.intro (fun hb => absurd hb (by omega)) (fun hb => ?_))
          | (refine And.intro (fun hb => ?_) (fun hb => absurd hb (by omega)))
          | (refine And.intro (fun hb => ?_) (fun hb => ?_))
          | (intro hb)
          | (conv => whnf)))
        exact hS ih
  refine am_run 400 mt_M_choose ok_M_choose (fun K S hK hS => ?_)
  iterate 30 (all_goals (first
    | (refine And.intro (by omega) ?_)
    | (refine And.intro (fun hb => absurd hb (by omega)) (fun hb => ?_))
    | (refine And.intro (fun hb => ?_) (fun hb => absurd hb (by omega)))
    | (refine And.intro (fun hb => ?_) (fun hb => ?_))
    | (intro hb)
    | (conv => whnf)))
  exact hS (loop (k + 1).toNat 1 (by omega) (by omega) (by omega))
def sr_pq (W : am_V) (p : Int) (m : Int → Int) (sort : Int) (e : Nat) : Prop := sort = 1 → ∀ k, 0 ≤ k → k ≤ 8 → W 102 k = sr_pw p m e k
theorem s_M_lesser {G : am_G} {d : Nat} {sh : Int → Option Nat} {V : am_V} {T : Nat} {Q : Option AV → am_V → am_T → Nat → Prop} {p sort n s f : Int} (hp : 1 < p ∧ p ≤ 2000000000) (e0 : V 86 2 = p) (hs : 0 ≤ s ∧ s < 8) (hf : 0 ≤ f ∧ f ≤ 18) (ho : 0 ≤ sort ∧ sort ≤ 2) (hn : 1 ≤ n ∧ n ≤ 8) (hm : sr_rg p (sr_m V s) 8) (hc : ∀ k, 1 ≤ k → k < n → 0 ≤ V 100 (f + k) ∧ V 100 (f + k) < p) (hQ : ∀ V', (∀ a, a ≠ 102 → V' a = V a) → Q (some (vJ (sr_ls p (sr_m V s) (fun k => V 100 (f + k)) sort n (n - 1).toNat))) V' (am_RF sh) T) : am_Calls G (d + 2) 121 [vR 86, vI s, vI f, vI sort, vI n] V (am_RF sh) T Q := by
  refine am_enter mt_M_lesser ok_M_lesser rfl ?_
  obtain ⟨m, em⟩ : ∃ m : Int → Int, m = sr_m V s := ⟨_, rfl⟩
  obtain ⟨c, ec⟩ : ∃ c : Int → Int, c = fun k => V 100 (f + k) := ⟨_, rfl⟩
  rw [← em] at hm hQ
  rw [← ec] at hQ
  have hcc : ∀ k, V 100 (f + k) = c k := fun k => by rw [ec]
  have hc' : ∀ k, 1 ≤ k → k < n → 0 ≤ c k ∧ c k < p := fun k a b => by rw [← hcc]; exact hc k a b
  clear hc
  have hmr : ∀ j, 0 ≤ j → j ≤ 8 → 0 ≤ m j ∧ m j < p := fun j a b => by
    by_cases q : j = 0
    · rw [q, hm.1]; omega
    · exact hm.2 j (by omega) b
  have mW : ∀ W : am_V, (∀ a, a ≠ 102 → W a = V a) → sr_m W s = m := fun W w => by
    rw [em]; unfold sr_m; rw [w 99 (by decide)]
  have loop2 : ∀ (jj : Nat) (t : Int) (x8 x10 x11 x13 : Option AV) (W : am_V), 1 ≤ t → t ≤ n → n - t < jj → (∀ a, a ≠ 102 → W a = V a) → sr_pq W p m sort (t - 1).toNat → am_Sem G (d + 1) 121 V T Q 39 [some (vR 86), some (vI s), some (vI f), some (vI sort), some (vI n), some (vJ (sr_ls p m c sort n (t - 1).toNat)), none, some (vI t), x8, none, x10, x11, none, x13] [] W (am_RF sh) T 0 0 := by
    intro jj
    induction jj with
    | zero => intro t x8 x10 x11 x13 W a b e; omega
    | succ jj ih =>
      intro t x8 x10 x11 x13 W a b e w1 w2
      by_cases ht : t = n
      · subst ht
        refine am_run 400 mt_M_lesser ok_M_lesser (fun K S hK hS => ?_)
        iterate 30 (all_goals (first
          | (simp only [am_st2, am_st1, am_set, am_cut, am_get])
          | (refine And.intro (by omega) ?_)
          | (refine And.intro (fun hb => absurd hb (by omega)) (fun hb => ?_))
          | (refine And.intro (fun hb => ?_) (fun hb => absurd hb (by omega)))
          | (refine And.intro (fun hb => ?_) (fun hb => ?_))
          | (intro hb)
          | (conv => whnf)))
        exact hQ W w1
      · have r1 := sr_ls_rg (p := p) (m := m) (c := c) (sort := sort) (n := n) (by omega) (t - 1).toNat
        have r2 := hc' t a (by omega)
        have r4 := hmr (n - t) (by omega) (by omega)
        have f86 : W 86 2 = p := by rw [w1 86 (by decide)]; exact e0
        have f100 : ∀ k, W 100 (f + k) = c k := fun k => by rw [w1 100 (by decide)]; exact hcc k
        have els : ∀ o, o = sr_ot p m sort n t → 0 ≤ o ∧ o < p → Int.tmod (sr_ls p m c sort n (t - 1).toNat + c t * o) p = sr_ls p m c sort n (t + 1 - 1).toNat := fun o ho hr => by
          have rm := m_mulr r2.1 r2.2 hr.1 hr.2 hp.2
          rw [m_tm (by omega), show (t + 1 - 1).toNat = (t - 1).toNat + 1 by omega, sr_ls, show (((t - 1).toNat : Nat) : Int) = t - 1 by omega, show t - 1 + 1 = t by omega, ho]
        have fin2 : ∀ L, L = sr_ls p m c sort n (t - 1).toNat → ∀ o, o = sr_ot p m sort n t → 0 ≤ o ∧ o < p → ∀ (x10 x11 x13 : Option AV) (U : am_V), (∀ a, a ≠ 102 → U a = V a) → sr_pq U p m sort t.toNat → am_Sem G (d + 1) 121 V T Q 39 [some (vR 86), some (vI s), some (vI f), some (vI sort), some (vI n), some (vJ (Int.tmod (L + c t * o) p)), none, some (vI (t + 1)), some (vJ o), none, x10, x11, none, x13] [] U (am_RF sh) T 0 0 := fun L hL o h1 h2 x10 x11 x13 U u1 u2 => by
          rw [hL, els o h1 h2]
          exact ih (t + 1) _ _ _ _ U (by omega) (by omega) (by omega) u1 (by rw [show (t + 1 - 1).toNat = t.toNat by omega]; exact u2)
        have rmm : ∀ L o, (0 ≤ L ∧ L < p) → 0 ≤ o ∧ o < p → am_in64 (L + c t * o) := fun L o hL hr => by
          have rm := m_mulr r2.1 r2.2 hr.1 hr.2 hp.2
          constructor <;> omega
        obtain ⟨L, hL⟩ : ∃ L, L = sr_ls p m c sort n (t - 1).toNat := ⟨_, rfl⟩
        rw [← hL]
        rw [← hL] at r1
        have fin3 := fin2 L hL
        clear els fin2 ih hQ
        by_cases h1 : sort = 1
        · have w2' := w2 h1
          have loopK : ∀ (j2 : Nat) (k : Int) (x11 x13 : Option AV) (U : am_V), -1 ≤ k → k ≤ 8 → k + 1 < j2 → (∀ a, a ≠ 102 → U a = V a) → (∀ i, 0 ≤ i → i ≤ k → U 102 i = sr_pw p m (t - 1).toNat i) → (∀ i, k < i → i ≤ 8 → U 102 i = sr_pw p m t.toNat i) → am_Sem G (d + 1) 121 V T Q 58 [some (vR 86), some (vI s), some (vI f), some (vI sort), some (vI n), some (vJ L), none, some (vI t), some (vJ 0), none, some (vI k), x11, none, x13] [] U (am_RF sh) T 0 0 := by
            intro j2
            induction j2 with
            | zero => intro k x11 x13 U q1 q2 q3; omega
            | succ j2 ih2 =>
              intro k x11 x13 U q1 q2 q3 u1 u2 u3
              have g86 : U 86 2 = p := by rw [u1 86 (by decide)]; exact e0
              have g100 : ∀ k, U 100 (f + k) = c k := fun k => by rw [u1 100 (by decide)]; exact hcc k
              by_cases hk : k = -1
              · subst hk
                have ep : U 102 (n - t) = sr_pw p m t.toNat (n - t) := u3 _ (by omega) (by omega)
                have rp := sr_pw_rg (p := p) (m := m) (by omega) t.toNat (n - t)
                have eo : sr_pw p m t.toNat (n - t) = sr_ot p m sort n t := by unfold sr_ot; rw [if_pos h1]
                obtain ⟨O, hO⟩ : ∃ O, O = sr_pw p m t.toNat (n - t) := ⟨_, rfl⟩
                rw [← hO] at ep rp eo
                have rx := rmm L O r1 rp
                have fin4 := fun x10 x11 x13 => fin3 O eo rp x10 x11 x13 U u1 (fun _ k a b => u3 k (by omega) b)
                clear hL rmm fin3 hO eo
                refine am_run 400 mt_M_lesser ok_M_lesser (fun K S hK hS => ?_)
                iterate 51 (all_goals (first
                  | (simp only [am_st2, am_st1, am_set, am_cut, am_get])
                  | (refine And.intro (⟨by with_reducible assumption, by omega⟩) ?_)
                  | (refine And.intro (by omega) ?_)
                  | (refine And.intro (fun hb => absurd hb (by omega)) (fun hb => ?_))
                  | (refine And.intro (fun hb => ?_) (fun hb => absurd hb (by omega)))
                  | (refine And.intro (fun hb => ?_) (fun hb => ?_))
                  | (intro hb)
                  | (simp only [ep, g86, g100])
                  | (conv => whnf)))
                exact hS (fin4 _ _ _)
              · have inner : ∀ (j3 : Nat) (i : Int), 0 ≤ i → i ≤ k + 1 → k + 1 - i < j3 → am_Sem G (d + 1) 121 V T Q 69 [some (vR 86), some (vI s), some (vI f), some (vI sort), some (vI n), some (vJ L), none, some (vI t), some (vJ 0), none, some (vI k), some (vJ (sr_cv p (sr_pw p m (t - 1).toNat) m k i.toNat)), none, some (vI i)] [] U (am_RF sh) T 0 0 := by
                  intro j3
                  induction j3 with
                  | zero => intro i b1 b2 b3; omega
                  | succ j3 ih3 =>
                    intro i b1 b2 b3
                    have rs := sr_cv_rg (p := p) (f := sr_pw p m (t - 1).toNat) (g := m) (k := k) (by omega) i.toNat
                    by_cases hi : i = k + 1
                    · subst hi
                      have es : sr_cv p (sr_pw p m (t - 1).toNat) m k (k + 1).toNat = sr_pw p m t.toNat k := by
                        rw [show t.toNat = (t - 1).toNat + 1 by omega]; rfl
                      rw [es]
                      have nx := fun x11 x13 => ih2 (k - 1) x11 x13 (am_up U 102 k (sr_pw p m t.toNat k)) (by omega) (by omega) (by omega) (fun x hx => by rw [am_up_ne hx, u1 x hx]) (fun i a1 a2 => by rw [am_up_at, if_neg (by omega), u2 i a1 (by omega)]) (fun i a1 a2 => by
                        rw [am_up_at]
                        by_cases q : i = k
                        · rw [if_pos q, q]
                        · rw [if_neg q, u3 i (by omega) a2])
                      obtain ⟨O, hO⟩ : ∃ O, O = sr_pw p m t.toNat k := ⟨_, rfl⟩
                      rw [← hO] at nx ⊢
                      clear es rs hO hL rmm fin3 ih2
                      refine am_run 400 mt_M_lesser ok_M_lesser (fun K S hK hS => ?_)
                      iterate 30 (all_goals (first
                        | (simp only [am_st2, am_st1, am_set, am_cut, am_get])
                        | (refine And.intro (by omega) ?_)
                        | (refine And.intro (fun hb => absurd hb (by omega)) (fun hb => ?_))
                        | (refine And.intro (fun hb => ?_) (fun hb => absurd hb (by omega)))
                        | (refine And.intro (fun hb => ?_) (fun hb => ?_))
                        | (intro hb)
                        | (conv => whnf)))
                      exact hS (nx _ _)
                    · have f1 : U 102 i = sr_pw p m (t - 1).toNat i := u2 i b1 (by omega)
                      have rr1 := sr_pw_rg (p := p) (m := m) (by omega) (t - 1).toNat i
                      have rr2 := hmr (k - i) (by omega) (by omega)
                      have rm := m_mulr rr1.1 rr1.2 rr2.1 rr2.2 hp.2
                      have es : Int.tmod (sr_cv p (sr_pw p m (t - 1).toNat) m k i.toNat + sr_pw p m (t - 1).toNat i * m (k - i)) p = sr_cv p (sr_pw p m (t - 1).toNat) m k (i + 1).toNat := by
                        rw [m_tm (by omega), show (i + 1).toNat = i.toNat + 1 by omega, sr_cv, show ((i.toNat : Nat) : Int) = i by omega]
                      have nx := ih3 (i + 1) (by omega) (by omega) (by omega)
                      rw [← es] at nx
                      obtain ⟨A, hA⟩ : ∃ A, A = sr_cv p (sr_pw p m (t - 1).toNat) m k i.toNat := ⟨_, rfl⟩
                      obtain ⟨B, hB⟩ : ∃ B, B = sr_pw p m (t - 1).toNat i := ⟨_, rfl⟩
                      rw [← hA, ← hB] at nx
                      rw [← hB] at f1 rm
                      rw [← hA] at rs ⊢
                      have rx : am_in64 (A + B * m (k - i)) := by constructor <;> omega
                      clear es hA hB hL rmm fin3 ih2 ih3 rr1 rr2 rm
                      refine am_run 400 mt_M_lesser ok_M_lesser (fun K S hK hS => ?_)
                      iterate 30 (all_goals (first
                        | (simp only [am_st2, am_st1, am_set, am_cut, am_get])
                        | (refine And.intro (by omega) ?_)
                        | (refine And.intro (fun hb => absurd hb (by omega)) (fun hb => ?_))
                        | (refine And.intro (fun hb => ?_) (fun hb => absurd hb (by omega)))
                        | (refine And.intro (fun hb => ?_) (fun hb => ?_))
                        | (intro hb)
                        | (conv => whnf)))
                      refine hK (s_M_m hs (by omega) ?_)
                      rw [mW U u1]
                      iterate 51 (all_goals (first
                        | (simp only [am_st2, am_st1, am_set, am_cut, am_get])
                        | (refine And.intro (⟨by with_reducible assumption, by omega⟩) ?_)
                        | (refine And.intro (by omega) ?_)
                        | (refine And.intro (fun hb => absurd hb (by omega)) (fun hb => ?_))
                        | (refine And.intro (fun hb => ?_) (fun hb => absurd hb (by omega)))
                        | (refine And.intro (fun hb => ?_) (fun hb => ?_))
                        | (intro hb)
                        | (simp only [f1, g86])
                        | (conv => whnf)))
                      exact hS nx
                refine am_run 400 mt_M_lesser ok_M_lesser (fun K S hK hS => ?_)
                iterate 30 (all_goals (first
                  | (simp only [am_st2, am_st1, am_set, am_cut, am_get])
                  | (refine And.intro (by omega) ?_)
                  | (refine And.intro (fun hb => absurd hb (by omega)) (fun hb => ?_))
                  | (refine And.intro (fun hb => ?_) (fun hb => absurd hb (by omega)))
                  | (refine And.intro (fun hb => ?_) (fun hb => ?_))
                  | (intro hb)
                  | (conv => whnf)))
                exact hS (inner (k + 2).toNat 0 (by omega) (by omega) (by omega))
          refine am_run 400 mt_M_lesser ok_M_lesser (fun K S hK hS => ?_)
          iterate 30 (all_goals (first
            | (simp only [am_st2, am_st1, am_set, am_cut, am_get])
            | (refine And.intro (by omega) ?_)
            | (refine And.intro (fun hb => absurd hb (by omega)) (fun hb => ?_))
            | (refine And.intro (fun hb => ?_) (fun hb => absurd hb (by omega)))
            | (refine And.intro (fun hb => ?_) (fun hb => ?_))
            | (intro hb)
            | (conv => whnf)))
          exact hS (loopK 10 8 _ _ W (by omega) (by omega) (by omega) w1 (fun i a1 a2 => w2' i a1 a2) (fun i a1 a2 => absurd a2 (by omega)))
        · have w3 : sr_pq W p m sort t.toNat := fun q => absurd q h1
          by_cases h2 : sort = 0
          · have r3 := sr_ch_b (n := n - 1) (t := (t - 1).toNat) (by omega) (by omega) (by omega)
            obtain ⟨C, hC⟩ : ∃ C, C = sr_ch (n - 1) (t - 1).toNat := ⟨_, rfl⟩
            rw [← hC] at r3
            have h0 : 0 ≤ m (n - t) * C := Int.mul_nonneg r4.1 r3.1
            have h4 : m (n - t) * C ≤ 2000000000 * 100 := Int.mul_le_mul (by omega) r3.2 r3.1 (by omega)
            have eo : Int.tmod (m (n - t) * C) p = sr_ot p m sort n t := by
              unfold sr_ot
              rw [if_neg h1, if_pos h2, m_tm h0, hC]
            have ro : 0 ≤ Int.tmod (m (n - t) * C) p ∧ Int.tmod (m (n - t) * C) p < p := by
              rw [m_tm h0]
              exact m_modr (by omega)
            have rx : am_in64 (m (n - t) * C) := by constructor <;> omega
            have ry := rmm L _ r1 ro
            have fin4 := fun x10 x11 x13 => fin3 _ eo ro x10 x11 x13 W w1 w3
            clear hL rmm eo ro h0 h4 fin3
            refine am_run 400 mt_M_lesser ok_M_lesser (fun K S hK hS => ?_)
            iterate 30 (all_goals (first
              | (simp only [am_st2, am_st1, am_set, am_cut, am_get])
              | (refine And.intro (by omega) ?_)
              | (refine And.intro (fun hb => absurd hb (by omega)) (fun hb => ?_))
              | (refine And.intro (fun hb => ?_) (fun hb => absurd hb (by omega)))
              | (refine And.intro (fun hb => ?_) (fun hb => ?_))
              | (intro hb)
              | (conv => whnf)))
            refine hK (s_M_m hs (by omega) ?_)
            rw [mW W w1]
            iterate 30 (all_goals (first
              | (simp only [am_st2, am_st1, am_set, am_cut, am_get])
              | (refine And.intro (by omega) ?_)
              | (refine And.intro (fun hb => absurd hb (by omega)) (fun hb => ?_))
              | (refine And.intro (fun hb => ?_) (fun hb => absurd hb (by omega)))
              | (refine And.intro (fun hb => ?_) (fun hb => ?_))
              | (intro hb)
              | (conv => whnf)))
            refine hK (s_M_choose (by omega) (by omega) ?_)
            rw [← hC]
            iterate 51 (all_goals (first
              | (simp only [am_st2, am_st1, am_set, am_cut, am_get])
              | (refine And.intro (⟨by with_reducible assumption, by omega⟩) ?_)
              | (refine And.intro (by omega) ?_)
              | (refine And.intro (fun hb => absurd hb (by omega)) (fun hb => ?_))
              | (refine And.intro (fun hb => ?_) (fun hb => absurd hb (by omega)))
              | (refine And.intro (fun hb => ?_) (fun hb => ?_))
              | (intro hb)
              | (simp only [f86, f100])
              | (conv => whnf)))
            exact hS (fin4 _ _ _)
          · have eo : Int.tmod (m (n - t) * 1) p = sr_ot p m sort n t := by
              unfold sr_ot
              rw [if_neg h1, if_neg h2, Int.mul_one, m_tm r4.1]
            have ro : 0 ≤ Int.tmod (m (n - t) * 1) p ∧ Int.tmod (m (n - t) * 1) p < p := by
              rw [Int.mul_one, m_tm r4.1]
              exact m_modr (by omega)
            have ry := rmm L _ r1 ro
            have fin4 := fun x10 x11 x13 => fin3 _ eo ro x10 x11 x13 W w1 w3
            clear hL rmm eo ro fin3
            refine am_run 400 mt_M_lesser ok_M_lesser (fun K S hK hS => ?_)
            iterate 30 (all_goals (first
              | (simp only [am_st2, am_st1, am_set, am_cut, am_get])
              | (refine And.intro (by omega) ?_)
              | (refine And.intro (fun hb => absurd hb (by omega)) (fun hb => ?_))
              | (refine And.intro (fun hb => ?_) (fun hb => absurd hb (by omega)))
              | (refine And.intro (fun hb => ?_) (fun hb => ?_))
              | (intro hb)
              | (conv => whnf)))
            refine hK (s_M_m hs (by omega) ?_)
            rw [mW W w1]
            iterate 51 (all_goals (first
              | (simp only [am_st2, am_st1, am_set, am_cut, am_get])
              | (refine And.intro (⟨by with_reducible assumption, by omega⟩) ?_)
              | (refine And.intro (by omega) ?_)
              | (refine And.intro (fun hb => absurd hb (by omega)) (fun hb => ?_))
              | (refine And.intro (fun hb => ?_) (fun hb => absurd hb (by omega)))
              | (refine And.intro (fun hb => ?_) (fun hb => ?_))
              | (intro hb)
              | (simp only [f86, f100])
              | (conv => whnf)))
            exact hS (fin4 _ _ _)
  have loop1 : ∀ (jj : Nat) (k : Int) (W : am_V), 0 ≤ k → k ≤ 9 → 9 - k < jj → (∀ a, a ≠ 102 → W a = V a) → (∀ i, 0 ≤ i → i < k → W 102 i = if i = 0 then 1 else 0) → am_Sem G (d + 1) 121 V T Q 6 [some (vR 86), some (vI s), some (vI f), some (vI sort), some (vI n), some (vJ 0), none, some (vI k), none, none, none, none, none, none] [] W (am_RF sh) T 0 0 := by
    intro jj
    induction jj with
    | zero => intro k W a b e; omega
    | succ jj ih =>
      intro k W a b e w1 w2
      by_cases hk : k = 9
      · subst hk
        refine am_run 400 mt_M_lesser ok_M_lesser (fun K S hK hS => ?_)
        iterate 30 (all_goals (first
          | (simp only [am_st2, am_st1, am_set, am_cut, am_get])
          | (refine And.intro (by omega) ?_)
          | (refine And.intro (fun hb => absurd hb (by omega)) (fun hb => ?_))
          | (refine And.intro (fun hb => ?_) (fun hb => absurd hb (by omega)))
          | (refine And.intro (fun hb => ?_) (fun hb => ?_))
          | (intro hb)
          | (conv => whnf)))
        exact hS (loop2 n.toNat 1 _ _ _ _ W (by omega) (by omega) (by omega) w1 (fun _ k a b => by rw [w2 k a (by omega)]; rfl))
      · refine am_run 400 mt_M_lesser ok_M_lesser (fun K S hK hS => ?_)
        iterate 30 (all_goals (first
          | (simp only [am_st2, am_st1, am_set, am_cut, am_get])
          | (refine And.intro (by omega) ?_)
          | (refine And.intro (fun hb => absurd hb (by omega)) (fun hb => ?_))
          | (refine And.intro (fun hb => ?_) (fun hb => absurd hb (by omega)))
          | (refine And.intro (fun hb => ?_) (fun hb => ?_))
          | (intro hb)
          | (conv => whnf)))
        all_goals refine hS (ih (k + 1) _ (by omega) (by omega) (by omega) (fun x hx => by rw [am_up_ne hx, w1 x hx]) (fun i a1 a2 => ?_))
        all_goals rw [am_up_at]
        all_goals by_cases q : i = k
        all_goals first
          | rw [if_pos q, if_neg (by omega)]
          | rw [if_pos q, if_pos (by omega)]
          | rw [if_neg q, w2 i a1 (by omega)]
  refine am_run 400 mt_M_lesser ok_M_lesser (fun K S hK hS => ?_)
  iterate 30 (all_goals (first
    | (simp only [am_st2, am_st1, am_set, am_cut, am_get])
    | (refine And.intro (by omega) ?_)
    | (refine And.intro (fun hb => absurd hb (by omega)) (fun hb => ?_))
    | (refine And.intro (fun hb => ?_) (fun hb => absurd hb (by omega)))
    | (refine And.intro (fun hb => ?_) (fun hb => ?_))
    | (intro hb)
    | (conv => whnf)))
  exact hS (loop1 10 0 V (by omega) (by omega) (by omega) (fun _ _ => rfl) (fun i a b => absurd b (by omega)))
