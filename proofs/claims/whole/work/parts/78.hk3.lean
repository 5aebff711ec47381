/-! hankel: the reference -/
theorem s_M_inverse {G : am_G} {d : Nat} {sh : Int → Option Nat} {V : am_V} {T : Nat} {Q : Option AV → am_V → am_T → Nat → Prop} {p v : Int} (hp : 101 ≤ p ∧ p ≤ 2000000000) (e0 : V 86 2 = p) (hv : 0 ≤ v ∧ v < p) (hQ : Q (some (vJ (hk_iv p v))) V (am_RF sh) T) : am_Calls G (d + 1) 130 [vR 86, vJ v] V (am_RF sh) T Q := by
  refine am_enter mt_M_inverse ok_M_inverse rfl ?_
  have loop : ∀ (f : Nat) (t r s : Int), 0 ≤ t → t ≤ 2000000000 → t ≤ f → 0 ≤ r ∧ r < p → 0 ≤ s ∧ s < p → Q (some (vJ (sr_sq p f t.toNat r s))) V (am_RF sh) T → am_Sem G d 130 V T Q 13 [some (vR 86), some (vJ v), none, some (vJ r), none, some (vJ s), none, some (vI t)] [] V (am_RF sh) T 0 0 := by
    intro f
    induction f with
    | zero =>
      intro t r s t0 t1 t2 hr hs hq
      have ht : t = 0 := by omega
      subst ht
      refine am_run 400 mt_M_inverse ok_M_inverse (fun K S hK hS => ?_)
      iterate 30 (all_goals (first
        | (simp only [am_st2, am_st1, am_set, am_cut, am_get])
        | (refine And.intro (by omega) ?_)
        | (refine And.intro (fun hb => absurd hb (by omega)) (fun hb => ?_))
        | (refine And.intro (fun hb => ?_) (fun hb => absurd hb (by omega)))
        | (refine And.intro (fun hb => ?_) (fun hb => ?_))
        | (intro hb)
        | (conv => whnf)))
      exact hq
    | succ f ih =>
      intro t r s t0 t1 t2 hr hs hq
      by_cases ht : t = 0
      · subst ht
        refine am_run 400 mt_M_inverse ok_M_inverse (fun K S hK hS => ?_)
        iterate 30 (all_goals (first
          | (simp only [am_st2, am_st1, am_set, am_cut, am_get])
          | (refine And.intro (by omega) ?_)
          | (refine And.intro (fun hb => absurd hb (by omega)) (fun hb => ?_))
          | (refine And.intro (fun hb => ?_) (fun hb => absurd hb (by omega)))
          | (refine And.intro (fun hb => ?_) (fun hb => ?_))
          | (intro hb)
          | (conv => whnf)))
        exact hq
      · have m1 := m_mulr hr.1 hr.2 hs.1 hs.2 (by omega : p ≤ 2000000000)
        have m2 := m_mulr hs.1 hs.2 hs.1 hs.2 (by omega : p ≤ 2000000000)
        have x1 : am_in64 (r * s) := by constructor <;> omega
        have x2 : am_in64 (s * s) := by constructor <;> omega
        have e2 : Int.tmod (s * s) p = s * s % p := m_tm m2.1
        have e1 : Int.tmod (r * s) p = r * s % p := m_tm m1.1
        rw [sr_sq, if_neg (by omega), show t.toNat / 2 = (t / 2).toNat by omega] at hq
        have r1 : 0 ≤ r * s % p ∧ r * s % p < p := m_modr (by omega)
        have r2 : 0 ≤ s * s % p ∧ s * s % p < p := m_modr (by omega)
        by_cases ho : t % 2 = 1
        · rw [if_pos (by omega)] at hq
          have nx := ih (t / 2) _ _ (by omega) (by omega) (by omega) r1 r2 hq
          rw [← e1, ← e2] at nx
          clear ih hq e1 e2 r1 r2 m1 m2
          refine am_run 400 mt_M_inverse ok_M_inverse (fun K S hK hS => ?_)
          iterate 51 (all_goals (first
            | (simp only [am_st2, am_st1, am_set, am_cut, am_get])
            | (refine And.intro (⟨by with_reducible assumption, by omega⟩) ?_)
            | (refine And.intro (by omega) ?_)
            | (refine And.intro (fun hb => absurd hb (by omega)) (fun hb => ?_))
            | (refine And.intro (fun hb => ?_) (fun hb => absurd hb (by omega)))
            | (refine And.intro (fun hb => ?_) (fun hb => ?_))
            | (intro hb)
            | (simp only [e0])
            | (conv => whnf)))
          exact hS nx
        · rw [if_neg (by omega)] at hq
          have nx := ih (t / 2) _ _ (by omega) (by omega) (by omega) hr r2 hq
          rw [← e2] at nx
          clear ih hq e1 e2 r1 r2 m1 m2
          refine am_run 400 mt_M_inverse ok_M_inverse (fun K S hK hS => ?_)
          iterate 51 (all_goals (first
            | (simp only [am_st2, am_st1, am_set, am_cut, am_get])
            | (refine And.intro (⟨by with_reducible assumption, by omega⟩) ?_)
            | (refine And.intro (by omega) ?_)
            | (refine And.intro (fun hb => absurd hb (by omega)) (fun hb => ?_))
            | (refine And.intro (fun hb => ?_) (fun hb => absurd hb (by omega)))
            | (refine And.intro (fun hb => ?_) (fun hb => ?_))
            | (intro hb)
            | (simp only [e0])
            | (conv => whnf)))
          exact hS nx
  have st := loop (p - 2).toNat (p - 2) 1 v (by omega) (by omega) (by omega) (by omega) hv hQ
  clear loop
  refine am_run 400 mt_M_inverse ok_M_inverse (fun K S hK hS => ?_)
  iterate 51 (all_goals (first
    | (simp only [am_st2, am_st1, am_set, am_cut, am_get])
    | (refine And.intro (by omega) ?_)
    | (refine And.intro (fun hb => absurd hb (by omega)) (fun hb => ?_))
    | (refine And.intro (fun hb => ?_) (fun hb => absurd hb (by omega)))
    | (refine And.intro (fun hb => ?_) (fun hb => ?_))
    | (intro hb)
    | (simp only [e0])
    | (conv => whnf)))
  exact hS st
def hk_M (V : am_V) : Int → Int → Int := fun i j => V 103 (5 * i + j)
set_option maxRecDepth 8000 in
theorem s_M_hankel {G : am_G} {d : Nat} {sh : Int → Option Nat} {V : am_V} {T : Nat} {Q : Option AV → am_V → am_T → Nat → Prop} {p s k : Int} (h0 : am_in32 s) (h1 : am_in32 k) (hp : 101 ≤ p ∧ p ≤ 2000000000) (e0 : V 86 2 = p) (hz : ∀ s, 0 ≤ s → s < 8 → 1 ≤ V 98 s ∧ V 98 s ≤ 8) (hm : ∀ s, 0 ≤ s → s < 8 → sr_rg p (sr_m V s) 8)
    (hB : ¬ ((0 ≤ s ∧ s < 8) ∧ 0 ≤ k ∧ 2 * k ≤ V 98 s) → Q (some (vJ (-1000001))) (am_up V 86 0 0) (am_RF sh) T)
    (hQ : ((0 ≤ s ∧ s < 8) ∧ 0 ≤ k ∧ 2 * k ≤ V 98 s) → ∀ V', (∀ x, x ≠ 103 → V' x = am_up V 86 0 0 x) → Q (some (vJ (hk p (k + 1) (k + 1).toNat 0 (fun i j => sr_m V s (i + j)) 1))) V' (am_RF sh) T) : am_Calls G (d + 3) 131 [vR 86, vI s, vI k] V (am_RF sh) T Q := by
  refine am_enter mt_M_hankel ok_M_hankel rfl ?_
  obtain ⟨D, hD⟩ : ∃ D, D = hk p (k + 1) (k + 1).toNat 0 (fun i j => sr_m V s (i + j)) 1 := ⟨_, rfl⟩
  rw [← hD] at hQ
  obtain ⟨n, hn⟩ : ∃ n, n = k + 1 := ⟨_, rfl⟩
  rw [← hn] at hD
  have mW : ∀ W : am_V, (∀ x, x ≠ 103 → W x = am_up V 86 0 0 x) → ∀ s, sr_m W s = sr_m V s := fun W w s => by unfold sr_m; rw [w 99 (by decide), am_up_ne (by decide)]
  have loop : ((0 ≤ s ∧ s < 8) ∧ 0 ≤ k ∧ 2 * k ≤ V 98 s) → 1 ≤ n ∧ n ≤ 5 → ∀ (jj : Nat) (c e : Int) (x7 x8 x9 x10 x11 x12 x13 : Option AV) (W : am_V), 0 ≤ c → c ≤ n → n - c < jj → 0 ≤ e ∧ e < p → (∀ x, x ≠ 103 → W x = am_up V 86 0 0 x) → hk_rg p n (hk_M W) → hk p n (n - c).toNat c (hk_M W) e = D → am_Sem G (d + 2) 131 V T Q 105 [some (vR 86), some (vI s), some (vI k), some (vI n), some (vJ e), none, some (vI c), x7, x8, x9, x10, x11, x12, x13] [] W (am_RF sh) T 0 0 := by
    intro hc hn5 jj
    induction jj with
    | zero => intro c e x7 x8 x9 x10 x11 x12 x13 W a1 a2 a3; omega
    | succ jj ih =>
      intro c e x7 x8 x9 x10 x11 x12 x13 W a1 a2 a3 re w1 wr wd
      by_cases hcn : c = n
      · have ee : e = D := by
          rw [hcn, show (n - n).toNat = 0 by omega] at wd
          exact wd
        rw [ee]
        refine am_run 400 mt_M_hankel ok_M_hankel (fun K S hK hS => ?_)
        iterate 30 (all_goals (first
          | (simp only [am_st2, am_st1, am_set, am_cut, am_get])
          | (refine And.intro (by omega) ?_)
          | (refine And.intro (fun hb => absurd hb (by omega)) (fun hb => ?_))
          | (refine And.intro (fun hb => ?_) (fun hb => absurd hb (by omega)))
          | (refine And.intro (fun hb => ?_) (fun hb => ?_))
          | (intro hb)
          | (conv => whnf)))
        exact hQ hc W w1
      · have elim : ∀ (U : am_V) (r : Int) (at_ : Int) (v : Int), hk_rg p n (hk_M U) → v = hk_iv p (hk_M U c c) → 0 ≤ v ∧ v < p → (∀ x, x ≠ 103 → U x = am_up V 86 0 0 x) → ∀ (E : Int), 0 ≤ E ∧ E < p → (∀ (X : am_V), (∀ x, x ≠ 103 → X x = am_up V 86 0 0 x) → hk_eq n (hk_M X) (hk_cl p (hk_M U) n c v) → hk p n (n - (c + 1)).toNat (c + 1) (hk_M X) E = D) → ∀ (j2 : Nat) (i : Int) (x11 x12 x13 : Option AV) (X : am_V), c < i → i ≤ n → n - i < j2 → (∀ x, x ≠ 103 → X x = am_up V 86 0 0 x) → (∀ a b, 0 ≤ a → a < n → 0 ≤ b → b < n → hk_M X a b = if a < i then hk_cl p (hk_M U) n c v a b else hk_M U a b) → am_Sem G (d + 2) 131 V T Q 301 [some (vR 86), some (vI s), some (vI k), some (vI n), some (vJ E), none, some (vI c), some (vI at_), some (vJ v), none, some (vI i), x11, x12, x13] [] X (am_RF sh) T 0 0 := by
          intro U r at_ v ur hv rv u1 E rE hEE j2
          induction j2 with
          | zero => intro i x11 x12 x13 X b1 b2 b3; omega
          | succ j2 ih2 =>
            intro i x11 x12 x13 X b1 b2 b3 x1 x2
            by_cases hin : i = n
            · have xe : hk_eq n (hk_M X) (hk_cl p (hk_M U) n c v) := fun a b z0 z1 z2 z3 => by rw [x2 a b z0 z1 z2 z3, if_pos (by omega)]
              have nx := fun x7 x8 x9 x10 x11 x12 x13 => ih (c + 1) E x7 x8 x9 x10 x11 x12 x13 X (by omega) (by omega) (by omega) rE x1 (hk_rg_cl (by omega) ur xe) (hEE X x1 xe)
              clear ih ih2 hEE wd x2
              refine am_run 400 mt_M_hankel ok_M_hankel (fun K S hK hS => ?_)
              iterate 30 (all_goals (first
                | (simp only [am_st2, am_st1, am_set, am_cut, am_get])
                | (refine And.intro (by omega) ?_)
                | (refine And.intro (fun hb => absurd hb (by omega)) (fun hb => ?_))
                | (refine And.intro (fun hb => ?_) (fun hb => absurd hb (by omega)))
                | (refine And.intro (fun hb => ?_) (fun hb => ?_))
                | (intro hb)
                | (conv => whnf)))
              exact hS (nx _ _ _ _ _ _ _)
            · have f86 : X 86 2 = p := by rw [x1 86 (by decide)]; simp +decide [am_up_ne, am_up_at, reduceIte]; exact e0
              have fic : X 103 (5 * i + c) = hk_M U i c := by
                have := x2 i c (by omega) (by omega) a1 (by omega)
                rw [if_neg (by omega)] at this
                exact this
              have ric := ur i c (by omega) (by omega) a1 (by omega)
              have m1 := m_mulr ric.1 ric.2 rv.1 rv.2 hp.2
              have em : Int.tmod (hk_M U i c * v) p = hk_M U i c * v % p := m_tm m1.1
              have rm : 0 ≤ hk_M U i c * v % p ∧ hk_M U i c * v % p < p := m_modr (by omega)
              have inner : ∀ (j3 : Nat) (j : Int) (Y : am_V), c ≤ j → j ≤ n → n - j < j3 → (∀ x, x ≠ 103 → Y x = am_up V 86 0 0 x) → (∀ a b, 0 ≤ a → a < n → 0 ≤ b → b < n → hk_M Y a b = if a < i ∨ (a = i ∧ b < j) then hk_cl p (hk_M U) n c v a b else hk_M U a b) → am_Sem G (d + 2) 131 V T Q 334 [some (vR 86), some (vI s), some (vI k), some (vI n), some (vJ E), none, some (vI c), some (vI at_), some (vJ v), none, some (vI i), some (vJ (hk_M U i c * v % p)), none, some (vI j)] [] Y (am_RF sh) T 0 0 := by
                intro j3
                induction j3 with
                | zero => intro j Y d1 d2 d3; omega
                | succ j3 ih3 =>
                  intro j Y d1 d2 d3 y1 y2
                  by_cases hjn : j = n
                  · have nx := fun x11 x12 x13 => ih2 (i + 1) x11 x12 x13 Y (by omega) (by omega) (by omega) y1 (fun a b z0 z1 z2 z3 => by
                      rw [y2 a b z0 z1 z2 z3]
                      by_cases z : a < i + 1
                      · rw [if_pos z, if_pos (by omega)]
                      · rw [if_neg z, if_neg (by omega)])
                    clear ih ih2 ih3 hEE wd x2 y2
                    refine am_run 400 mt_M_hankel ok_M_hankel (fun K S hK hS => ?_)
                    iterate 30 (all_goals (first
                      | (simp only [am_st2, am_st1, am_set, am_cut, am_get])
                      | (refine And.intro (by omega) ?_)
                      | (refine And.intro (fun hb => absurd hb (by omega)) (fun hb => ?_))
                      | (refine And.intro (fun hb => ?_) (fun hb => absurd hb (by omega)))
                      | (refine And.intro (fun hb => ?_) (fun hb => ?_))
                      | (intro hb)
                      | (conv => whnf)))
                    exact hS (nx _ _ _)
                  · have g86 : Y 86 2 = p := by rw [y1 86 (by decide)]; simp +decide [am_up_ne, am_up_at, reduceIte]; exact e0
                    have fij : Y 103 (5 * i + j) = hk_M U i j := by
                      have := y2 i j (by omega) (by omega) (by omega) (by omega)
                      rw [if_neg (by omega)] at this
                      exact this
                    have fcj : Y 103 (5 * c + j) = hk_M U c j := by
                      have := y2 c j a1 (by omega) (by omega) (by omega)
                      rw [if_pos (by omega)] at this
                      refine this.trans ?_
                      unfold hk_cl
                      rw [if_neg (by omega)]
                    have r1 := ur i j (by omega) (by omega) (by omega) (by omega)
                    have r2 := ur c j a1 (by omega) (by omega) (by omega)
                    have m2 : 0 ≤ (p - hk_M U i c * v % p) * hk_M U c j ∧ (p - hk_M U i c * v % p) * hk_M U c j ≤ 4000000000000000000 := by
                      refine ⟨Int.mul_nonneg (by omega) r2.1, ?_⟩
                      have : (p - hk_M U i c * v % p) * hk_M U c j ≤ 2000000000 * 2000000000 := Int.mul_le_mul (by omega) (by omega) r2.1 (by omega)
                      omega
                    have et : Int.tmod (hk_M U i j + (p - hk_M U i c * v % p) * hk_M U c j) p = hk_cl p (hk_M U) n c v i j := by
                      rw [m_tm (by omega)]
                      unfold hk_cl
                      rw [if_pos (by omega)]
                    have nx := ih3 (j + 1) (am_up Y 103 (5 * i + j) (Int.tmod (hk_M U i j + (p - hk_M U i c * v % p) * hk_M U c j) p)) (by omega) (by omega) (by omega) (fun x hx => by rw [am_up_ne hx, y1 x hx]) (fun a b z0 z1 z2 z3 => by
                      show am_up Y 103 (5 * i + j) _ 103 (5 * a + b) = _
                      rw [am_up_at]
                      by_cases z : a = i ∧ b = j
                      · rw [if_pos (show 5 * a + b = 5 * i + j by omega), if_pos (show a < i ∨ (a = i ∧ b < j + 1) by omega), z.1, z.2, et]
                      · rw [if_neg (show ¬ 5 * a + b = 5 * i + j by omega)]
                        have := y2 a b z0 z1 z2 z3
                        by_cases zz : a < i ∨ (a = i ∧ b < j)
                        · rw [if_pos zz] at this
                          rw [if_pos (show a < i ∨ (a = i ∧ b < j + 1) by omega)]
                          exact this
                        · rw [if_neg zz] at this
                          rw [if_neg (show ¬ (a < i ∨ (a = i ∧ b < j + 1)) by omega)]
                          exact this)
                    obtain ⟨A, hA⟩ : ∃ A, A = hk_M U i j := ⟨_, rfl⟩
                    obtain ⟨B, hB'⟩ : ∃ B, B = hk_M U c j := ⟨_, rfl⟩
                    obtain ⟨C, hC⟩ : ∃ C, C = hk_M U i c * v % p := ⟨_, rfl⟩
                    rw [← hA, ← hB', ← hC] at nx
                    rw [← hA] at fij r1
                    rw [← hB'] at fcj
                    rw [← hB', ← hC] at m2
                    rw [← hC]
                    have x1' : am_in64 (A + (p - C) * B) := by constructor <;> omega
                    clear ih3 ih2 ih y2 x2 et hA hB' hC m2 rm em m1 hQ hB hEE wd
                    refine am_run 400 mt_M_hankel ok_M_hankel (fun K S hK hS => ?_)
                    iterate 60 (all_goals (first
                      | (simp only [am_st2, am_st1, am_set, am_cut, am_get])
                      | (refine And.intro (by omega) ?_)
                      | (refine And.intro (by decide) ?_)
                      | (refine And.intro (⟨by with_reducible assumption, by omega⟩) ?_)
                      | (refine And.intro (fun hb => absurd hb (by omega)) (fun hb => ?_))
                      | (refine And.intro (fun hb => ?_) (fun hb => absurd hb (by omega)))
                      | (refine And.intro (fun hb => ?_) (fun hb => ?_))
                      | (intro hb)
                      | (simp only [g86, fij, fcj])
                      | (conv => whnf)))
                    exact hS nx
              have st := inner (n - c + 1).toNat c X (by omega) (by omega) (by omega) x1 (fun a b z0 z1 z2 z3 => by
                rw [x2 a b z0 z1 z2 z3]
                by_cases z : a < i
                · rw [if_pos z, if_pos (by omega)]
                · rw [if_neg z]
                  by_cases zz : a < i ∨ (a = i ∧ b < c)
                  · rw [if_pos zz]
                    unfold hk_cl
                    rw [if_neg (by omega)]
                  · rw [if_neg zz])
              rw [← em] at st
              obtain ⟨A, hA⟩ : ∃ A, A = hk_M U i c := ⟨_, rfl⟩
              rw [← hA] at st fic m1
              have x1' : am_in64 (A * v) := by constructor <;> omega
              clear inner ih ih2 x2 em rm m1 hA hQ hB hEE wd
              refine am_run 400 mt_M_hankel ok_M_hankel (fun K S hK hS => ?_)
              iterate 60 (all_goals (first
                | (simp only [am_st2, am_st1, am_set, am_cut, am_get])
                | (refine And.intro (by omega) ?_)
                | (refine And.intro (by decide) ?_)
                | (refine And.intro (⟨by with_reducible assumption, by omega⟩) ?_)
                | (refine And.intro (fun hb => absurd hb (by omega)) (fun hb => ?_))
                | (refine And.intro (fun hb => ?_) (fun hb => absurd hb (by omega)))
                | (refine And.intro (fun hb => ?_) (fun hb => ?_))
                | (intro hb)
                | (simp only [f86, fic])
                | (conv => whnf)))
              exact hS st
        have tail : ∀ (U : am_V) (r E : Int), 0 ≤ r → r < n → hk_pv (hk_M W) n c (n - c).toNat c = r → (∀ x, x ≠ 103 → U x = am_up V 86 0 0 x) → hk_eq n (hk_M U) (hk_t1 (hk_M W) n r c) → E = hk_d1 p r c e → ∀ (v : Int), v = hk_iv p (hk_M U c c) → ∀ x11 x12 x13, am_Sem G (d + 2) 131 V T Q 301 [some (vR 86), some (vI s), some (vI k), some (vI n), some (vJ (E * hk_M U c c % p)), none, some (vI c), some (vI r), some (vJ v), none, some (vI (c + 1)), x11, x12, x13] [] U (am_RF sh) T 0 0 := by
          intro U r E r0 r1 hpv u1 u2 hE v hv x11 x12 x13
          have ur := hk_rg_t1 wr r0 r1 a1 (by omega) u2
          have rv : 0 ≤ v ∧ v < p := by rw [hv]; exact sr_sq_rg (by omega) _ _ _ _ (by omega)
          refine elim U r r v ur hv rv u1 _ (m_modr (by omega)) (fun X x1 x2 => ?_) (n - c).toNat (c + 1) x11 x12 x13 U (by omega) (by omega) (by omega) u1 (fun a b z0 z1 z2 z3 => ?_)
          · rw [hE]
            have := hk_next (e := e) a1 (by omega) hpv (by omega) u2 (x := hk_M X) (by rw [← hv]; exact x2)
            rw [← this]
            exact wd
          · by_cases z : a < c + 1
            · rw [if_pos z]; unfold hk_cl; rw [if_neg (by omega)]
            · rw [if_neg z]
        clear elim
        have same : ∀ (r : Int), r = c → hk_pv (hk_M W) n c (n - c).toNat c = r → ∀ (x9 x10 x11 x12 x13 : Option AV), am_Sem G (d + 2) 131 V T Q 155 [some (vR 86), some (vI s), some (vI k), some (vI n), some (vJ e), none, some (vI c), some (vI r), some (vI 0), x9, x10, x11, x12, x13] [] W (am_RF sh) T 0 0 := by
          intro r hrc hpv x9 x10 x11 x12 x13
          have t1 : hk_eq n (hk_M W) (hk_t1 (hk_M W) n r c) := by
            unfold hk_t1
            rw [if_pos hrc]
            exact fun _ _ _ _ _ _ => rfl
          have tl := tail W r e (by omega) (by omega) hpv w1 t1 (by unfold hk_d1; rw [if_pos hrc]) _ rfl
          have f86 : W 86 2 = p := by rw [w1 86 (by decide)]; simp +decide [am_up_ne, am_up_at, reduceIte]; exact e0
          have fcc : W 103 (5 * c + c) = hk_M W c c := rfl
          have rcc := wr c c a1 (by omega) a1 (by omega)
          have m1 := m_mulr re.1 re.2 rcc.1 rcc.2 hp.2
          have em : Int.tmod (e * hk_M W c c) p = e * hk_M W c c % p := m_tm m1.1
          have hin := fun (Q' : Option AV → am_V → am_T → Nat → Prop) => s_M_inverse (G := G) (d := d + 1) (sh := sh) (V := W) (T := T) (Q := Q') hp f86 rcc
          obtain ⟨A, hA⟩ : ∃ A, A = hk_M W c c := ⟨_, rfl⟩
          rw [← hA] at fcc m1 em tl hin rcc
          have x1' : am_in64 (e * A) := by constructor <;> omega
          clear tail ih wd hQ hB hA t1
          refine am_run 400 mt_M_hankel ok_M_hankel (fun K S hK hS => ?_)
          iterate 60 (all_goals (first
            | (simp only [am_st2, am_st1, am_set, am_cut, am_get])
            | (refine And.intro (by omega) ?_)
            | (refine And.intro (by decide) ?_)
            | (refine And.intro (⟨by with_reducible assumption, by omega⟩) ?_)
            | (refine And.intro (fun hb => absurd hb (by omega)) (fun hb => ?_))
            | (refine And.intro (fun hb => ?_) (fun hb => absurd hb (by omega)))
            | (refine And.intro (fun hb => ?_) (fun hb => ?_))
            | (intro hb)
            | (simp only [f86, fcc, em])
            | (conv => whnf)))
          refine hK (hin _ ?_)
          obtain ⟨v, hv⟩ : ∃ v, v = hk_iv p A := ⟨_, rfl⟩
          rw [← hv] at tl ⊢
          iterate 30 (all_goals (first
            | (simp only [am_st2, am_st1, am_set, am_cut, am_get])
            | (refine And.intro (by omega) ?_)
            | (refine And.intro (fun hb => absurd hb (by omega)) (fun hb => ?_))
            | (refine And.intro (fun hb => ?_) (fun hb => absurd hb (by omega)))
            | (refine And.intro (fun hb => ?_) (fun hb => ?_))
            | (intro hb)
            | (conv => whnf)))
          exact hS (tl _ _ _)
        have swap : ∀ (r : Int), r ≠ c → 0 ≤ r → r < n → hk_pv (hk_M W) n c (n - c).toNat c = r → ∀ (j2 : Nat) (j : Int) (x9 x10 x11 x12 x13 : Option AV) (Y : am_V), 0 ≤ j → j ≤ n → n - j < j2 → (∀ x, x ≠ 103 → Y x = am_up V 86 0 0 x) → (∀ a b, 0 ≤ a → a < n → 0 ≤ b → b < n → hk_M Y a b = if b < j then (if a = r then hk_M W c b else if a = c then hk_M W r b else hk_M W a b) else hk_M W a b) → am_Sem G (d + 2) 131 V T Q 155 [some (vR 86), some (vI s), some (vI k), some (vI n), some (vJ e), none, some (vI c), some (vI r), some (vI j), x9, x10, x11, x12, x13] [] Y (am_RF sh) T 0 0 := by
          intro r hrc r0 r1 hpv j2
          induction j2 with
          | zero => intro j x9 x10 x11 x12 x13 Y b1 b2 b3; omega
          | succ j2 ih2 =>
            intro j x9 x10 x11 x12 x13 Y b1 b2 b3 y1 y2
            by_cases hjn : j = n
            · have t1 : hk_eq n (hk_M Y) (hk_t1 (hk_M W) n r c) := fun a b z0 z1 z2 z3 => by
                rw [y2 a b z0 z1 z2 z3, if_pos (by omega)]
                unfold hk_t1
                rw [if_neg hrc]
                unfold hk_sw
                rw [if_pos z3]
              have tl := tail Y r ((p - e) % p) r0 r1 hpv y1 t1 (by unfold hk_d1; rw [if_neg hrc]) _ rfl
              have f86 : Y 86 2 = p := by rw [y1 86 (by decide)]; simp +decide [am_up_ne, am_up_at, reduceIte]; exact e0
              have ur := hk_rg_t1 wr r0 r1 a1 (by omega) t1
              have fcc : Y 103 (5 * c + c) = hk_M Y c c := rfl
              have rcc := ur c c a1 (by omega) a1 (by omega)
              have eE : Int.tmod (p - e) p = (p - e) % p := m_tm (by omega)
              have rE : 0 ≤ (p - e) % p ∧ (p - e) % p < p := m_modr (by omega)
              have m1 := m_mulr rE.1 rE.2 rcc.1 rcc.2 hp.2
              have em : Int.tmod ((p - e) % p * hk_M Y c c) p = (p - e) % p * hk_M Y c c % p := m_tm m1.1
              have hin := fun (Q' : Option AV → am_V → am_T → Nat → Prop) => s_M_inverse (G := G) (d := d + 1) (sh := sh) (V := Y) (T := T) (Q := Q') hp f86 rcc
              obtain ⟨E, hEE⟩ : ∃ E, E = (p - e) % p := ⟨_, rfl⟩
              obtain ⟨A, hA⟩ : ∃ A, A = hk_M Y c c := ⟨_, rfl⟩
              rw [← hEE] at eE rE m1 em tl
              rw [← hA] at fcc m1 em tl hin rcc
              have x1' : am_in64 (E * A) := by constructor <;> omega
              clear tail ih ih2 wd hQ hB hA t1 same y2 hEE
              refine am_run 400 mt_M_hankel ok_M_hankel (fun K S hK hS => ?_)
              iterate 60 (all_goals (first
                | (simp only [am_st2, am_st1, am_set, am_cut, am_get])
                | (refine And.intro (by omega) ?_)
                | (refine And.intro (by decide) ?_)
                | (refine And.intro (⟨by with_reducible assumption, by omega⟩) ?_)
                | (refine And.intro (fun hb => absurd hb (by omega)) (fun hb => ?_))
                | (refine And.intro (fun hb => ?_) (fun hb => absurd hb (by omega)))
                | (refine And.intro (fun hb => ?_) (fun hb => ?_))
                | (intro hb)
                | (simp only [f86, fcc, eE, em])
                | (conv => whnf)))
              refine hK (hin _ ?_)
              obtain ⟨v, hv⟩ : ∃ v, v = hk_iv p A := ⟨_, rfl⟩
              rw [← hv] at tl ⊢
              iterate 30 (all_goals (first
                | (simp only [am_st2, am_st1, am_set, am_cut, am_get])
                | (refine And.intro (by omega) ?_)
                | (refine And.intro (fun hb => absurd hb (by omega)) (fun hb => ?_))
                | (refine And.intro (fun hb => ?_) (fun hb => absurd hb (by omega)))
                | (refine And.intro (fun hb => ?_) (fun hb => ?_))
                | (intro hb)
                | (conv => whnf)))
              exact hS (tl _ _ _)
            · have fa : Y 103 (5 * r + j) = hk_M W r j := by
                have := y2 r j r0 r1 b1 (by omega)
                rw [if_neg (by omega)] at this
                exact this
              have fb : Y 103 (5 * c + j) = hk_M W c j := by
                have := y2 c j a1 (by omega) b1 (by omega)
                rw [if_neg (by omega)] at this
                exact this
              have nx : ∀ x9 x10 x11 x12 x13, am_Sem G (d + 2) 131 V T Q 155 [some (vR 86), some (vI s), some (vI k), some (vI n), some (vJ e), none, some (vI c), some (vI r), some (vI (j + 1)), x9, x10, x11, x12, x13] [] (am_up (am_up Y 103 (5 * r + j) (Y 103 (5 * c + j))) 103 (5 * c + j) (Y 103 (5 * r + j))) (am_RF sh) T 0 0 := fun x9 x10 x11 x12 x13 => by
                refine ih2 (j + 1) x9 x10 x11 x12 x13 _ (by omega) (by omega) (by omega) (fun x hx => by rw [am_up_ne hx, am_up_ne hx, y1 x hx]) (fun a b z0 z1 z2 z3 => ?_)
                show am_up (am_up Y 103 (5 * r + j) (Y 103 (5 * c + j))) 103 (5 * c + j) (Y 103 (5 * r + j)) 103 (5 * a + b) = _
                rw [am_up_at, am_up_at]
                by_cases z : b = j
                · subst z
                  rw [if_pos (show b < b + 1 by omega)]
                  by_cases zb : a = c
                  · rw [if_pos (show 5 * a + b = 5 * c + b by omega), fa, if_neg (show ¬ a = r by omega), if_pos zb]
                  · rw [if_neg (show ¬ 5 * a + b = 5 * c + b by omega)]
                    by_cases za : a = r
                    · rw [if_pos (show 5 * a + b = 5 * r + b by omega), fb, if_pos za]
                    · rw [if_neg (show ¬ 5 * a + b = 5 * r + b by omega), if_neg za, if_neg zb]
                      have := y2 a b z0 z1 z2 z3
                      rw [if_neg (by omega)] at this
                      exact this
                · rw [if_neg (show ¬ 5 * a + b = 5 * c + j by omega), if_neg (show ¬ 5 * a + b = 5 * r + j by omega)]
                  have := y2 a b z0 z1 z2 z3
                  by_cases zz : b < j
                  · rw [if_pos zz] at this
                    rw [if_pos (show b < j + 1 by omega)]
                    exact this
                  · rw [if_neg zz] at this
                    rw [if_neg (show ¬ b < j + 1 by omega)]
                    exact this
              clear ih2 ih tail same y2 fa fb wd hQ hB
              refine am_run 400 mt_M_hankel ok_M_hankel (fun K S hK hS => ?_)
              iterate 60 (all_goals (first
                | (simp only [am_st2, am_st1, am_set, am_cut, am_get])
                | (refine And.intro (by omega) ?_)
                | (refine And.intro (fun hb => absurd hb (by omega)) (fun hb => ?_))
                | (refine And.intro (fun hb => ?_) (fun hb => absurd hb (by omega)))
                | (refine And.intro (fun hb => ?_) (fun hb => ?_))
                | (intro hb)
                | (conv => whnf)))
              exact hS (nx _ _ _ _ _)
        have piv : ∀ (j2 : Nat) (r : Int) (x8 x9 x10 x11 x12 x13 : Option AV), c ≤ r → r ≤ n → n - r < j2 → hk_pv (hk_M W) n c (n - r).toNat r = hk_pv (hk_M W) n c (n - c).toNat c → am_Sem G (d + 2) 131 V T Q 115 [some (vR 86), some (vI s), some (vI k), some (vI n), some (vJ e), none, some (vI c), some (vI r), x8, x9, x10, x11, x12, x13] [] W (am_RF sh) T 0 0 := by
          intro j2
          induction j2 with
          | zero => intro r x8 x9 x10 x11 x12 x13 b1 b2 b3; omega
          | succ j2 ih2 =>
            intro r x8 x9 x10 x11 x12 x13 b1 b2 b3 hpv
            by_cases hrn : r = n
            · have e1 : hk_pv (hk_M W) n c (n - c).toNat c = n := by
                rw [← hpv, hrn, show (n - n).toNat = 0 by omega]
                rfl
              have e2 : D = 0 := by rw [← wd]; exact hk_step0 a1 (by omega) e1
              rw [e2] at hQ
              clear ih ih2 tail same swap wd
              refine am_run 400 mt_M_hankel ok_M_hankel (fun K S hK hS => ?_)
              iterate 30 (all_goals (first
                | (simp only [am_st2, am_st1, am_set, am_cut, am_get])
                | (refine And.intro (by omega) ?_)
                | (refine And.intro (fun hb => absurd hb (by omega)) (fun hb => ?_))
                | (refine And.intro (fun hb => ?_) (fun hb => absurd hb (by omega)))
                | (refine And.intro (fun hb => ?_) (fun hb => ?_))
                | (intro hb)
                | (conv => whnf)))
              exact hQ hc W w1
            · obtain ⟨f, hf⟩ : ∃ f, (n - r).toNat = f + 1 := ⟨(n - r).toNat - 1, by omega⟩
              have rr := wr r c (by omega) (by omega) a1 (by omega)
              have frc : W 103 (5 * r + c) = hk_M W r c := rfl
              have hpv2 := hpv
              rw [hf, hk_pv] at hpv2
              by_cases hz : hk_M W r c = 0
              · rw [if_pos hz] at hpv2
                have nx := fun x8 x9 x10 x11 x12 x13 => ih2 (r + 1) x8 x9 x10 x11 x12 x13 (by omega) (by omega) (by omega) (by rw [show (n - (r + 1)).toNat = f by omega]; exact hpv2)
                rw [hz] at frc
                clear ih ih2 tail same swap hpv2 hpv wd hQ hB
                refine am_run 400 mt_M_hankel ok_M_hankel (fun K S hK hS => ?_)
                iterate 51 (all_goals (first
                  | (simp only [am_st2, am_st1, am_set, am_cut, am_get])
                  | (refine And.intro (by omega) ?_)
                  | (refine And.intro (fun hb => absurd hb (by omega)) (fun hb => ?_))
                  | (refine And.intro (fun hb => ?_) (fun hb => absurd hb (by omega)))
                  | (refine And.intro (fun hb => ?_) (fun hb => ?_))
                  | (intro hb)
                  | (simp only [frc])
                  | (conv => whnf)))
                exact hS (nx _ _ _ _ _ _)
              · rw [if_neg hz] at hpv2
                have st : ∀ x9 x10 x11 x12 x13, am_Sem G (d + 2) 131 V T Q 155 [some (vR 86), some (vI s), some (vI k), some (vI n), some (vJ e), none, some (vI c), some (vI r), some (vI 0), x9, x10, x11, x12, x13] [] W (am_RF sh) T 0 0 := by
                  by_cases hrc : r = c
                  · exact same r hrc hpv2.symm
                  · intro x9 x10 x11 x12 x13
                    exact swap r hrc (by omega) (by omega) hpv2.symm (n + 1).toNat 0 x9 x10 x11 x12 x13 W (by omega) (by omega) (by omega) w1 (fun a b z0 z1 z2 z3 => by rw [if_neg (by omega)])
                obtain ⟨A, hA⟩ : ∃ A, A = hk_M W r c := ⟨_, rfl⟩
                rw [← hA] at frc hz rr
                clear ih ih2 tail same swap hpv2 hpv wd hQ hB hA
                refine am_run 400 mt_M_hankel ok_M_hankel (fun K S hK hS => ?_)
                iterate 51 (all_goals (first
                  | (simp only [am_st2, am_st1, am_set, am_cut, am_get])
                  | (refine And.intro (by omega) ?_)
                  | (refine And.intro (fun hb => absurd hb (by omega)) (fun hb => ?_))
                  | (refine And.intro (fun hb => ?_) (fun hb => absurd hb (by omega)))
                  | (refine And.intro (fun hb => ?_) (fun hb => ?_))
                  | (intro hb)
                  | (simp only [frc])
                  | (conv => whnf)))
                exact hS (st _ _ _ _ _)
        have st := fun x8 x9 x10 x11 x12 x13 => piv (n - c + 1).toNat c x8 x9 x10 x11 x12 x13 (by omega) (by omega) (by omega) rfl
        clear piv tail same swap ih wd hQ hB
        refine am_run 400 mt_M_hankel ok_M_hankel (fun K S hK hS => ?_)
        iterate 30 (all_goals (first
          | (simp only [am_st2, am_st1, am_set, am_cut, am_get])
          | (refine And.intro (by omega) ?_)
          | (refine And.intro (fun hb => absurd hb (by omega)) (fun hb => ?_))
          | (refine And.intro (fun hb => ?_) (fun hb => absurd hb (by omega)))
          | (refine And.intro (fun hb => ?_) (fun hb => ?_))
          | (intro hb)
          | (conv => whnf)))
        exact hS (st _ _ _ _ _ _)
  have init : ((0 ≤ s ∧ s < 8) ∧ 0 ≤ k ∧ 2 * k ≤ V 98 s) → 1 ≤ n ∧ n ≤ 5 → ∀ (jj : Nat) (i : Int) (x5 : Option AV) (W : am_V), 0 ≤ i → i ≤ n → n - i < jj → (∀ x, x ≠ 103 → W x = am_up V 86 0 0 x) → (∀ a b, 0 ≤ a → a < i → 0 ≤ b → b < n → hk_M W a b = sr_m V s (a + b)) → am_Sem G (d + 2) 131 V T Q 44 [some (vR 86), some (vI s), some (vI k), some (vI n), some (vI i), x5, none, none, none, none, none, none, none, none] [] W (am_RF sh) T 0 0 := by
    intro hc hn5 jj
    have zs := hz s hc.1.1 hc.1.2
    have hms := hm s hc.1.1 hc.1.2
    have rgm : ∀ j, 0 ≤ j → j ≤ 8 → 0 ≤ sr_m V s j ∧ sr_m V s j < p := fun j a b => by
      by_cases z : j = 0
      · rw [z, hms.1]; omega
      · exact hms.2 j (by omega) b
    induction jj with
    | zero => intro i x5 W a1 a2 a3; omega
    | succ jj ih =>
      intro i x5 W a1 a2 a3 w1 w2
      by_cases hin : i = n
      · have eqt : hk_eq n (hk_M W) (fun i j => sr_m V s (i + j)) := fun a b z0 z1 z2 z3 => w2 a b z0 (by omega) z2 z3
        have st := loop hc hn5 (n + 1).toNat 0 1 none none none none none none none W (by omega) (by omega) (by omega) (by omega) w1 (fun a b z0 z1 z2 z3 => by rw [eqt a b z0 z1 z2 z3]; exact rgm _ (by omega) (by omega)) (by rw [show (n - 0).toNat = n.toNat by omega, hk_congr n.toNat 0 _ _ 1 (by omega) (by omega) eqt, hD, hn])
        clear loop ih w2 hQ hB
        refine am_run 400 mt_M_hankel ok_M_hankel (fun K S hK hS => ?_)
        iterate 30 (all_goals (first
          | (simp only [am_st2, am_st1, am_set, am_cut, am_get])
          | (refine And.intro (by omega) ?_)
          | (refine And.intro (fun hb => absurd hb (by omega)) (fun hb => ?_))
          | (refine And.intro (fun hb => ?_) (fun hb => absurd hb (by omega)))
          | (refine And.intro (fun hb => ?_) (fun hb => ?_))
          | (intro hb)
          | (conv => whnf)))
        exact hS st
      · have inner : ∀ (j2 : Nat) (j : Int) (U : am_V), 0 ≤ j → j ≤ n → n - j < j2 → (∀ x, x ≠ 103 → U x = am_up V 86 0 0 x) → (∀ a b, 0 ≤ a → a ≤ i → 0 ≤ b → b < n → (a < i ∨ b < j) → hk_M U a b = sr_m V s (a + b)) → am_Sem G (d + 2) 131 V T Q 53 [some (vR 86), some (vI s), some (vI k), some (vI n), some (vI i), some (vI j), none, none, none, none, none, none, none, none] [] U (am_RF sh) T 0 0 := by
          intro j2
          induction j2 with
          | zero => intro j U b1 b2 b3; omega
          | succ j2 ih2 =>
            intro j U b1 b2 b3 u1 u2
            by_cases hjn : j = n
            · have nx := fun x5 => ih (i + 1) x5 U (by omega) (by omega) (by omega) u1 (fun a b z0 z1 z2 z3 => u2 a b z0 (by omega) z2 z3 (by omega))
              clear loop ih ih2 hQ hB
              refine am_run 400 mt_M_hankel ok_M_hankel (fun K S hK hS => ?_)
              iterate 30 (all_goals (first
                | (simp only [am_st2, am_st1, am_set, am_cut, am_get])
                | (refine And.intro (by omega) ?_)
                | (refine And.intro (fun hb => absurd hb (by omega)) (fun hb => ?_))
                | (refine And.intro (fun hb => ?_) (fun hb => absurd hb (by omega)))
                | (refine And.intro (fun hb => ?_) (fun hb => ?_))
                | (intro hb)
                | (conv => whnf)))
              exact hS (nx _)
            · have f86 : U 86 2 = p := by rw [u1 86 (by decide)]; simp +decide [am_up_ne, am_up_at, reduceIte]; exact e0
              have rr := rgm (i + j) (by omega) (by omega)
              have em : Int.tmod (sr_m V s (i + j)) p = sr_m V s (i + j) := by rw [m_tm rr.1, Int.emod_eq_of_lt rr.1 rr.2]
              have nx := ih2 (j + 1) (am_up U 103 (5 * i + j) (sr_m V s (i + j))) (by omega) (by omega) (by omega) (fun x hx => by rw [am_up_ne hx, u1 x hx]) (fun a b z0 z1 z2 z3 z4 => by
                show am_up U 103 (5 * i + j) _ 103 (5 * a + b) = _
                rw [am_up_at]
                by_cases z : a = i ∧ b = j
                · rw [if_pos (show 5 * a + b = 5 * i + j by omega), z.1, z.2]
                · rw [if_neg (show ¬ 5 * a + b = 5 * i + j by omega)]
                  exact u2 a b z0 z1 z2 z3 (by omega))
              have emm := mW U u1 s
              obtain ⟨A, hA⟩ : ∃ A, A = sr_m V s (i + j) := ⟨_, rfl⟩
              rw [← hA] at rr em nx
              clear loop ih ih2 hQ hB u2
              refine am_run 400 mt_M_hankel ok_M_hankel (fun K S hK hS => ?_)
              iterate 30 (all_goals (first
                | (simp only [am_st2, am_st1, am_set, am_cut, am_get])
                | (refine And.intro (by omega) ?_)
                | (refine And.intro (fun hb => absurd hb (by omega)) (fun hb => ?_))
                | (refine And.intro (fun hb => ?_) (fun hb => absurd hb (by omega)))
                | (refine And.intro (fun hb => ?_) (fun hb => ?_))
                | (intro hb)
                | (conv => whnf)))
              refine hK (s_M_m hc.1 (by omega) ?_)
              rw [emm, ← hA]
              iterate 51 (all_goals (first
                | (simp only [am_st2, am_st1, am_set, am_cut, am_get])
                | (refine And.intro (by omega) ?_)
                | (refine And.intro (fun hb => absurd hb (by omega)) (fun hb => ?_))
                | (refine And.intro (fun hb => ?_) (fun hb => absurd hb (by omega)))
                | (refine And.intro (fun hb => ?_) (fun hb => ?_))
                | (intro hb)
                | (simp only [f86, em])
                | (conv => whnf)))
              exact hS nx
        have st := inner (n + 1).toNat 0 W (by omega) (by omega) (by omega) w1 (fun a b z0 z1 z2 z3 z4 => w2 a b z0 (by omega) z2 z3)
        clear inner ih loop hQ hB
        refine am_run 400 mt_M_hankel ok_M_hankel (fun K S hK hS => ?_)
        iterate 30 (all_goals (first
          | (simp only [am_st2, am_st1, am_set, am_cut, am_get])
          | (refine And.intro (by omega) ?_)
          | (refine And.intro (fun hb => absurd hb (by omega)) (fun hb => ?_))
          | (refine And.intro (fun hb => ?_) (fun hb => absurd hb (by omega)))
          | (refine And.intro (fun hb => ?_) (fun hb => ?_))
          | (intro hb)
          | (conv => whnf)))
        exact hS st
  have e98 : am_up V 86 0 0 98 s = V 98 s := by rw [am_up_ne (by decide)]
  refine am_run 400 mt_M_hankel ok_M_hankel (fun K S hK hS => ?_)
  iterate 30 (all_goals (first
    | (refine And.intro (by omega) ?_)
    | (refine And.intro (fun hb => absurd hb (by omega)) (fun hb => ?_))
    | (refine And.intro (fun hb => ?_) (fun hb => absurd hb (by omega)))
    | (refine And.intro (fun hb => ?_) (fun hb => ?_))
    | (intro hb)
    | (conv => whnf)))
  refine hK (s_M_isSeries h0 (fun r hr => ?_))
  by_cases hs : 0 ≤ s ∧ s < 8
  · have zs := hz s hs.1 hs.2
    by_cases hk : 0 ≤ k ∧ 2 * k ≤ V 98 s
    · have st := init ⟨hs, hk⟩ (by omega) (n + 1).toNat 0 none (am_up V 86 0 0) (by omega) (by omega) (by omega) (fun _ _ => rfl) (fun a b z0 z1 => absurd z1 (by omega))
      rw [hn] at st
      clear init loop hQ hB
      iterate 60 (all_goals (first
        | (simp only [am_st2, am_st1, am_set, am_cut, am_get])
        | (refine And.intro (by omega) ?_)
        | (refine And.intro (by decide) ?_)
        | (refine And.intro (fun hb => absurd hb (by omega)) (fun hb => ?_))
        | (refine And.intro (fun hb => ?_) (fun hb => absurd hb (by omega)))
        | (refine And.intro (fun hb => ?_) (fun hb => ?_))
        | (intro hb)
        | (simp only [e98])
        | (conv => whnf)))
      exact hS st
    · iterate 60 (all_goals (first
        | (simp only [am_st2, am_st1, am_set, am_cut, am_get])
        | (refine And.intro (by omega) ?_)
        | (refine And.intro (by decide) ?_)
        | (refine And.intro (fun hb => absurd hb (by omega)) (fun hb => ?_))
        | (refine And.intro (fun hb => ?_) (fun hb => absurd hb (by omega)))
        | (refine And.intro (fun hb => ?_) (fun hb => ?_))
        | (intro hb)
        | (simp only [e98])
        | (conv => whnf)))
      all_goals exact hB (by omega)
  · iterate 30 (all_goals (first
      | (refine And.intro (by omega) ?_)
      | (refine And.intro (fun hb => absurd hb (by omega)) (fun hb => ?_))
      | (refine And.intro (fun hb => ?_) (fun hb => absurd hb (by omega)))
      | (refine And.intro (fun hb => ?_) (fun hb => ?_))
      | (intro hb)
      | (conv => whnf)))
    exact hB (by omega)
