/-! hankel: elimination, and the class -/
def hk_pv (t : Int → Int → Int) (n c : Int) : Nat → Int → Int
  | 0, r => r
  | f + 1, r => if t r c = 0 then hk_pv t n c f (r + 1) else r
def hk_sw (t : Int → Int → Int) (n a b : Int) : Int → Int → Int := fun i j => if j < n then (if i = a then t b j else if i = b then t a j else t i j) else t i j
def hk_cl (p : Int) (t : Int → Int → Int) (n c v : Int) : Int → Int → Int := fun i j => if (c < i ∧ i < n) ∧ (c ≤ j ∧ j < n) then (t i j + (p - t i c * v % p) * t c j) % p else t i j
def hk_iv (p v : Int) : Int := sr_sq p (p - 2).toNat (p - 2).toNat 1 v
def hk_t1 (t : Int → Int → Int) (n r c : Int) : Int → Int → Int := if r = c then t else hk_sw t n r c
def hk_d1 (p r c e : Int) : Int := if r = c then e else (p - e) % p
def hk (p n : Int) : Nat → Int → (Int → Int → Int) → Int → Int
  | 0, _, _, e => e
  | f + 1, c, t, e => if hk_pv t n c (n - c).toNat c = n then 0 else hk p n f (c + 1) (hk_cl p (hk_t1 t n (hk_pv t n c (n - c).toNat c) c) n c (hk_iv p (hk_t1 t n (hk_pv t n c (n - c).toNat c) c c c))) (hk_d1 p (hk_pv t n c (n - c).toNat c) c e * hk_t1 t n (hk_pv t n c (n - c).toNat c) c c c % p)
def hk_eq (n : Int) (t u : Int → Int → Int) : Prop := ∀ i j, 0 ≤ i → i < n → 0 ≤ j → j < n → t i j = u i j
theorem hk_pv_eq {t u : Int → Int → Int} {n c : Int} (h : hk_eq n t u) (c0 : 0 ≤ c) (c1 : c < n) : ∀ (f : Nat) (r : Int), 0 ≤ r → r + f ≤ n → hk_pv t n c f r = hk_pv u n c f r
  | 0, _, _, _ => rfl
  | f + 1, r, a, b => by
    unfold hk_pv
    rw [h r c a (by omega) c0 c1, hk_pv_eq h c0 c1 f (r + 1) (by omega) (by omega)]
theorem hk_pv_rg (t : Int → Int → Int) (n c : Int) : ∀ (f : Nat) (r : Int), r ≤ hk_pv t n c f r ∧ hk_pv t n c f r ≤ r + f
  | 0, r => by unfold hk_pv; omega
  | f + 1, r => by
    unfold hk_pv
    have := hk_pv_rg t n c f (r + 1)
    split <;> omega
theorem hk_sw_eq {t u : Int → Int → Int} {n a b : Int} (h : hk_eq n t u) (a0 : 0 ≤ a) (a1 : a < n) (b0 : 0 ≤ b) (b1 : b < n) : hk_eq n (hk_sw t n a b) (hk_sw u n a b) := by
  intro i j i0 i1 j0 j1
  unfold hk_sw
  rw [if_pos j1, if_pos j1]
  split
  · exact h b j b0 b1 j0 j1
  · split
    · exact h a j a0 a1 j0 j1
    · exact h i j i0 i1 j0 j1
theorem hk_cl_eq {p : Int} {t u : Int → Int → Int} {n c v : Int} (h : hk_eq n t u) (c0 : 0 ≤ c) (c1 : c < n) : hk_eq n (hk_cl p t n c v) (hk_cl p u n c v) := by
  intro i j i0 i1 j0 j1
  unfold hk_cl
  rw [h i j i0 i1 j0 j1, h i c i0 i1 c0 c1, h c j c0 c1 j0 j1]
theorem hk_t1_eq {t u : Int → Int → Int} {n r c : Int} (h : hk_eq n t u) (a0 : 0 ≤ r) (a1 : r < n) (b0 : 0 ≤ c) (b1 : c < n) : hk_eq n (hk_t1 t n r c) (hk_t1 u n r c) := by
  unfold hk_t1
  split
  · exact h
  · exact hk_sw_eq h a0 a1 b0 b1
theorem hk_congr {p n : Int} : ∀ (f : Nat) (c : Int) (t u : Int → Int → Int) (e : Int), 0 ≤ c → c + f = n → hk_eq n t u → hk p n f c t e = hk p n f c u e
  | 0, _, _, _, _, _, _, _ => rfl
  | f + 1, c, t, u, e, c0, c1, h => by
    unfold hk
    have e1 := hk_pv_eq h c0 (by omega) (n - c).toNat c c0 (by omega)
    have rg := hk_pv_rg u n c (n - c).toNat c
    rw [e1]
    obtain ⟨r, hr⟩ : ∃ r, r = hk_pv u n c (n - c).toNat c := ⟨_, rfl⟩
    rw [← hr] at rg ⊢
    by_cases q : r = n
    · rw [if_pos q, if_pos q]
    · rw [if_neg q, if_neg q]
      have e2 := hk_t1_eq (r := r) (c := c) h (by omega) (by omega) c0 (by omega)
      rw [e2 c c c0 (by omega) c0 (by omega)]
      exact hk_congr f (c + 1) _ _ _ (by omega) (by omega) (hk_cl_eq e2 c0 (by omega))
/-- the class's table -/
def hk_F (V : am_V) : Int → Int → Int := fun i j => V 44 (64 * i + j)
def hk_rg (p n : Int) (t : Int → Int → Int) : Prop := ∀ i j, 0 ≤ i → i < n → 0 ≤ j → j < n → 0 ≤ t i j ∧ t i j < p
theorem s_F_swapRows {G : am_G} {d : Nat} {sh : Int → Option Nat} {V : am_V} {T : Nat} {Q : Option AV → am_V → am_T → Nat → Prop} {a b n : Int} (hn : 1 ≤ n ∧ n ≤ 5) (ha : 0 ≤ a ∧ a < n) (hb : 0 ≤ b ∧ b < n) (hab : a ≠ b) (hQ : ∀ V', (∀ x, x ≠ 44 → V' x = V x) → hk_eq n (hk_F V') (hk_sw (hk_F V) n a b) → Q none V' (am_RF sh) T) : am_Calls G (d + 1) 63 [vR 3, vI a, vI b, vI n] V (am_RF sh) T Q := by
  refine am_enter mt_F_swapRows ok_F_swapRows rfl ?_
  have loop : ∀ (jj : Nat) (k : Int) (x5 : Option AV) (W : am_V), 0 ≤ k → k ≤ n → n - k < jj → (∀ x, x ≠ 44 → W x = V x) → (∀ i j, 0 ≤ i → i < n → 0 ≤ j → j < n → hk_F W i j = if j < k then (if i = a then hk_F V b j else if i = b then hk_F V a j else hk_F V i j) else hk_F V i j) → am_Sem G d 63 V T Q 3 [some (vR 3), some (vI a), some (vI b), some (vI n), some (vI k), x5, none] [] W (am_RF sh) T 0 0 := by
    intro jj
    induction jj with
    | zero => intro k x5 W a1 a2 a3; omega
    | succ jj ih =>
      intro k x5 W a1 a2 a3 w1 w2
      by_cases hk : k = n
      · subst hk
        refine am_run 400 mt_F_swapRows ok_F_swapRows (fun K S hK hS => ?_)
        iterate 30 (all_goals (first
          | (simp only [am_st2, am_st1, am_set, am_cut, am_get])
          | (refine And.intro (by omega) ?_)
          | (refine And.intro (fun hb => absurd hb (by omega)) (fun hb => ?_))
          | (refine And.intro (fun hb => ?_) (fun hb => absurd hb (by omega)))
          | (refine And.intro (fun hb => ?_) (fun hb => ?_))
          | (intro hb)
          | (conv => whnf)))
        refine hQ W w1 (fun i j i0 i1 j0 j1 => ?_)
        rw [w2 i j i0 i1 j0 j1]
        rfl
      · have fa : W 44 (64 * a + k) = hk_F V a k := by
          have := w2 a k ha.1 ha.2 a1 (by omega)
          rw [if_neg (by omega)] at this
          exact this
        have fb : W 44 (64 * b + k) = hk_F V b k := by
          have := w2 b k hb.1 hb.2 a1 (by omega)
          rw [if_neg (by omega)] at this
          exact this
        have nx : ∀ x5, am_Sem G d 63 V T Q 3 [some (vR 3), some (vI a), some (vI b), some (vI n), some (vI (k + 1)), x5, none] [] (am_up (am_up W 44 (64 * a + k) (W 44 (64 * b + k))) 44 (64 * b + k) (W 44 (64 * a + k))) (am_RF sh) T 0 0 := fun x5 => by
          refine ih (k + 1) x5 _ (by omega) (by omega) (by omega) (fun x hx => by rw [am_up_ne hx, am_up_ne hx, w1 x hx]) (fun i j i0 i1 j0 j1 => ?_)
          show am_up (am_up W 44 (64 * a + k) (W 44 (64 * b + k))) 44 (64 * b + k) (W 44 (64 * a + k)) 44 (64 * i + j) = _
          rw [am_up_at, am_up_at]
          by_cases z : j = k
          · subst z
            rw [if_pos (show j < j + 1 by omega)]
            by_cases zb : i = b
            · rw [if_pos (show 64 * i + j = 64 * b + j by omega), fa, if_neg (show ¬ i = a by omega), if_pos zb]
            · rw [if_neg (show ¬ 64 * i + j = 64 * b + j by omega)]
              by_cases za : i = a
              · rw [if_pos (show 64 * i + j = 64 * a + j by omega), fb, if_pos za]
              · rw [if_neg (show ¬ 64 * i + j = 64 * a + j by omega), if_neg za, if_neg zb]
                have := w2 i j i0 i1 j0 j1
                rw [if_neg (by omega)] at this
                exact this
          · rw [if_neg (show ¬ 64 * i + j = 64 * b + k by omega), if_neg (show ¬ 64 * i + j = 64 * a + k by omega)]
            have := w2 i j i0 i1 j0 j1
            by_cases z2 : j < k
            · rw [if_pos z2] at this
              rw [if_pos (show j < k + 1 by omega)]
              exact this
            · rw [if_neg z2] at this
              rw [if_neg (show ¬ j < k + 1 by omega)]
              exact this
        clear ih w2 fa fb
        refine am_run 400 mt_F_swapRows ok_F_swapRows (fun K S hK hS => ?_)
        iterate 51 (all_goals (first
          | (simp only [am_st2, am_st1, am_set, am_cut, am_get])
          | (refine And.intro (by omega) ?_)
          | (refine And.intro (fun hb => absurd hb (by omega)) (fun hb => ?_))
          | (refine And.intro (fun hb => ?_) (fun hb => absurd hb (by omega)))
          | (refine And.intro (fun hb => ?_) (fun hb => ?_))
          | (intro hb)
          | (conv => whnf)))
        exact hS (nx _)
  refine am_run 400 mt_F_swapRows ok_F_swapRows (fun K S hK hS => ?_)
  iterate 30 (all_goals (first
    | (refine And.intro (by omega) ?_)
    | (refine And.intro (fun hb => absurd hb (by omega)) (fun hb => ?_))
    | (refine And.intro (fun hb => ?_) (fun hb => absurd hb (by omega)))
    | (refine And.intro (fun hb => ?_) (fun hb => ?_))
    | (intro hb)
    | (conv => whnf)))
  exact hS (loop (n + 1).toNat 0 _ V (by omega) (by omega) (by omega) (fun _ _ => rfl) (fun i j i0 i1 j0 j1 => by rw [if_neg (by omega)]))
theorem s_F_clearColumnBelow {G : am_G} {d : Nat} {sh : Int → Option Nat} {V : am_V} {T : Nat} {Q : Option AV → am_V → am_T → Nat → Prop} {p c n : Int} (hp : 101 ≤ p ∧ p ≤ 2000000000) (e0 : V 3 0 = p) (hn : 1 ≤ n ∧ n ≤ 5) (hc : 0 ≤ c ∧ c < n) (hr : hk_rg p n (hk_F V)) (hQ : ∀ V', (∀ x, x ≠ 44 → V' x = V x) → hk_eq n (hk_F V') (hk_cl p (hk_F V) n c (hk_iv p (hk_F V c c))) → Q none V' (am_RF sh) T) : am_Calls G (d + 2) 64 [vR 3, vI c, vI n] V (am_RF sh) T Q := by
  refine am_enter mt_F_clearColumnBelow ok_F_clearColumnBelow rfl ?_
  have loop : ∀ (v : Int), v = hk_iv p (hk_F V c c) → 0 ≤ v ∧ v < p → ∀ (jj : Nat) (r : Int) (x6 x8 : Option AV) (W : am_V), c < r → r ≤ n → n - r < jj → (∀ x, x ≠ 44 → W x = V x) → (∀ i j, 0 ≤ i → i < n → 0 ≤ j → j < n → hk_F W i j = if i < r then hk_cl p (hk_F V) n c v i j else hk_F V i j) → am_Sem G (d + 1) 64 V T Q 26 [some (vR 3), some (vI c), some (vI n), some (vJ v), none, some (vI r), x6, none, x8] [] W (am_RF sh) T 0 0 := by
    intro v hv rv jj
    induction jj with
    | zero => intro r x6 x8 W a1 a2 a3; omega
    | succ jj ih =>
      intro r x6 x8 W a1 a2 a3 w1 w2
      by_cases hrn : r = n
      · refine am_run 400 mt_F_clearColumnBelow ok_F_clearColumnBelow (fun K S hK hS => ?_)
        iterate 30 (all_goals (first
          | (simp only [am_st2, am_st1, am_set, am_cut, am_get])
          | (refine And.intro (by omega) ?_)
          | (refine And.intro (fun hb => absurd hb (by omega)) (fun hb => ?_))
          | (refine And.intro (fun hb => ?_) (fun hb => absurd hb (by omega)))
          | (refine And.intro (fun hb => ?_) (fun hb => ?_))
          | (intro hb)
          | (conv => whnf)))
        refine hQ W w1 (fun i j i0 i1 j0 j1 => ?_)
        rw [w2 i j i0 i1 j0 j1, if_pos (by omega), ← hv]
      · have f3 : W 3 0 = p := by rw [w1 3 (by decide)]; exact e0
        have frc : W 44 (64 * r + c) = hk_F V r c := by
          have := w2 r c (by omega) (by omega) hc.1 hc.2
          rw [if_neg (by omega)] at this
          exact this
        have rrc := hr r c (by omega) (by omega) hc.1 hc.2
        have m1 := m_mulr rrc.1 rrc.2 rv.1 rv.2 hp.2
        have em : Int.tmod (hk_F V r c * v) p = hk_F V r c * v % p := m_tm m1.1
        have rm : 0 ≤ hk_F V r c * v % p ∧ hk_F V r c * v % p < p := m_modr (by omega)
        have inner : ∀ (j2 : Nat) (k : Int) (U : am_V), c ≤ k → k ≤ n → n - k < j2 → (∀ x, x ≠ 44 → U x = V x) → (∀ i j, 0 ≤ i → i < n → 0 ≤ j → j < n → hk_F U i j = if i < r ∨ (i = r ∧ j < k) then hk_cl p (hk_F V) n c v i j else hk_F V i j) → am_Sem G (d + 1) 64 V T Q 58 [some (vR 3), some (vI c), some (vI n), some (vJ v), none, some (vI r), some (vJ (p - hk_F V r c * v % p)), none, some (vI k)] [] U (am_RF sh) T 0 0 := by
          intro j2
          induction j2 with
          | zero => intro k U b1 b2 b3; omega
          | succ j2 ih2 =>
            intro k U b1 b2 b3 u1 u2
            by_cases hkn : k = n
            · refine am_run 400 mt_F_clearColumnBelow ok_F_clearColumnBelow (fun K S hK hS => ?_)
              iterate 30 (all_goals (first
                | (simp only [am_st2, am_st1, am_set, am_cut, am_get])
                | (refine And.intro (by omega) ?_)
                | (refine And.intro (fun hb => absurd hb (by omega)) (fun hb => ?_))
                | (refine And.intro (fun hb => ?_) (fun hb => absurd hb (by omega)))
                | (refine And.intro (fun hb => ?_) (fun hb => ?_))
                | (intro hb)
                | (conv => whnf)))
              refine hS (ih (r + 1) _ _ U (by omega) (by omega) (by omega) u1 (fun i j i0 i1 j0 j1 => ?_))
              rw [u2 i j i0 i1 j0 j1]
              by_cases z : i < r + 1
              · rw [if_pos z, if_pos (by omega)]
              · rw [if_neg z, if_neg (by omega)]
            · have g3 : U 3 0 = p := by rw [u1 3 (by decide)]; exact e0
              have frk : U 44 (64 * r + k) = hk_F V r k := by
                have := u2 r k (by omega) (by omega) (by omega) (by omega)
                rw [if_neg (by omega)] at this
                exact this
              have fck : U 44 (64 * c + k) = hk_F V c k := by
                have := u2 c k hc.1 hc.2 (by omega) (by omega)
                rw [if_pos (by omega)] at this
                refine this.trans ?_
                unfold hk_cl
                rw [if_neg (by omega)]
              have r1 := hr r k (by omega) (by omega) (by omega) (by omega)
              have r2 := hr c k hc.1 hc.2 (by omega) (by omega)
              have m2 : 0 ≤ (p - hk_F V r c * v % p) * hk_F V c k ∧ (p - hk_F V r c * v % p) * hk_F V c k ≤ 4000000000000000000 := by
                refine ⟨Int.mul_nonneg (by omega) r2.1, ?_⟩
                have : (p - hk_F V r c * v % p) * hk_F V c k ≤ 2000000000 * 2000000000 := Int.mul_le_mul (by omega) (by omega) r2.1 (by omega)
                omega
              have et : Int.tmod (hk_F V r k + (p - hk_F V r c * v % p) * hk_F V c k) p = hk_cl p (hk_F V) n c v r k := by
                rw [m_tm (by omega)]
                unfold hk_cl
                rw [if_pos (by omega)]
              have nx := ih2 (k + 1) (am_up U 44 (64 * r + k) (Int.tmod (hk_F V r k + (p - hk_F V r c * v % p) * hk_F V c k) p)) (by omega) (by omega) (by omega) (fun x hx => by rw [am_up_ne hx, u1 x hx]) (fun i j i0 i1 j0 j1 => by
                show am_up U 44 (64 * r + k) _ 44 (64 * i + j) = _
                rw [am_up_at]
                by_cases z : i = r ∧ j = k
                · rw [if_pos (show 64 * i + j = 64 * r + k by omega), if_pos (show i < r ∨ (i = r ∧ j < k + 1) by omega), z.1, z.2, et]
                · rw [if_neg (show ¬ 64 * i + j = 64 * r + k by omega)]
                  have := u2 i j i0 i1 j0 j1
                  by_cases z2 : i < r ∨ (i = r ∧ j < k)
                  · rw [if_pos z2] at this
                    rw [if_pos (show i < r ∨ (i = r ∧ j < k + 1) by omega)]
                    exact this
                  · rw [if_neg z2] at this
                    rw [if_neg (show ¬ (i < r ∨ (i = r ∧ j < k + 1)) by omega)]
                    exact this)
              obtain ⟨A, hA⟩ : ∃ A, A = hk_F V r k := ⟨_, rfl⟩
              obtain ⟨B, hB⟩ : ∃ B, B = hk_F V c k := ⟨_, rfl⟩
              obtain ⟨C, hC⟩ : ∃ C, C = p - hk_F V r c * v % p := ⟨_, rfl⟩
              rw [← hA, ← hB, ← hC] at nx
              rw [← hA] at frk r1
              rw [← hB] at fck
              rw [← hB, ← hC] at m2
              rw [← hC]
              have x1 : am_in64 (A + C * B) := by constructor <;> omega
              clear ih2 ih u2 w2 et hA hB hC m2 rm em m1 hQ
              refine am_run 400 mt_F_clearColumnBelow ok_F_clearColumnBelow (fun K S hK hS => ?_)
              iterate 51 (all_goals (first
                | (simp only [am_st2, am_st1, am_set, am_cut, am_get])
                | (refine And.intro (⟨by with_reducible assumption, by omega⟩) ?_)
                | (refine And.intro (by omega) ?_)
                | (refine And.intro (fun hb => absurd hb (by omega)) (fun hb => ?_))
                | (refine And.intro (fun hb => ?_) (fun hb => absurd hb (by omega)))
                | (refine And.intro (fun hb => ?_) (fun hb => ?_))
                | (intro hb)
                | (simp only [g3, frk, fck])
                | (conv => whnf)))
              exact hS nx
        have st := inner (n - c + 1).toNat c W (by omega) (by omega) (by omega) w1 (fun i j i0 i1 j0 j1 => by
          rw [w2 i j i0 i1 j0 j1]
          by_cases z : i < r
          · rw [if_pos z, if_pos (by omega)]
          · rw [if_neg z]
            by_cases z2 : i < r ∨ (i = r ∧ j < c)
            · rw [if_pos z2]
              unfold hk_cl
              rw [if_neg (by omega)]
            · rw [if_neg z2])
        rw [← em] at st
        obtain ⟨A, hA⟩ : ∃ A, A = hk_F V r c := ⟨_, rfl⟩
        rw [← hA] at st frc m1
        have x1 : am_in64 (A * v) := by constructor <;> omega
        clear inner ih w2 em rm m1 hA hQ
        refine am_run 400 mt_F_clearColumnBelow ok_F_clearColumnBelow (fun K S hK hS => ?_)
        iterate 51 (all_goals (first
          | (simp only [am_st2, am_st1, am_set, am_cut, am_get])
          | (refine And.intro (⟨by with_reducible assumption, by omega⟩) ?_)
          | (refine And.intro (by omega) ?_)
          | (refine And.intro (fun hb => absurd hb (by omega)) (fun hb => ?_))
          | (refine And.intro (fun hb => ?_) (fun hb => absurd hb (by omega)))
          | (refine And.intro (fun hb => ?_) (fun hb => ?_))
          | (intro hb)
          | (simp only [f3, frc])
          | (conv => whnf)))
        exact hS st
  have rcc := hr c c hc.1 hc.2 hc.1 hc.2
  have fcc : V 44 (64 * c + c) = hk_F V c c := rfl
  have rv := sr_sq_rg (p := p) (by omega) (p - 2).toNat (p - 2).toNat 1 (hk_F V c c) (by omega)
  have st := fun x6 x8 => loop (hk_iv p (hk_F V c c)) rfl rv (n - c).toNat (c + 1) x6 x8 V (by omega) (by omega) (by omega) (fun _ _ => rfl) (fun i j i0 i1 j0 j1 => by
    by_cases z : i < c + 1
    · rw [if_pos z]; unfold hk_cl; rw [if_neg (by omega)]
    · rw [if_neg z])
  clear loop
  refine am_run 400 mt_F_clearColumnBelow ok_F_clearColumnBelow (fun K S hK hS => ?_)
  iterate 51 (all_goals (first
    | (simp only [am_st2, am_st1, am_set, am_cut, am_get])
    | (refine And.intro (by omega) ?_)
    | (refine And.intro (fun hb => absurd hb (by omega)) (fun hb => ?_))
    | (refine And.intro (fun hb => ?_) (fun hb => absurd hb (by omega)))
    | (refine And.intro (fun hb => ?_) (fun hb => ?_))
    | (intro hb)
    | (simp only [e0])
    | (conv => whnf)))
  refine hK (s_F_power (p := p) (by omega) e0 (by rw [fcc]; omega) (by omega) ?_)
  rw [fcc, Int.emod_eq_of_lt rcc.1 rcc.2]
  have ev : sr_sq p (p - 2).toNat (p - 2).toNat 1 (hk_F V c c) = hk_iv p (hk_F V c c) := rfl
  rw [ev]
  obtain ⟨v, hv⟩ : ∃ v, v = hk_iv p (hk_F V c c) := ⟨_, rfl⟩
  rw [← hv] at st ⊢
  iterate 30 (all_goals (first
    | (simp only [am_st2, am_st1, am_set, am_cut, am_get])
    | (refine And.intro (by omega) ?_)
    | (refine And.intro (fun hb => absurd hb (by omega)) (fun hb => ?_))
    | (refine And.intro (fun hb => ?_) (fun hb => absurd hb (by omega)))
    | (refine And.intro (fun hb => ?_) (fun hb => ?_))
    | (intro hb)
    | (conv => whnf)))
  exact hS (st _ _)
