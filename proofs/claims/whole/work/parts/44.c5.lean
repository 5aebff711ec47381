/-! the class: labels, what is made of Things -/
/-- the least point that is like k -/
def m_lik (h : Int → Int) (k v : Int) : Prop := 0 ≤ v ∧ v ≤ k ∧ h v = h k ∧ ∀ y, 0 ≤ y → y < v → h y ≠ h k
theorem m_lik_rel {g h : Int → Int} {n : Int} (w : ∀ k, 0 ≤ k → k < n → m_lik h k (g k)) : ∀ i j, 0 ≤ i → i < n → 0 ≤ j → j < n → (g i = g j ↔ h i = h j) := by
  intro i j a1 a2 a3 a4
  obtain ⟨b1, b2, b3, b4⟩ := w i a1 a2
  obtain ⟨c1, c2, c3, c4⟩ := w j a3 a4
  constructor
  · intro e
    rw [← b3, e, c3]
  · intro e
    rcases Int.lt_trichotomy (g i) (g j) with q | q | q
    · exact absurd (b3.trans e) (c4 (g i) b1 q)
    · exact q
    · exact absurd (c3.trans e.symm) (b4 (g j) c1 q)
theorem s_F_labelLikeItems {G : am_G} {d : Nat} {sh : Int → Option Nat} {V : am_V} {T : Nat} {Q : Option AV → am_V → am_T → Nat → Prop} {s i n : Int} (hs : 0 ≤ s ∧ s < 8) (h1 : 1 ≤ n ∧ n ≤ 10) (h2 : 0 ≤ i ∧ i + n ≤ 40) (hr : ∀ j, 0 ≤ j → j < 40 → am_in64 (V 4 (64 * s + j))) (hQ : ∀ V', (∀ a, a ≠ 30 → V' a = V a) → (∀ k, 0 ≤ k → k < n → m_lik (fun x => V 4 (64 * s + (i + x))) k (V' 30 k)) → Q none V' (am_RF sh) T) : am_Calls G (d + 1) 39 [vR 3, vW 4 s, vI i, vI n] V (am_RF sh) T Q := by
  refine am_enter mt_F_labelLikeItems ok_F_labelLikeItems rfl ?_
  have loop : ∀ (j : Nat) (k : Int) (x5 : Option AV) (W : am_V), 0 ≤ k → k ≤ n → n - k < j → (∀ a, a ≠ 30 → W a = V a) → (∀ y, 0 ≤ y → y < k → m_lik (fun x => V 4 (64 * s + (i + x))) y (W 30 y)) → am_Sem G d 39 V T Q 3 [some (vR 3), some (vW 4 s), some (vI i), some (vI n), some (vI k), x5] [] W (am_RF sh) T 0 0 := by
    intro j
    induction j with
    | zero => intro k x5 W a b c; omega
    | succ j ih =>
      intro k x5 W a b c w1 w2
      by_cases hkn : k = n
      · subst hkn
        refine am_run 400 mt_F_labelLikeItems ok_F_labelLikeItems (fun K S hK hS => ?_)
        iterate 30 (all_goals (first
          | (refine And.intro (by omega) ?_)
          | (refine And.intro (fun hb => absurd hb (by omega)) (fun hb => ?_))
          | (refine And.intro (fun hb => ?_) (fun hb => absurd hb (by omega)))
          | (refine And.intro (fun hb => ?_) (fun hb => ?_))
          | (intro hb)
          | (conv => whnf)))
        exact hQ W w1 w2
      have e4 : ∀ i, W 4 i = V 4 i := fun i => by rw [w1 4 (by decide)]
      have rk := hr (i + k) (by omega) (by omega)
      rw [← e4] at rk
      have inner : ∀ (j2 : Nat) (y : Int), 0 ≤ y → y ≤ k → k - y < j2 → (∀ z, 0 ≤ z → z < y → V 4 (64 * s + (i + z)) ≠ V 4 (64 * s + (i + k))) → am_Sem G d 39 V T Q 12 [some (vR 3), some (vW 4 s), some (vI i), some (vI n), some (vI k), some (vI y)] [] W (am_RF sh) T 0 0 := by
        intro j2
        induction j2 with
        | zero => intro y q1 q2 q3; omega
        | succ j2 ih2 =>
          intro y q1 q2 q3 hno
          have ry : am_in64 (W 4 (64 * s + (i + y))) := by rw [e4]; exact hr (i + y) (by omega) (by omega)
          have fin : V 4 (64 * s + (i + y)) = V 4 (64 * s + (i + k)) → am_Sem G d 39 V T Q 3 [some (vR 3), some (vW 4 s), some (vI i), some (vI n), some (vI (k + 1)), some (vI y)] [] (am_up W 30 k y) (am_RF sh) T 0 0 := fun e => by
            refine ih (k + 1) _ _ (by omega) (by omega) (by omega) (fun a ha => by rw [am_up_ne ha, w1 a ha]) (fun z z1 z2 => ?_)
            rw [am_up_at]
            by_cases e2 : z = k
            · rw [if_pos e2, e2]
              exact ⟨q1, q2, e, hno⟩
            · rw [if_neg e2]
              exact w2 z z1 (by omega)
          refine am_run 400 mt_F_labelLikeItems ok_F_labelLikeItems (fun K S hK hS => ?_)
          iterate 30 (all_goals (first
            | (refine And.intro (by omega) ?_)
            | (refine And.intro (⟨ry, rk⟩) ?_)
            | (refine And.intro (fun hb => absurd hb (by omega)) (fun hb => ?_))
            | (refine And.intro (fun hb => ?_) (fun hb => absurd hb (by omega)))
            | (refine And.intro (fun hb => ?_) (fun hb => ?_))
            | (intro hb)
            | (conv => whnf)))
          · have hy : y = k := by omega
            exact hS (fin (by rw [hy]))
          · have q : W 4 (64 * s + (i + y)) = W 4 (64 * s + (i + k)) := by assumption
            rw [e4, e4] at q
            exact hS (fin q)
          · have q := hb
            rw [e4, e4] at q
            refine hS (ih2 (y + 1) (by omega) (by omega) (by omega) (fun z z1 z2 => ?_))
            by_cases e2 : z = y
            · rw [e2]; exact q
            · exact hno z z1 (by omega)
      refine am_run 400 mt_F_labelLikeItems ok_F_labelLikeItems (fun K S hK hS => ?_)
      iterate 30 (all_goals (first
        | (refine And.intro (by omega) ?_)
        | (refine And.intro (fun hb => absurd hb (by omega)) (fun hb => ?_))
        | (refine And.intro (fun hb => ?_) (fun hb => absurd hb (by omega)))
        | (refine And.intro (fun hb => ?_) (fun hb => ?_))
        | (intro hb)
        | (conv => whnf)))
      exact hS (inner (k + 1).toNat 0 (by omega) (by omega) (by omega) (fun z a b => absurd b (by omega)))
  refine am_run 400 mt_F_labelLikeItems ok_F_labelLikeItems (fun K S hK hS => ?_)
  iterate 30 (all_goals (first
    | (refine And.intro (by omega) ?_)
    | (refine And.intro (fun hb => absurd hb (by omega)) (fun hb => ?_))
    | (refine And.intro (fun hb => ?_) (fun hb => absurd hb (by omega)))
    | (refine And.intro (fun hb => ?_) (fun hb => ?_))
    | (intro hb)
    | (conv => whnf)))
  exact hS (loop (n + 1).toNat 0 _ V (by omega) (by omega) (by omega) (fun _ _ => rfl) (fun y a b => absurd b (by omega)))
def th_set (sh : Int → Option Nat) (k : Int) (x : Option Nat) : Int → Option Nat := fun j => if j = k then x else sh j
theorem th_RFset {sh : Int → Option Nat} {k : Int} {x : Option Nat} : am_upR (am_RF sh) 15 k x = am_RF (th_set sh k x) := by
  funext b j
  by_cases e : b = 15
  · subst e
    rw [am_upR_at]
    rfl
  · rw [am_upR_ne e]
    unfold am_RF
    have : Nat.beq b 15 = false := by
      cases h : Nat.beq b 15 with
      | false => rfl
      | true => exact absurd (Nat.eq_of_beq_eq_true h) e
    rw [this]
theorem s_F_shelve {G : am_G} {d : Nat} {sh : Int → Option Nat} {V : am_V} {T : Nat} {Q : Option AV → am_V → am_T → Nat → Prop} {k : Int} {a : Nat} (hk : 0 ≤ k ∧ k < 10) (ha : th_pl a) (hQ : Q (some (vI (V a 4))) (am_up V 3 17 0) (am_RF (th_set sh k (some a))) T) : am_Calls G (d + 2) 40 [vR 3, vI k, vR a] V (am_RF sh) T Q := by
  have a_0 : 107 ≤ a := ha.1
  have a_l := th_lay ha
  have a_b := th_ble ha
  have a_q := th_beq ha
  have a_m := th_lay1 ha
  have a_c := th_ble1 ha
  have a_r := th_beq1 ha
  have a_R : am_RF sh a 2 = some (a + 1) := th_RF ha
  have a_z : Nat.beq (a + 1) 0 = false := rfl
  have a_3 : Nat.ble 3 (a + 1) = true := th_ble3 ha
  have a_i : ∀ r, am_isr 3 (vR a :: r) = true := th_isr ha
  refine am_enter mt_F_shelve ok_F_shelve rfl ?_
  refine am_run 400 mt_F_shelve ok_F_shelve (fun K S hK hS => ?_)
  iterate 30 (all_goals (first
    | (refine And.intro (by omega) ?_)
    | (refine And.intro (by decide) ?_)
    | (refine And.intro (fun hb => absurd hb (by omega)) (fun hb => ?_))
    | (refine And.intro (fun hb => ?_) (fun hb => absurd hb (by omega)))
    | (refine And.intro (fun hb => ?_) (fun hb => ?_))
    | (intro hb)
    | (refine am_if_mk (a_i _) ?_)
    | (simp only [a_l, a_b, a_q, a_m, a_c, a_r, a_R, a_z, a_3])
    | (conv => whnf)))
  refine hK (s_F_fine ?_)
  iterate 30 (all_goals (first
    | (refine And.intro (by omega) ?_)
    | (refine And.intro (fun hb => absurd hb (by omega)) (fun hb => ?_))
    | (refine And.intro (fun hb => ?_) (fun hb => absurd hb (by omega)))
    | (refine And.intro (fun hb => ?_) (fun hb => ?_))
    | (intro hb)
    | (conv => whnf)))
  rw [th_RFset]
  exact hQ
theorem s_F_meetOf {G : am_G} {d : Nat} {sh : Int → Option Nat} {V : am_V} {T : Nat} {Q : Option AV → am_V → am_T → Nat → Prop} {a b : Nat} {n : Int} (ha : th_pl a) (hb : th_pl b) (h1 : 1 ≤ n ∧ n ≤ 10) (hT : th_pl T) (haT : a + 2 ≤ T) (hbT : b + 2 ≤ T) (ea : V a 0 = n) (ra : ∀ i, 0 ≤ i → i < n → 0 ≤ V (a + 1) i ∧ V (a + 1) i < 10) (rb : ∀ i, 0 ≤ i → i < n → 0 ≤ V (b + 1) i ∧ V (b + 1) i < 10) (hQ : ∀ V', (∀ x, x ≠ 30 → x ≠ T → x ≠ T + 1 → V' x = V x) → th_ok V' T n → (∀ i j, 0 ≤ i → i < n → 0 ≤ j → j < n → (V' (T + 1) i = V' (T + 1) j ↔ (V (a + 1) i = V (a + 1) j ∧ V (b + 1) i = V (b + 1) j))) → Q (some (vR T)) V' (am_RF sh) (T + 2)) : am_Calls G (d + 5) 41 [vR 3, vR a, vR b] V (am_RF sh) T Q := by
  have a_0 : 107 ≤ a := ha.1
  have a_l := th_lay ha
  have a_b := th_ble ha
  have a_q := th_beq ha
  have a_m := th_lay1 ha
  have a_c := th_ble1 ha
  have a_r := th_beq1 ha
  have a_R : am_RF sh a 2 = some (a + 1) := th_RF ha
  have a_z : Nat.beq (a + 1) 0 = false := rfl
  have a_3 : Nat.ble 3 (a + 1) = true := th_ble3 ha
  have a_i : ∀ r, am_isr 3 (vR a :: r) = true := th_isr ha
  have b_0 : 107 ≤ b := hb.1
  have b_l := th_lay hb
  have b_b := th_ble hb
  have b_q := th_beq hb
  have b_m := th_lay1 hb
  have b_c := th_ble1 hb
  have b_r := th_beq1 hb
  have b_R : am_RF sh b 2 = some (b + 1) := th_RF hb
  have b_z : Nat.beq (b + 1) 0 = false := rfl
  have b_3 : Nat.ble 3 (b + 1) = true := th_ble3 hb
  have b_i : ∀ r, am_isr 3 (vR b :: r) = true := th_isr hb
  have T_0 : 107 ≤ T := hT.1
  have T_l := th_lay hT
  have T_b := th_ble hT
  have T_q := th_beq hT
  have T_m := th_lay1 hT
  have T_c := th_ble1 hT
  have T_r := th_beq1 hT
  have T_R : am_RF sh T 2 = some (T + 1) := th_RF hT
  have T_z : Nat.beq (T + 1) 0 = false := rfl
  have T_3 : Nat.ble 3 (T + 1) = true := th_ble3 hT
  have T_i : ∀ r, am_isr 3 (vR T :: r) = true := th_isr hT
  refine am_enter mt_F_meetOf ok_F_meetOf rfl ?_
  have loop : ∀ (j : Nat) (k : Int) (W : am_V), 0 ≤ k → k ≤ n → n - k < j → (∀ x, x ≠ 30 → W x = V x) → (∀ i, 0 ≤ i → i < k → W 30 i = V (a + 1) i * 10 + V (b + 1) i) → am_Sem G (d + 4) 41 V T Q 2 [some (vR 3), some (vR a), some (vR b), some (vI k)] [] W (am_RF sh) T 0 0 := by
    intro j
    induction j with
    | zero => intro k W q1 q2 q3; omega
    | succ j ih =>
      intro k W q1 q2 q3 w1 w2
      have e0 : W a 0 = n := by rw [w1 a (by omega), ea]
      by_cases hkn : k = n
      · have ez : am_zero W T a 0 = n := by rw [am_zero_ne (by omega), e0]
        have hz : am_zeroR (am_RF sh) T 3 6 = some 30 := by rw [am_zeroR_ne (by omega)]; rfl
        refine am_run 400 mt_F_meetOf ok_F_meetOf (fun K S hK hS => ?_)
        iterate 30 (all_goals (first
          | (refine And.intro (by omega) ?_)
          | (refine And.intro (by decide) ?_)
          | (refine And.intro (fun hb => absurd hb (by omega)) (fun hb => ?_))
          | (refine And.intro (fun hb => ?_) (fun hb => absurd hb (by omega)))
          | (refine And.intro (fun hb => ?_) (fun hb => ?_))
          | (intro hb)
          | (refine am_if_mk (a_i _) ?_)
          | (refine am_if_mk (b_i _) ?_)
          | (refine am_if_mk (T_i _) ?_)
          | (simp only [a_l, a_b, a_q, a_m, a_c, a_r, a_R, a_z, a_3, b_l, b_b, b_q, b_m, b_c, b_r, b_R, b_z, b_3, T_l, T_b, T_q, T_m, T_c, T_r, T_R, T_z, T_3, e0, ez, hz])
          | (conv => whnf)))
        rw [hkn] at w2
        refine hK (s_T_init hT h1 (fun i i1 i2 => ?_) (fun W' v1 v2 v3 => ?_))
        · rw [am_zero_ne (by omega), w2 i i1 i2]
          have := ra i i1 i2
          have := rb i i1 i2
          constructor <;> omega
        · iterate 30 (all_goals (first
            | (refine And.intro (by omega) ?_)
            | (refine And.intro (by decide) ?_)
            | (refine And.intro (fun hb => absurd hb (by omega)) (fun hb => ?_))
            | (refine And.intro (fun hb => ?_) (fun hb => absurd hb (by omega)))
            | (refine And.intro (fun hb => ?_) (fun hb => ?_))
            | (intro hb)
            | (refine am_if_mk (T_i _) ?_)
            | (simp only [T_l, T_b, T_q, T_m, T_c, T_r, T_R, T_z, T_3])
            | (conv => whnf)))
          refine hQ W' (fun x x1 x2 x3 => by rw [v1 x x2 x3, am_zero_ne x2, w1 x x1]) v2 (fun i j i1 i2 j1 j2 => ?_)
          have := v3 i j i1 i2 j1 j2
          rw [am_zero_ne (by omega), w2 i i1 i2, w2 j j1 j2] at this
          rw [this]
          have := ra i i1 i2
          have := rb i i1 i2
          have := ra j j1 j2
          have := rb j j1 j2
          omega
      · refine am_run 400 mt_F_meetOf ok_F_meetOf (fun K S hK hS => ?_)
        iterate 30 (all_goals (first
          | (refine And.intro (by omega) ?_)
          | (refine And.intro (by decide) ?_)
          | (refine And.intro (fun hb => absurd hb (by omega)) (fun hb => ?_))
          | (refine And.intro (fun hb => ?_) (fun hb => absurd hb (by omega)))
          | (refine And.intro (fun hb => ?_) (fun hb => ?_))
          | (intro hb)
          | (refine am_if_mk (a_i _) ?_)
          | (refine am_if_mk (b_i _) ?_)
          | (refine am_if_mk (T_i _) ?_)
          | (simp only [a_l, a_b, a_q, a_m, a_c, a_r, a_R, a_z, a_3, b_l, b_b, b_q, b_m, b_c, b_r, b_R, b_z, b_3, T_l, T_b, T_q, T_m, T_c, T_r, T_R, T_z, T_3, e0])
          | (conv => whnf)))
        refine hS (ih (k + 1) _ (by omega) (by omega) (by omega) (fun x hx => by rw [am_up_ne hx, w1 x hx]) (fun i i1 i2 => ?_))
        rw [am_up_at]
        by_cases e : i = k
        · rw [if_pos e, w1 (a + 1) (by omega), w1 (b + 1) (by omega), e]
        · rw [if_neg e, w2 i i1 (by omega)]
  refine am_run 400 mt_F_meetOf ok_F_meetOf (fun K S hK hS => ?_)
  iterate 30 (all_goals (first
    | (refine And.intro (by omega) ?_)
    | (refine And.intro (fun hb => absurd hb (by omega)) (fun hb => ?_))
    | (refine And.intro (fun hb => ?_) (fun hb => absurd hb (by omega)))
    | (refine And.intro (fun hb => ?_) (fun hb => ?_))
    | (intro hb)
    | (conv => whnf)))
  exact hS (loop (n + 1).toNat 0 V (by omega) (by omega) (by omega) (fun _ _ => rfl) (fun i i1 i2 => absurd i2 (by omega)))
theorem s_F_turnedBy {G : am_G} {d : Nat} {sh : Int → Option Nat} {V : am_V} {T : Nat} {Q : Option AV → am_V → am_T → Nat → Prop} {a : Nat} {n s : Int} (ha : th_pl a) (h1 : 1 ≤ n ∧ n ≤ 10) (hT : th_pl T) (haT : a + 2 ≤ T) (hs : 0 ≤ s ∧ s ≤ n) (ea : V a 0 = n) (ra : ∀ i, 0 ≤ i → i < n → 0 ≤ V (a + 1) i ∧ V (a + 1) i < 10) (hQ : ∀ V', (∀ x, x ≠ 30 → x ≠ T → x ≠ T + 1 → V' x = V x) → th_ok V' T n → (∀ i j, 0 ≤ i → i < n → 0 ≤ j → j < n → (V' (T + 1) i = V' (T + 1) j ↔ (V (a + 1) (if i + s < n then i + s else i + s - n) = V (a + 1) (if j + s < n then j + s else j + s - n)))) → Q (some (vR T)) V' (am_RF sh) (T + 2)) : am_Calls G (d + 5) 43 [vR 3, vR a, vI s] V (am_RF sh) T Q := by
  have a_0 : 107 ≤ a := ha.1
  have a_l := th_lay ha
  have a_b := th_ble ha
  have a_q := th_beq ha
  have a_m := th_lay1 ha
  have a_c := th_ble1 ha
  have a_r := th_beq1 ha
  have a_R : am_RF sh a 2 = some (a + 1) := th_RF ha
  have a_z : Nat.beq (a + 1) 0 = false := rfl
  have a_3 : Nat.ble 3 (a + 1) = true := th_ble3 ha
  have a_i : ∀ r, am_isr 3 (vR a :: r) = true := th_isr ha
  have T_0 : 107 ≤ T := hT.1
  have T_l := th_lay hT
  have T_b := th_ble hT
  have T_q := th_beq hT
  have T_m := th_lay1 hT
  have T_c := th_ble1 hT
  have T_r := th_beq1 hT
  have T_R : am_RF sh T 2 = some (T + 1) := th_RF hT
  have T_z : Nat.beq (T + 1) 0 = false := rfl
  have T_3 : Nat.ble 3 (T + 1) = true := th_ble3 hT
  have T_i : ∀ r, am_isr 3 (vR T :: r) = true := th_isr hT
  refine am_enter mt_F_turnedBy ok_F_turnedBy rfl ?_
  have loop : ∀ (j : Nat) (k : Int) (x4 : Option AV) (W : am_V), 0 ≤ k → k ≤ n → n - k < j → (∀ x, x ≠ 30 → W x = V x) → (∀ i, 0 ≤ i → i < k → W 30 i = V (a + 1) (if i + s < n then i + s else i + s - n)) → am_Sem G (d + 4) 43 V T Q 2 [some (vR 3), some (vR a), some (vI s), some (vI k), x4] [] W (am_RF sh) T 0 0 := by
    intro j
    induction j with
    | zero => intro k x4 W q1 q2 q3; omega
    | succ j ih =>
      intro k x4 W q1 q2 q3 w1 w2
      have e0 : W a 0 = n := by rw [w1 a (by omega), ea]
      by_cases hkn : k = n
      · have ez : am_zero W T a 0 = n := by rw [am_zero_ne (by omega), e0]
        have hz : am_zeroR (am_RF sh) T 3 6 = some 30 := by rw [am_zeroR_ne (by omega)]; rfl
        refine am_run 400 mt_F_turnedBy ok_F_turnedBy (fun K S hK hS => ?_)
        iterate 30 (all_goals (first
          | (refine And.intro (by omega) ?_)
          | (refine And.intro (by decide) ?_)
          | (refine And.intro (fun hb => absurd hb (by omega)) (fun hb => ?_))
          | (refine And.intro (fun hb => ?_) (fun hb => absurd hb (by omega)))
          | (refine And.intro (fun hb => ?_) (fun hb => ?_))
          | (intro hb)
          | (refine am_if_mk (a_i _) ?_)
          | (refine am_if_mk (T_i _) ?_)
          | (simp only [a_l, a_b, a_q, a_m, a_c, a_r, a_R, a_z, a_3, T_l, T_b, T_q, T_m, T_c, T_r, T_R, T_z, T_3, e0, ez, hz])
          | (conv => whnf)))
        rw [hkn] at w2
        refine hK (s_T_init hT h1 (fun i i1 i2 => ?_) (fun W' v1 v2 v3 => ?_))
        · rw [am_zero_ne (by omega), w2 i i1 i2]
          have := ra (if i + s < n then i + s else i + s - n) (by split <;> omega) (by split <;> omega)
          constructor <;> omega
        · iterate 30 (all_goals (first
            | (refine And.intro (by omega) ?_)
            | (refine And.intro (by decide) ?_)
            | (refine And.intro (fun hb => absurd hb (by omega)) (fun hb => ?_))
            | (refine And.intro (fun hb => ?_) (fun hb => absurd hb (by omega)))
            | (refine And.intro (fun hb => ?_) (fun hb => ?_))
            | (intro hb)
            | (refine am_if_mk (T_i _) ?_)
            | (simp only [T_l, T_b, T_q, T_m, T_c, T_r, T_R, T_z, T_3])
            | (conv => whnf)))
          refine hQ W' (fun x x1 x2 x3 => by rw [v1 x x2 x3, am_zero_ne x2, w1 x x1]) v2 (fun i j i1 i2 j1 j2 => ?_)
          have := v3 i j i1 i2 j1 j2
          rw [am_zero_ne (by omega), w2 i i1 i2, w2 j j1 j2] at this
          exact this
      · refine am_run 400 mt_F_turnedBy ok_F_turnedBy (fun K S hK hS => ?_)
        iterate 30 (all_goals (first
          | (refine And.intro (by omega) ?_)
          | (refine And.intro (by decide) ?_)
          | (refine And.intro (fun hb => absurd hb (by omega)) (fun hb => ?_))
          | (refine And.intro (fun hb => ?_) (fun hb => absurd hb (by omega)))
          | (refine And.intro (fun hb => ?_) (fun hb => ?_))
          | (intro hb)
          | (refine am_if_mk (a_i _) ?_)
          | (refine am_if_mk (T_i _) ?_)
          | (simp only [a_l, a_b, a_q, a_m, a_c, a_r, a_R, a_z, a_3, T_l, T_b, T_q, T_m, T_c, T_r, T_R, T_z, T_3, e0])
          | (conv => whnf)))
        all_goals refine hS (ih (k + 1) _ _ (by omega) (by omega) (by omega) (fun x hx => by rw [am_up_ne hx, w1 x hx]) (fun i i1 i2 => ?_))
        all_goals rw [am_up_at]
        all_goals by_cases e : i = k
        · rw [if_pos e, w1 (a + 1) (by omega), e, if_neg (by omega)]
        · rw [if_neg e, w2 i i1 (by omega)]
        · rw [if_pos e, w1 (a + 1) (by omega), e, if_pos (by omega)]
        · rw [if_neg e, w2 i i1 (by omega)]
  refine am_run 400 mt_F_turnedBy ok_F_turnedBy (fun K S hK hS => ?_)
  iterate 30 (all_goals (first
    | (refine And.intro (by omega) ?_)
    | (refine And.intro (fun hb => absurd hb (by omega)) (fun hb => ?_))
    | (refine And.intro (fun hb => ?_) (fun hb => absurd hb (by omega)))
    | (refine And.intro (fun hb => ?_) (fun hb => ?_))
    | (intro hb)
    | (conv => whnf)))
  exact hS (loop (n + 1).toNat 0 _ V (by omega) (by omega) (by omega) (fun _ _ => rfl) (fun i i1 i2 => absurd i2 (by omega)))
