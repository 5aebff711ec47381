/-! nth, both sides -/
theorem k_ways_cat0 : ∀ l : Fin 11, k_ways l 0 = k_cat ((l : Nat) : Int) := by decide +kernel
theorem k_ways_cat {n : Int} (h0 : 0 ≤ n) (h1 : n ≤ 10) : k_ways n.toNat 0 = k_cat n := by
  have := k_ways_cat0 ⟨n.toNat, by omega⟩
  rw [show (((⟨n.toNat, by omega⟩ : Fin 11) : Nat) : Int) = n from Int.toNat_of_nonneg h0] at this
  exact this
theorem s_M_nth {G : am_G} {d : Nat} {sh : Int → Option Nat} {V : am_V} {T : Nat} {Q : Option AV → am_V → am_T → Nat → Prop} {q n i : Int} (h0 : am_in32 q) (h1 : am_in32 n) (h2 : am_in32 i)
    (hB : ¬ ((0 ≤ q ∧ q < 10) ∧ 1 ≤ n ∧ n ≤ 10) → Q (some (vI (-1000001))) (am_up V 86 0 0) (am_RF sh) T)
    (hN : ((0 ≤ q ∧ q < 10) ∧ 1 ≤ n ∧ n ≤ 10) → ¬ (0 ≤ i ∧ i < k_ways n.toNat 0) → ∀ V', (∀ a, a ≠ 93 → V' a = am_up (am_up V 86 0 0) 86 1 0 a) → Q (some (vI (-1000000))) V' (am_RF sh) T)
    (hQ : ((0 ≤ q ∧ q < 10) ∧ 1 ≤ n ∧ n ≤ 10) → (0 ≤ i ∧ i < k_ways n.toNat 0) → ∀ (V' : am_V) (r : Int) (g h : Int → Int), o_is h n i → m_rgs g n → (∀ x y, 0 ≤ x → x < n → 0 ≤ y → y < n → (g x = g y ↔ h x = h y)) → m_kd g n r → V' 90 q = r → (∀ j, j ≠ q → V' 90 j = V 90 j) → V' 91 q = n → (∀ j, j ≠ q → V' 91 j = V 91 j) → (∀ k, 0 ≤ k → k < n → V' 92 (10 * q + k) = g k) → (∀ j, ¬ (10 * q ≤ j ∧ j < 10 * q + n) → V' 92 j = V 92 j) → V' 86 1 = 0 → (∀ j, j ≠ 0 → j ≠ 1 → V' 86 j = V 86 j) → (∀ a, a ≠ 86 → a ≠ 90 → a ≠ 91 → a ≠ 92 → a ≠ 93 → a ≠ 94 → V' a = V a) → Q (some (vI r)) V' (am_RF sh) T) : am_Calls G (d + 6) 90 [vR 86, vI q, vI n, vI i] V (am_RF sh) T Q := by
  refine am_enter mt_M_nth ok_M_nth rfl ?_
  by_cases hc : (0 ≤ q ∧ q < 10) ∧ 1 ≤ n ∧ n ≤ 10
  rotate_left
  · have bad := hB hc
    clear hQ hN hB
    refine am_run 400 mt_M_nth ok_M_nth (fun K S hK hS => ?_)
    iterate 30 (all_goals (first
      | (refine And.intro (by omega) ?_)
      | (refine And.intro (fun hb => absurd hb (by omega)) (fun hb => ?_))
      | (refine And.intro (fun hb => ?_) (fun hb => absurd hb (by omega)))
      | (refine And.intro (fun hb => ?_) (fun hb => ?_))
      | (intro hb)
      | (conv => whnf)))
    refine hK (s_M_isPlace h0 (fun r hr => ?_))
    iterate 30 (all_goals (first
      | (refine And.intro (by omega) ?_)
      | (refine And.intro (fun hb => absurd hb (by omega)) (fun hb => ?_))
      | (refine And.intro (fun hb => ?_) (fun hb => absurd hb (by omega)))
      | (refine And.intro (fun hb => ?_) (fun hb => ?_))
      | (intro hb)
      | (conv => whnf)))
    · exact bad
    refine hK (s_M_in (by omega) (by omega) (by omega) (fun r2 hr2 => ?_))
    iterate 30 (all_goals (first
      | (refine And.intro (by omega) ?_)
      | (refine And.intro (fun hb => absurd hb (by omega)) (fun hb => ?_))
      | (refine And.intro (fun hb => ?_) (fun hb => absurd hb (by omega)))
      | (refine And.intro (fun hb => ?_) (fun hb => ?_))
      | (intro hb)
      | (conv => whnf)))
    exact bad
  have loop : ∀ (jj : Nat) (k : Int) (W : am_V), 0 ≤ k → k ≤ i → i - k < jj → (∀ a, a ≠ 93 → W a = am_up (am_up V 86 0 0) 86 1 0 a) → o_is (fun x => W 93 (0 + x)) n k → am_Sem G (d + 5) 90 V T Q 56 [some (vR 86), some (vI q), some (vI n), some (vI i), some (vI k)] [] W (am_RF sh) T 0 0 := by
    intro jj
    induction jj with
    | zero => intro k W a b c; omega
    | succ jj ih =>
      intro k W a b c w1 w2
      obtain ⟨f1, f2⟩ := o_is_fr (by omega) w2
      by_cases hki : k = i
      · subst hki
        have hlt := o_is_lt w2
        have q := hQ hc hlt
        have rn : ∀ j, 0 ≤ j → j < 0 + n → am_in32 (W 93 j) := fun j a b => by
          have z : 0 ≤ W 93 (0 + j) ∧ W 93 (0 + j) ≤ j := m_rgs_lt f1 a (by omega)
          rw [show 0 + j = j by omega] at z
          omega
        clear hQ hN hB hlt f1 f2 ih
        refine am_run 400 mt_M_nth ok_M_nth (fun K S hK hS => ?_)
        iterate 30 (all_goals (first
          | (refine And.intro (by omega) ?_)
          | (refine And.intro (fun hb => absurd hb (by omega)) (fun hb => ?_))
          | (refine And.intro (fun hb => ?_) (fun hb => absurd hb (by omega)))
          | (refine And.intro (fun hb => ?_) (fun hb => ?_))
          | (intro hb)
          | (conv => whnf)))
        refine hK (s_M_lay hc.1 (by omega) hc.2 (by omega) rn (fun V' r g g1 g2 g3 e1 e2 e3 e4 e5 e6 e7 e8 e9 => ?_))
        have wx : ∀ a, a ≠ 93 → a ≠ 86 → W a = V a := fun a z1 z2 => by rw [w1 a z1, am_up_ne z2, am_up_ne z2]
        have qq := q V' r g _ w2 g1 g2 g3 e1 (fun j z => by rw [e2 j z, wx 90 (by decide) (by decide)]) e3 (fun j z => by rw [e4 j z, wx 91 (by decide) (by decide)]) e5 (fun j z => by rw [e6 j z, wx 92 (by decide) (by decide)]) e7 (fun j z1 z2 => by rw [e8 j z2, w1 86 (by decide), am_up_at, if_neg z2, am_up_at, if_neg z1]) (fun a z1 z2 z3 z4 z5 z6 => by rw [e9 a z1 z2 z3 z4 z5 z6, wx a z5 z1])
        iterate 30 (all_goals (first
          | (refine And.intro (by omega) ?_)
          | (refine And.intro (fun hb => absurd hb (by omega)) (fun hb => ?_))
          | (refine And.intro (fun hb => ?_) (fun hb => absurd hb (by omega)))
          | (refine And.intro (fun hb => ?_) (fun hb => ?_))
          | (intro hb)
          | (conv => whnf)))
        exact qq
      · have nx := fun (X : am_V) (x1 : ∀ a, a ≠ 93 → X a = W a) (x3 : o_is (fun x => X 93 (0 + x)) n (k + 1)) => ih (k + 1) X (by omega) (by omega) (by omega) (fun a z => by rw [x1 a z, w1 a z]) x3
        have no := hN hc
        clear hQ hN hB ih
        refine am_run 400 mt_M_nth ok_M_nth (fun K S hK hS => ?_)
        iterate 30 (all_goals (first
          | (refine And.intro (by omega) ?_)
          | (refine And.intro (fun hb => absurd hb (by omega)) (fun hb => ?_))
          | (refine And.intro (fun hb => ?_) (fun hb => absurd hb (by omega)))
          | (refine And.intro (fun hb => ?_) (fun hb => ?_))
          | (intro hb)
          | (conv => whnf)))
        refine hK (s_M_nextFree (by omega) hc.2 (by omega) f1 (fun X x1 x2 x3 x4 x5 x6 => ?_) (fun X x1 x2 x3 => ?_))
        · have nx := nx X x1 (o_is_next (by omega) w2 x3 x4 x5 x6)
          iterate 30 (all_goals (first
            | (refine And.intro (by omega) ?_)
            | (refine And.intro (fun hb => absurd hb (by omega)) (fun hb => ?_))
            | (refine And.intro (fun hb => ?_) (fun hb => absurd hb (by omega)))
            | (refine And.intro (fun hb => ?_) (fun hb => ?_))
            | (intro hb)
            | (conv => whnf)))
          exact hS nx
        · have l := o_is_last (by omega) w2 x3
          have no := no (by omega) X (fun a z => by rw [x1 a z, w1 a z])
          iterate 30 (all_goals (first
            | (refine And.intro (by omega) ?_)
            | (refine And.intro (fun hb => absurd hb (by omega)) (fun hb => ?_))
            | (refine And.intro (fun hb => ?_) (fun hb => absurd hb (by omega)))
            | (refine And.intro (fun hb => ?_) (fun hb => ?_))
            | (intro hb)
            | (conv => whnf)))
          exact no
  have no := hN hc
  have kb := (k_ways_b (l := n.toNat) (o := 0) (by omega)).2
  clear hQ hN hB
  refine am_run 400 mt_M_nth ok_M_nth (fun K S hK hS => ?_)
  iterate 30 (all_goals (first
    | (refine And.intro (by omega) ?_)
    | (refine And.intro (fun hb => absurd hb (by omega)) (fun hb => ?_))
    | (refine And.intro (fun hb => ?_) (fun hb => absurd hb (by omega)))
    | (refine And.intro (fun hb => ?_) (fun hb => ?_))
    | (intro hb)
    | (conv => whnf)))
  refine hK (s_M_isPlace h0 (fun r hr => ?_))
  obtain rfl : r = 1 := by omega
  iterate 30 (all_goals (first
    | (refine And.intro (by omega) ?_)
    | (refine And.intro (fun hb => absurd hb (by omega)) (fun hb => ?_))
    | (refine And.intro (fun hb => ?_) (fun hb => absurd hb (by omega)))
    | (refine And.intro (fun hb => ?_) (fun hb => ?_))
    | (intro hb)
    | (conv => whnf)))
  refine hK (s_M_in (by omega) (by omega) (by omega) (fun r2 hr2 => ?_))
  obtain rfl : r2 = 1 := by omega
  iterate 30 (all_goals (first
    | (refine And.intro (by omega) ?_)
    | (refine And.intro (fun hb => absurd hb (by omega)) (fun hb => ?_))
    | (refine And.intro (fun hb => ?_) (fun hb => absurd hb (by omega)))
    | (refine And.intro (fun hb => ?_) (fun hb => ?_))
    | (intro hb)
    | (conv => whnf)))
  refine hK (s_M_in (by omega) (by omega) (by omega) (fun r3 hr3 => ?_))
  by_cases hi : 0 ≤ i ∧ i ≤ 16795
  · obtain rfl : r3 = 1 := by omega
    iterate 30 (all_goals (first
      | (refine And.intro (by omega) ?_)
      | (refine And.intro (fun hb => absurd hb (by omega)) (fun hb => ?_))
      | (refine And.intro (fun hb => ?_) (fun hb => absurd hb (by omega)))
      | (refine And.intro (fun hb => ?_) (fun hb => ?_))
      | (intro hb)
      | (conv => whnf)))
    refine hK (s_M_first (by omega) (by omega) (by omega) (fun W w1 w2 w3 => ?_))
    have nx := loop (i + 1).toNat 0 W (by omega) (by omega) (by omega) w1 (o_is_zero hc.2.1 (fun k a b => w3 k a b))
    clear no
    iterate 30 (all_goals (first
      | (refine And.intro (by omega) ?_)
      | (refine And.intro (fun hb => absurd hb (by omega)) (fun hb => ?_))
      | (refine And.intro (fun hb => ?_) (fun hb => absurd hb (by omega)))
      | (refine And.intro (fun hb => ?_) (fun hb => ?_))
      | (intro hb)
      | (conv => whnf)))
    exact hS nx
  · obtain rfl : r3 = 0 := by omega
    have no := no (by omega) _ (fun _ _ => rfl)
    iterate 30 (all_goals (first
      | (refine And.intro (by omega) ?_)
      | (refine And.intro (fun hb => absurd hb (by omega)) (fun hb => ?_))
      | (refine And.intro (fun hb => ?_) (fun hb => absurd hb (by omega)))
      | (refine And.intro (fun hb => ?_) (fun hb => ?_))
      | (intro hb)
      | (conv => whnf)))
    exact no
theorem II_none {p : Int} {f0 : Int → Int} {sh : Int → Option Nat} {V V' : am_V} {T : Nat} (h : II V sh T p f0) (e : ∀ a, a ≠ 93 → V' a = am_up (am_up (am_up V 3 17 0) 86 0 0) 86 1 0 a) : II V' sh T p f0 :=
  II_rd (V' := V') (II_find2 (c := 0) h (by omega)) (fun a q => e a (by omega)) (fun j q => by rw [e 3 (by decide)]) (fun j q1 q3 => by rw [e 86 (by decide)]) (e 65 (by decide)) (e 76 (by decide)) (by rw [e 86 (by decide), e 3 (by decide)]; simp +decide [am_up_ne, am_up_at, reduceIte])
theorem pr_nth {G : am_G} {d : Nat} {sh : Int → Option Nat} {V : am_V} {T : Nat} {p : Int} {f0 : Int → Int} {q n i : Int} (hI : II V sh T p f0) (h0 : am_in32 q) (h1 : am_in32 n) (h2 : am_in32 i) : am_Calls G (d + 9) 6 [vR 3, vI q, vI n, vI i] V (am_RF sh) T (pr_int G (d + 9) 90 [vR 86, vI q, vI n, vI i] p f0) := by
  have hJ := hI.1
  have hT := hJ.2.2.2.1.1
  have hkk : iv_k V := hJ.2.2.2.2.2.2.2.1
  by_cases hc : (0 ≤ q ∧ q < 10) ∧ 1 ≤ n ∧ n ≤ 10
  rotate_left
  · have bad : pr_int G (d + 9) 90 [vR 86, vI q, vI n, vI i] p f0 (some (vI (-1000001))) V (am_RF sh) T := pr_i (by omega) hJ.1 (s_M_nth h0 h1 h2 (fun _ => pr_k (II_bad hI)) (fun z => absurd z hc) (fun z => absurd z hc))
    refine am_enter mt_F_nth ok_F_nth rfl ?_
    refine am_run 400 mt_F_nth ok_F_nth (fun K S hK hS => ?_)
    iterate 30 (all_goals (first
      | (refine And.intro (by omega) ?_)
      | (refine And.intro (fun hb => absurd hb (by omega)) (fun hb => ?_))
      | (refine And.intro (fun hb => ?_) (fun hb => absurd hb (by omega)))
      | (refine And.intro (fun hb => ?_) (fun hb => ?_))
      | (intro hb)
      | (conv => whnf)))
    refine hK (s_F_noPlace h0 (fun r hr => ?_))
    iterate 30 (all_goals (first
      | (refine And.intro (by omega) ?_)
      | (refine And.intro (fun hb => absurd hb (by omega)) (fun hb => ?_))
      | (refine And.intro (fun hb => ?_) (fun hb => absurd hb (by omega)))
      | (refine And.intro (fun hb => ?_) (fun hb => ?_))
      | (intro hb)
      | (conv => whnf)))
    all_goals exact bad
  have kc := k_ways_cat (n := n) (by omega) hc.2.2
  have kb := k_ways_b (l := n.toNat) (o := 0) (by omega)
  have e1 : V 1 n = k_ways n.toNat 0 := by rw [kc]; exact (hkk.1 n (by omega) hc.2.2).1
  by_cases hi : 0 ≤ i ∧ i < k_ways n.toNat 0
  rotate_left
  · have non : pr_int G (d + 9) 90 [vR 86, vI q, vI n, vI i] p f0 (some (vI (-1000000))) (am_up V 3 17 0) (am_RF sh) T := pr_i (by omega) (by simp +decide [am_up_ne, am_up_at, reduceIte]; exact hJ.1) (s_M_nth h0 h1 h2 (fun z => absurd hc z) (fun _ _ V' e => pr_k (II_none hI e)) (fun _ z => absurd z hi))
    obtain ⟨kw, hkw⟩ : ∃ kw, kw = k_ways n.toNat 0 := ⟨_, rfl⟩
    rw [← hkw] at hi e1 kb
    clear hkw kc
    refine am_enter mt_F_nth ok_F_nth rfl ?_
    refine am_run 400 mt_F_nth ok_F_nth (fun K S hK hS => ?_)
    iterate 30 (all_goals (first
      | (refine And.intro (by omega) ?_)
      | (refine And.intro (fun hb => absurd hb (by omega)) (fun hb => ?_))
      | (refine And.intro (fun hb => ?_) (fun hb => absurd hb (by omega)))
      | (refine And.intro (fun hb => ?_) (fun hb => ?_))
      | (intro hb)
      | (conv => whnf)))
    refine hK (s_F_noPlace h0 (fun r hr => ?_))
    obtain rfl : r = 0 := by omega
    iterate 30 (all_goals (first
      | (refine And.intro (by omega) ?_)
      | (refine And.intro (by decide) ?_)
      | (refine And.intro (fun hb => absurd hb (by omega)) (fun hb => ?_))
      | (refine And.intro (fun hb => ?_) (fun hb => absurd hb (by omega)))
      | (refine And.intro (fun hb => ?_) (fun hb => ?_))
      | (intro hb)
      | (simp only [e1])
      | (conv => whnf)))
    all_goals
      refine hK (s_F_fine ?_)
      iterate 30 (all_goals (first
        | (refine And.intro (by omega) ?_)
        | (refine And.intro (fun hb => absurd hb (by omega)) (fun hb => ?_))
        | (refine And.intro (fun hb => ?_) (fun hb => absurd hb (by omega)))
        | (refine And.intro (fun hb => ?_) (fun hb => ?_))
        | (intro hb)
        | (conv => whnf)))
      exact non
  obtain ⟨h, hh⟩ := o_is_all hi.1 hi.2
  obtain ⟨f1, f2⟩ := o_is_fr (by omega) hh
  obtain ⟨kw, hkw⟩ : ∃ kw, kw = k_ways n.toNat 0 := ⟨_, rfl⟩
  have hi2 : 0 ≤ i ∧ i < kw := by rw [hkw]; exact hi
  rw [← hkw] at e1 kb
  clear hkw kc
  have T_0 : 107 ≤ T := hT.1
  have T_l := th_lay hT
  have T_b := th_ble hT
  have T_q := th_beq hT
  have T_m := th_lay1 hT
  have T_c := th_ble1 hT
  have T_r := th_beq1 hT
  have T_R : am_RF sh T 2 = some (T + 1) := th_RF hT
  have T_z : Nat.beq (T + 1) 0 = false := rfl
  have T_3 : Nat.ble 3 (T + 1) = true := th_ble3 hT
  have T_i : ∀ r, am_isr 3 (vR T :: r) = true := th_isr hT
  refine am_enter mt_F_nth ok_F_nth rfl ?_
  refine am_run 400 mt_F_nth ok_F_nth (fun K S hK hS => ?_)
  iterate 30 (all_goals (first
    | (refine And.intro (by omega) ?_)
    | (refine And.intro (fun hb => absurd hb (by omega)) (fun hb => ?_))
    | (refine And.intro (fun hb => ?_) (fun hb => absurd hb (by omega)))
    | (refine And.intro (fun hb => ?_) (fun hb => ?_))
    | (intro hb)
    | (conv => whnf)))
  refine hK (s_F_noPlace h0 (fun r hr => ?_))
  obtain rfl : r = 0 := by omega
  iterate 30 (all_goals (first
    | (refine And.intro (by omega) ?_)
    | (refine And.intro (by decide) ?_)
    | (refine And.intro (fun hb => absurd hb (by omega)) (fun hb => ?_))
    | (refine And.intro (fun hb => ?_) (fun hb => absurd hb (by omega)))
    | (refine And.intro (fun hb => ?_) (fun hb => ?_))
    | (intro hb)
    | (simp only [e1])
    | (conv => whnf)))
  refine hK (s_O_tell hc.2 (by omega) (hkk.2.1) hh.2 (fun W w1 w2 => ?_))
  have w2 : ∀ j, 0 ≤ j → j < n → W 30 j = h j := fun j a b => by
    rw [w2 j a b, o_tl_get _ _ _ _ (by omega), show (0 : Int) + (j.toNat : Int) = j by omega]
  have hz : am_zeroR (am_RF sh) T 3 6 = some 30 := by rw [am_zeroR_ne (by omega)]; rfl
  iterate 30 (all_goals (first
    | (refine And.intro (by omega) ?_)
    | (refine And.intro (by decide) ?_)
    | (refine And.intro (fun hb => absurd hb (by omega)) (fun hb => ?_))
    | (refine And.intro (fun hb => ?_) (fun hb => absurd hb (by omega)))
    | (refine And.intro (fun hb => ?_) (fun hb => ?_))
    | (intro hb)
    | (refine am_if_mk (T_i _) ?_)
    | (simp only [T_l, T_b, T_q, T_m, T_c, T_r, T_R, T_z, T_3, hz])
    | (conv => whnf)))
  refine hK (s_T_init hT hc.2 (fun j a b => ?_) (fun U u1 u2 u3 => ?_))
  · rw [am_zero_ne (by omega), w2 j a b]
    have := m_rgs_lt f1 a b
    constructor <;> omega
  iterate 30 (all_goals (first
    | (refine And.intro (by omega) ?_)
    | (refine And.intro (by decide) ?_)
    | (refine And.intro (fun hb => absurd hb (by omega)) (fun hb => ?_))
    | (refine And.intro (fun hb => ?_) (fun hb => absurd hb (by omega)))
    | (refine And.intro (fun hb => ?_) (fun hb => ?_))
    | (intro hb)
    | (refine am_if_mk (T_i _) ?_)
    | (simp only [T_l, T_b, T_q, T_m, T_c, T_r, T_R, T_z, T_3])
    | (conv => whnf)))
  refine hK (s_F_shelve hc.1 hT ?_)
  iterate 30 (all_goals (first
    | (refine And.intro (by omega) ?_)
    | (refine And.intro (fun hb => absurd hb (by omega)) (fun hb => ?_))
    | (refine And.intro (fun hb => ?_) (fun hb => absurd hb (by omega)))
    | (refine And.intro (fun hb => ?_) (fun hb => ?_))
    | (intro hb)
    | (conv => whnf)))
  have uV : ∀ x, ns x → x < T → am_up U 3 17 0 x = V x := fun x a b => by rw [am_up_ne a.1, u1 x (by omega) (by omega), am_zero_ne (by omega), w1 x (by omega) (by omega)]
  have u3' : ∀ j, U 3 j = V 3 j := fun j => by rw [u1 3 (by omega) (by omega), am_zero_ne (by omega), w1 3 (by decide) (by decide)]
  have hkd := m_kd_rng u2.2.2.2.2.2
  have ux : ∀ x, x < 107 → x ≠ 3 → x ≠ 29 → x ≠ 30 → am_up U 3 17 0 x = V x := fun x a b c e => by rw [am_up_ne b, u1 x (by omega) (by omega), am_zero_ne (by omega), w1 x c e]
  refine pr_i (by omega) (by rw [ux 0 (by decide) (by decide) (by decide) (by decide)]; exact hJ.1) (s_M_nth h0 h1 h2 (fun z => absurd hc z) (fun _ z => absurd hi z) (fun _ _ V' r g h' hh' g1 g2 g3 e1 e2 e3 e4 e5 e6 e7 e8 e9 => ?_))
  have tU : am_up U 3 17 0 T = U T := am_up_ne (by omega)
  have tU1 : am_up U 3 17 0 (T + 1) = U (T + 1) := am_up_ne (by omega)
  obtain ⟨er, hfin⟩ := II_lay (V1 := am_up U 3 17 0) (V2 := V') hI hc.1 hT (Nat.le_refl _) uV (fun j z => by rw [am_up_at, if_neg z, u3' j]) am_up_same ⟨ux 65 (by decide) (by decide) (by decide) (by decide), ux 76 (by decide) (by decide) (by decide) (by decide)⟩ (fun j _ _ => by rw [ux 86 (by decide) (by decide) (by decide) (by decide)]) (th_ok_eq u2 tU tU1) g1 (fun x y z0 z1 z2 z3 => by
    have e := u3 x y z0 z1 z2 z3
    rw [am_zero_ne (by omega), w2 x z0 z1, w2 y z2 z3] at e
    have eq := o_is_eq (by omega) hh hh'
    rw [tU1, g2 x y z0 z1 z2 z3, e, eq x z0 z1, eq y z2 z3]) g3 e1 e2 e3 e4 e5 e6 e7 e8 e9
  rw [tU] at er
  rw [er]
  first | exact pr_k (hfin) | exact pr_k2 (hfin)
