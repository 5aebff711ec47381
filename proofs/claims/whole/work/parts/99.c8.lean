/-! told 0 and 3 -/
theorem o_sum_take {φ : List Int → Int} {L : List (List Int)} {i : Nat} {r : List Int} (h : L[i]? = some r) : o_sum φ (L.take (i + 1)) = o_sum φ (L.take i) + φ r := by
  rw [List.take_succ, h, o_sum_app]
  show _ + (φ r + 0) = _
  omega
theorem o_is_uniq {g : Int → Int} {n i j : Int} (hn : 0 ≤ n) (hi : o_is g n i) (hj : o_is g n j) : i = j := by
  rcases Int.lt_trichotomy i j with q | q | q
  · exact absurd (o_is_ord hn hi hj q) o_lt_irr
  · exact q
  · exact absurd (o_is_ord hn hj hi q) o_lt_irr
noncomputable def o_ov (g : Int → Int) (n i : Int) : Int := o_sum (fun r => o_ind (m_fin g (o_fn r) n)) ((o_L n).take i.toNat)
theorem o_ov_S {g h : Int → Int} {n i r : Int} (hh : o_is h n i) (hr : (r = 1 ∧ m_fin g h n) ∨ (r = 0 ∧ m_nfin g h n)) : o_ov g n (i + 1) = o_ov g n i + r := by
  have h0 := hh.1
  unfold o_ov
  rw [show (i + 1).toNat = i.toNat + 1 by omega, o_sum_take hh.2]
  congr 1
  have e : ∀ j, 0 ≤ j → j < n → o_fn (o_tl h 0 n.toNat) j = h j := fun j a b => o_tl_fn h a b
  show o_ind (m_fin g (o_fn (o_tl h 0 n.toNat)) n) = r
  rcases hr with ⟨r1, r2⟩ | ⟨r1, x, y, a1, a2, a3, a4, a5⟩
  · rw [r1]
    exact o_ind_t (o_fin_eq (fun _ _ _ => rfl) (fun i a b => (e i a b).symm) r2)
  · rw [r1]
    refine o_ind_f (fun q => a5 ?_)
    have := q x y a1 a2 a3 a4
    rw [e x a1 (by omega), e y (by omega) a3] at this
    exact this
theorem o_ov_all {g : Int → Int} {n i : Int} (h : i = k_ways n.toNat 0) : o_ov g n i = o_sum (fun r => o_ind (m_fin g (o_fn r) n)) (o_L n) := by
  have hl : ((o_cp n.toNat [] 0).length : Int) = k_ways n.toNat 0 := o_len n.toNat [] 0
  unfold o_ov
  rw [List.take_of_length_le]
  show (o_cp n.toNat [] 0).length ≤ i.toNat
  omega
theorem s_M_told03 {G : am_G} {d : Nat} {sh : Int → Option Nat} {V : am_V} {T : Nat} {Q : Option AV → am_V → am_T → Nat → Prop} {k w n i0 : Int} (h0 : am_in32 k) (h1 : am_in32 w) (hw : w ≠ 1 ∧ w ≠ 2)
    (hB : ¬ ((0 ≤ k ∧ k < 10) ∧ (w = 0 ∨ w = 3)) → Q (some (vI (-1000001))) (am_up V 86 0 0) (am_RF sh) T)
    (hk0 : ((0 ≤ k ∧ k < 10) ∧ (w = 0 ∨ w = 3)) → -1 ≤ V 90 k ∧ V 90 k ≤ 4)
    (hF : ((0 ≤ k ∧ k < 10) ∧ (w = 0 ∨ w = 3)) → V 90 k < 0 → Q (some (vI (-1000011))) (am_up (am_up V 86 0 0) 86 1 1) (am_RF sh) T)
    (hX : ((0 ≤ k ∧ k < 10) ∧ (w = 0 ∨ w = 3)) → 0 ≤ V 90 k → ¬ (V 90 k = 1 ∨ V 90 k = 2 ∨ V 90 k = 3) → Q (some (vI (-1000013))) (am_up (am_up V 86 0 0) 86 1 3) (am_RF sh) T)
    (hn : ((0 ≤ k ∧ k < 10) ∧ (w = 0 ∨ w = 3)) → (V 90 k = 1 ∨ V 90 k = 2 ∨ V 90 k = 3) → V 91 k = n ∧ (1 ≤ n ∧ n ≤ 10) ∧ o_is (fun j => V 92 (10 * k + j)) n i0)
    (hQ : ((0 ≤ k ∧ k < 10) ∧ (w = 0 ∨ w = 3)) → (V 90 k = 1 ∨ V 90 k = 2 ∨ V 90 k = 3) → ∀ (V' : am_V), (∀ a, a ≠ 93 → V' a = am_up (am_up V 86 0 0) 86 1 0 a) → Q (some (vI (if w = 0 then i0 else o_sum (fun r => o_ind (m_fin (fun j => V 92 (10 * k + j)) (o_fn r) n)) (o_L n)))) V' (am_RF sh) T) : am_Calls G (d + 6) 112 [vR 86, vI k, vI w] V (am_RF sh) T Q := by
  refine am_enter mt_M_told ok_M_told rfl ?_
  have e90 : am_up V 86 0 0 90 k = V 90 k := by rw [am_up_ne (by decide)]
  refine am_run 400 mt_M_told ok_M_told (fun K S hK hS => ?_)
  iterate 30 (all_goals (first
    | (refine And.intro (by omega) ?_)
    | (refine And.intro (fun hb => absurd hb (by omega)) (fun hb => ?_))
    | (refine And.intro (fun hb => ?_) (fun hb => absurd hb (by omega)))
    | (refine And.intro (fun hb => ?_) (fun hb => ?_))
    | (intro hb)
    | (conv => whnf)))
  refine hK (s_M_isPlace h0 (fun r2 hr2 => ?_))
  by_cases hk : 0 ≤ k ∧ k < 10
  rotate_left
  · iterate 30 (all_goals (first
      | (refine And.intro (by omega) ?_)
      | (refine And.intro (fun hb => absurd hb (by omega)) (fun hb => ?_))
      | (refine And.intro (fun hb => ?_) (fun hb => absurd hb (by omega)))
      | (refine And.intro (fun hb => ?_) (fun hb => ?_))
      | (intro hb)
      | (conv => whnf)))
    exact hB (fun z => hk z.1)
  obtain rfl : r2 = 1 := by omega
  iterate 30 (all_goals (first
    | (refine And.intro (by omega) ?_)
    | (refine And.intro (fun hb => absurd hb (by omega)) (fun hb => ?_))
    | (refine And.intro (fun hb => ?_) (fun hb => absurd hb (by omega)))
    | (refine And.intro (fun hb => ?_) (fun hb => ?_))
    | (intro hb)
    | (conv => whnf)))
  refine hK (s_M_in (by omega) (by omega) (by omega) (fun r3 hr3 => ?_))
  by_cases hw2 : w = 0 ∨ w = 3
  rotate_left
  · iterate 30 (all_goals (first
      | (refine And.intro (by omega) ?_)
      | (refine And.intro (fun hb => absurd hb (by omega)) (fun hb => ?_))
      | (refine And.intro (fun hb => ?_) (fun hb => absurd hb (by omega)))
      | (refine And.intro (fun hb => ?_) (fun hb => ?_))
      | (intro hb)
      | (conv => whnf)))
    exact hB (fun z => hw2 z.2)
  obtain rfl : r3 = 1 := by omega
  have hk0 := hk0 ⟨hk, hw2⟩
  iterate 30 (all_goals (first
    | (refine And.intro (by omega) ?_)
    | (refine And.intro (fun hb => absurd hb (by omega)) (fun hb => ?_))
    | (refine And.intro (fun hb => ?_) (fun hb => absurd hb (by omega)))
    | (refine And.intro (fun hb => ?_) (fun hb => ?_))
    | (intro hb)
    | (conv => whnf)))
  refine hK (s_M_asked hk (by rw [e90]; omega) (by omega) (fun r4 hr4 => ?_))
  rw [e90] at hr4
  by_cases hk1 : V 90 k < 0
  · obtain rfl : r4 = 1 := by omega
    iterate 30 (all_goals (first
      | (refine And.intro (by omega) ?_)
      | (refine And.intro (fun hb => absurd hb (by omega)) (fun hb => ?_))
      | (refine And.intro (fun hb => ?_) (fun hb => absurd hb (by omega)))
      | (refine And.intro (fun hb => ?_) (fun hb => ?_))
      | (intro hb)
      | (conv => whnf)))
    exact hK (s_M_found (hF ⟨hk, hw2⟩ hk1))
  by_cases hk2 : V 90 k = 1 ∨ V 90 k = 2 ∨ V 90 k = 3
  rotate_left
  · obtain rfl : r4 = 3 := by omega
    iterate 30 (all_goals (first
      | (refine And.intro (by omega) ?_)
      | (refine And.intro (fun hb => absurd hb (by omega)) (fun hb => ?_))
      | (refine And.intro (fun hb => ?_) (fun hb => absurd hb (by omega)))
      | (refine And.intro (fun hb => ?_) (fun hb => ?_))
      | (intro hb)
      | (conv => whnf)))
    exact hK (s_M_found (hX ⟨hk, hw2⟩ (by omega) hk2))
  obtain rfl : r4 = 0 := by omega
  obtain ⟨n1, n2, n3⟩ := hn ⟨hk, hw2⟩ hk2
  have hQ := hQ ⟨hk, hw2⟩ hk2
  clear hB hF hX hn
  obtain ⟨g, hg⟩ : ∃ g : Int → Int, g = fun j => V 92 (10 * k + j) := ⟨_, rfl⟩
  rw [← hg] at n3 hQ
  have gE : ∀ j, V 92 (10 * k + j) = g j := fun j => by rw [hg]
  clear hg
  have g1 := (o_is_fr (by omega) n3).1
  have grn : ∀ j, 0 ≤ j → j < n → 0 ≤ g j ∧ g j ≤ 9 := fun j a b => by have := m_rgs_lt g1 a b; omega
  have i0b := o_is_lt n3
  have kb := (k_ways_b (l := n.toNat) (o := 0) (by omega)).2
  have loop : ∀ (jj : Nat) (i ov ah me : Int) (W : am_V), k_ways n.toNat 0 - i < jj → (∀ a, a ≠ 93 → W a = am_up (am_up V 86 0 0) 86 1 0 a) → (∀ j, 0 ≤ j → j < n → W 93 (0 + j) = g j) → o_is (fun x => W 93 (10 + x)) n i → ov = o_ov g n i → ((i ≤ i0 ∧ ah = i ∧ me = 0) ∨ (i0 < i ∧ ah = i0 ∧ me = 1)) → am_Sem G (d + 5) 112 V T Q 104 [some (vR 86), some (vI k), some (vI w), some (vI 0), some (vI n), some (vI ov), some (vI ah), some (vI me), some (vI 1)] [] W (am_RF sh) T 0 0 := by
    intro jj
    induction jj with
    | zero =>
      intro i ov ah me W a w1 w2 w3
      have := o_is_lt w3
      omega
    | succ jj ih =>
      intro i ov ah me W a w1 w2 w3 w4 w5
      have ib := o_is_lt w3
      obtain ⟨f1, f2⟩ := o_is_fr (by omega) w3
      have rrn : ∀ j, 0 ≤ j → j < n → 0 ≤ W 93 (10 + j) ∧ W 93 (10 + j) ≤ 9 := fun j a b => by
        have z : 0 ≤ W 93 (10 + j) ∧ W 93 (10 + j) ≤ j := m_rgs_lt f1 a b
        omega
      have hrn : ∀ j, 0 ≤ j → j < n → 0 ≤ W 93 (0 + j) ∧ W 93 (0 + j) ≤ 9 := fun j a b => by rw [w2 j a b]; exact grn j a b
      have rr1 : ∀ j, 0 ≤ j → j < n → am_in32 (W 93 (0 + j)) ∧ am_in32 (W 93 (10 + j)) := fun j a b => by
        have z1 := hrn j a b
        have z2 := rrn j a b
        omega
      have rr2 : ∀ j, 0 ≤ j → j < n → am_in32 (W 93 j) ∧ am_in32 (W 93 (10 + j)) := fun j a b => by
        have z1 := rr1 j a b
        rw [show 0 + j = j by omega] at z1
        exact z1
      have A1 : ∀ (ov' ah' me' : Int), ov' = o_ov g n (i + 1) → ((i + 1 ≤ i0 ∧ ah' = i + 1 ∧ me' = 0) ∨ (i0 < i + 1 ∧ ah' = i0 ∧ me' = 1)) → ∀ X : am_V, (∀ a, a ≠ 93 → X a = W a) → (∀ j, ¬ (10 ≤ j ∧ j < 10 + n) → X 93 j = W 93 j) → m_rgs (fun i => X 93 (10 + i)) n → ¬ m_Cr (fun i => X 93 (10 + i)) n → o_lt (fun i => W 93 (10 + i)) (fun i => X 93 (10 + i)) n → (∀ f, m_rgs f n → ¬ m_Cr f n → o_lt (fun i => W 93 (10 + i)) f n → ¬ o_lt f (fun i => X 93 (10 + i)) n) → am_Sem G (d + 5) 112 V T Q 104 [some (vR 86), some (vI k), some (vI w), some (vI 0), some (vI n), some (vI ov'), some (vI ah'), some (vI me'), some (vI 1)] [] X (am_RF sh) T 0 0 := by
        intro ov' ah' me' e1 e2 X x1 x2 x3 x4 x5 x6
        exact ih (i + 1) ov' ah' me' X (by omega) (fun a z => by rw [x1 a z, w1 a z]) (fun j z0 z1 => by rw [x2 _ (by omega), w2 j z0 z1]) (o_is_next (by omega) w3 x3 x4 x5 x6) e1 e2
      have A0 : ∀ (ov' ah' me' : Int), ov' = o_ov g n (i + 1) → ((i + 1 ≤ i0 ∧ ah' = i + 1 ∧ me' = 0) ∨ (i0 < i + 1 ∧ ah' = i0 ∧ me' = 1)) → ∀ X : am_V, (∀ a, a ≠ 93 → X a = W a) → (∀ f, m_rgs f n → ¬ m_Cr f n → ¬ o_lt (fun i => W 93 (10 + i)) f n) → am_Sem G (d + 5) 112 V T Q 104 [some (vR 86), some (vI k), some (vI w), some (vI 0), some (vI n), some (vI ov'), some (vI ah'), some (vI me'), some (vI 0)] [] X (am_RF sh) T 0 0 := by
        intro ov' ah' me' e1 e2 X x1 x3
        have l := o_is_last (by omega) w3 x3
        have q := hQ X (fun a z => by rw [x1 a z, w1 a z])
        rw [o_ov_all l] at e1
        rw [← e1] at q
        have ah0 : ah' = i0 := by omega
        clear hQ ih x3 w5 w3 rr1 rr2 hrn rrn grn gE n3 e1 w4 A1
        by_cases z : w = 0
        · rw [if_pos z, ← ah0] at q
          refine am_run 400 mt_M_told ok_M_told (fun K S hK hS => ?_)
          iterate 30 (all_goals (first
            | (refine And.intro (by omega) ?_)
            | (refine And.intro (fun hb => absurd hb (by omega)) (fun hb => ?_))
            | (refine And.intro (fun hb => ?_) (fun hb => absurd hb (by omega)))
            | (refine And.intro (fun hb => ?_) (fun hb => ?_))
            | (intro hb)
            | (conv => whnf)))
          exact q
        · rw [if_neg z] at q
          refine am_run 400 mt_M_told ok_M_told (fun K S hK hS => ?_)
          iterate 30 (all_goals (first
            | (refine And.intro (by omega) ?_)
            | (refine And.intro (fun hb => absurd hb (by omega)) (fun hb => ?_))
            | (refine And.intro (fun hb => ?_) (fun hb => absurd hb (by omega)))
            | (refine And.intro (fun hb => ?_) (fun hb => ?_))
            | (intro hb)
            | (conv => whnf)))
          exact q
      have fin : ∀ r, (r = 1 ∧ m_fin (fun i => W 93 (0 + i)) (fun i => W 93 (10 + i)) n) ∨ (r = 0 ∧ m_nfin (fun i => W 93 (0 + i)) (fun i => W 93 (10 + i)) n) → ov + r = o_ov g n (i + 1) := fun r hr => by
        rw [w4, o_ov_S (r := r) w3]
        refine hr.elim (fun z => Or.inl ⟨z.1, o_fin_eq w2 (fun _ _ _ => rfl) z.2⟩) (fun ⟨z, x, y, b1, b2, b3, b4, b5⟩ => Or.inr ⟨z, x, y, b1, b2, b3, ?_, b5⟩)
        rw [← w2 x b1 (by omega), ← w2 y (by omega) b3]
        exact b4
      have sam : ∀ r, m_smI W n r → (r = 1 ∧ i = i0) ∨ (r = 0 ∧ i ≠ i0) := fun r hr => by
        rcases hr with ⟨r1, r2⟩ | ⟨r1, x, b1, b2, b3⟩
        · refine Or.inl ⟨r1, o_is_uniq (by omega) (o_is_same w3 (h := g) (fun j z0 z1 => ?_)) n3⟩
          rw [← w2 j z0 z1, show 0 + j = j by omega]
          exact (r2 j z0 z1).symm
        · refine Or.inr ⟨r1, fun e => b3 ?_⟩
          subst e
          have := o_is_eq (by omega) w3 n3 x b1 b2
          have this : W 93 (10 + x) = g x := this
          rw [this, ← w2 x b1 b2, show 0 + x = x by omega]
      clear hQ ih f2 w4 grn gE hrn rrn
      refine am_run 400 mt_M_told ok_M_told (fun K S hK hS => ?_)
      iterate 30 (all_goals (first
        | (refine And.intro (by omega) ?_)
        | (refine And.intro (fun hb => absurd hb (by omega)) (fun hb => ?_))
        | (refine And.intro (fun hb => ?_) (fun hb => absurd hb (by omega)))
        | (refine And.intro (fun hb => ?_) (fun hb => ?_))
        | (intro hb)
        | (conv => whnf)))
      refine hK (s_M_isFiner ⟨by omega, by omega⟩ ⟨by omega, by omega⟩ (by omega) rr1 (fun r hr => ?_))
      have fr := fin r hr
      have r01 : r = 0 ∨ r = 1 := hr.elim (fun z => Or.inr z.1) (fun z => Or.inl z.1)
      clear fin hr
      have B1 := fun ah' me' => A1 (ov + r) ah' me' fr
      have B0 := fun ah' me' => A0 (ov + r) ah' me' fr
      clear A1 A0 fr w3 w2 rr1
      by_cases c : i0 < i
      · obtain ⟨rfl, rfl⟩ : ah = i0 ∧ me = 1 := by omega
        have B1 := B1 (ah + 0) 1 (Or.inr ⟨by omega, by omega, rfl⟩)
        have B0 := B0 (ah + 0) 1 (Or.inr ⟨by omega, by omega, rfl⟩)
        clear sam n3
        rcases r01 with rfl | rfl
        · iterate 40 (all_goals (first
            | (refine And.intro (by omega) ?_)
            | (refine And.intro (fun hb => absurd hb (by omega)) (fun hb => ?_))
            | (refine And.intro (fun hb => ?_) (fun hb => absurd hb (by omega)))
            | (refine And.intro (fun hb => ?_) (fun hb => ?_))
            | (intro hb)
            | (conv => whnf)))
          refine hK (s_M_nextFree (by omega) n2 (by omega) f1 (fun X x1 x2 x3 x4 x5 x6 => ?_) (fun X x1 x2 x3 => ?_))
          · have B1 := B1 X x1 x2 x3 x4 x5 x6
            iterate 30 (all_goals (first
              | (refine And.intro (by omega) ?_)
              | (refine And.intro (fun hb => absurd hb (by omega)) (fun hb => ?_))
              | (refine And.intro (fun hb => ?_) (fun hb => absurd hb (by omega)))
              | (refine And.intro (fun hb => ?_) (fun hb => ?_))
              | (intro hb)
              | (conv => whnf)))
            exact hS B1
          · have B0 := B0 X x1 x3
            iterate 30 (all_goals (first
              | (refine And.intro (by omega) ?_)
              | (refine And.intro (fun hb => absurd hb (by omega)) (fun hb => ?_))
              | (refine And.intro (fun hb => ?_) (fun hb => absurd hb (by omega)))
              | (refine And.intro (fun hb => ?_) (fun hb => ?_))
              | (intro hb)
              | (conv => whnf)))
            exact hS B0
        · iterate 40 (all_goals (first
            | (refine And.intro (by omega) ?_)
            | (refine And.intro (fun hb => absurd hb (by omega)) (fun hb => ?_))
            | (refine And.intro (fun hb => ?_) (fun hb => absurd hb (by omega)))
            | (refine And.intro (fun hb => ?_) (fun hb => ?_))
            | (intro hb)
            | (conv => whnf)))
          refine hK (s_M_nextFree (by omega) n2 (by omega) f1 (fun X x1 x2 x3 x4 x5 x6 => ?_) (fun X x1 x2 x3 => ?_))
          · have B1 := B1 X x1 x2 x3 x4 x5 x6
            iterate 30 (all_goals (first
              | (refine And.intro (by omega) ?_)
              | (refine And.intro (fun hb => absurd hb (by omega)) (fun hb => ?_))
              | (refine And.intro (fun hb => ?_) (fun hb => absurd hb (by omega)))
              | (refine And.intro (fun hb => ?_) (fun hb => ?_))
              | (intro hb)
              | (conv => whnf)))
            exact hS B1
          · have B0 := B0 X x1 x3
            iterate 30 (all_goals (first
              | (refine And.intro (by omega) ?_)
              | (refine And.intro (fun hb => absurd hb (by omega)) (fun hb => ?_))
              | (refine And.intro (fun hb => ?_) (fun hb => absurd hb (by omega)))
              | (refine And.intro (fun hb => ?_) (fun hb => ?_))
              | (intro hb)
              | (conv => whnf)))
            exact hS B0
      obtain ⟨rfl, rfl⟩ : ah = i ∧ me = 0 := by omega
      rcases r01 with rfl | rfl
      all_goals
        iterate 40 (all_goals (first
          | (refine And.intro (by omega) ?_)
          | (refine And.intro (fun hb => absurd hb (by omega)) (fun hb => ?_))
          | (refine And.intro (fun hb => ?_) (fun hb => absurd hb (by omega)))
          | (refine And.intro (fun hb => ?_) (fun hb => ?_))
          | (intro hb)
          | (conv => whnf)))
        refine hK (s_M_isSame (by omega) rr2 (fun r5 hr5 => ?_))
        have hr5 := sam r5 hr5
        by_cases c2 : ah = i0
        · obtain rfl : r5 = 1 := by omega
          have B1 := B1 (ah + 0) 1 (Or.inr ⟨by omega, by omega, rfl⟩)
          have B0 := B0 (ah + 0) 1 (Or.inr ⟨by omega, by omega, rfl⟩)
          iterate 40 (all_goals (first
            | (refine And.intro (by omega) ?_)
            | (refine And.intro (fun hb => absurd hb (by omega)) (fun hb => ?_))
            | (refine And.intro (fun hb => ?_) (fun hb => absurd hb (by omega)))
            | (refine And.intro (fun hb => ?_) (fun hb => ?_))
            | (intro hb)
            | (conv => whnf)))
          refine hK (s_M_nextFree (by omega) n2 (by omega) f1 (fun X x1 x2 x3 x4 x5 x6 => ?_) (fun X x1 x2 x3 => ?_))
          · have B1 := B1 X x1 x2 x3 x4 x5 x6
            iterate 30 (all_goals (first
              | (refine And.intro (by omega) ?_)
              | (refine And.intro (fun hb => absurd hb (by omega)) (fun hb => ?_))
              | (refine And.intro (fun hb => ?_) (fun hb => absurd hb (by omega)))
              | (refine And.intro (fun hb => ?_) (fun hb => ?_))
              | (intro hb)
              | (conv => whnf)))
            exact hS B1
          · have B0 := B0 X x1 x3
            iterate 30 (all_goals (first
              | (refine And.intro (by omega) ?_)
              | (refine And.intro (fun hb => absurd hb (by omega)) (fun hb => ?_))
              | (refine And.intro (fun hb => ?_) (fun hb => absurd hb (by omega)))
              | (refine And.intro (fun hb => ?_) (fun hb => ?_))
              | (intro hb)
              | (conv => whnf)))
            exact hS B0
        · obtain rfl : r5 = 0 := by omega
          have B1 := B1 (ah + 1) 0 (Or.inl ⟨by omega, rfl, rfl⟩)
          have B0 := B0 (ah + 1) 0 (Or.inl ⟨by omega, rfl, rfl⟩)
          iterate 40 (all_goals (first
            | (refine And.intro (by omega) ?_)
            | (refine And.intro (fun hb => absurd hb (by omega)) (fun hb => ?_))
            | (refine And.intro (fun hb => ?_) (fun hb => absurd hb (by omega)))
            | (refine And.intro (fun hb => ?_) (fun hb => ?_))
            | (intro hb)
            | (conv => whnf)))
          refine hK (s_M_nextFree (by omega) n2 (by omega) f1 (fun X x1 x2 x3 x4 x5 x6 => ?_) (fun X x1 x2 x3 => ?_))
          · have B1 := B1 X x1 x2 x3 x4 x5 x6
            iterate 30 (all_goals (first
              | (refine And.intro (by omega) ?_)
              | (refine And.intro (fun hb => absurd hb (by omega)) (fun hb => ?_))
              | (refine And.intro (fun hb => ?_) (fun hb => absurd hb (by omega)))
              | (refine And.intro (fun hb => ?_) (fun hb => ?_))
              | (intro hb)
              | (conv => whnf)))
            exact hS B1
          · have B0 := B0 X x1 x3
            iterate 30 (all_goals (first
              | (refine And.intro (by omega) ?_)
              | (refine And.intro (fun hb => absurd hb (by omega)) (fun hb => ?_))
              | (refine And.intro (fun hb => ?_) (fun hb => absurd hb (by omega)))
              | (refine And.intro (fun hb => ?_) (fun hb => ?_))
              | (intro hb)
              | (conv => whnf)))
            exact hS B0
  have e91 : am_up (am_up V 86 0 0) 86 1 0 91 k = n := by rw [am_up_ne (by decide), am_up_ne (by decide)]; exact n1
  clear hQ
  iterate 30 (all_goals (first
    | (refine And.intro (by omega) ?_)
    | (refine And.intro (by decide) ?_)
    | (refine And.intro (fun hb => absurd hb (by omega)) (fun hb => ?_))
    | (refine And.intro (fun hb => ?_) (fun hb => absurd hb (by omega)))
    | (refine And.intro (fun hb => ?_) (fun hb => ?_))
    | (intro hb)
    | (simp only [e91])
    | (conv => whnf)))
  refine hK (s_M_load (n := n) hk (by omega) e91 (by omega) (fun W w1 w2 w3 => ?_))
  have w2' : ∀ j, 0 ≤ j → j < n → W 93 (0 + j) = g j := fun j j0 j1 => by rw [w2 j j0 j1, am_up_ne (by decide), am_up_ne (by decide), gE]
  iterate 40 (all_goals (first
    | (refine And.intro (by omega) ?_)
    | (refine And.intro (fun hb => absurd hb (by omega)) (fun hb => ?_))
    | (refine And.intro (fun hb => ?_) (fun hb => absurd hb (by omega)))
    | (refine And.intro (fun hb => ?_) (fun hb => ?_))
    | (intro hb)
    | (conv => whnf)))
  refine hK (s_M_first (by omega) (by omega) (by omega) (fun X x1 x2 x3 => ?_))
  have nx := loop (k_ways n.toNat 0 + 1).toNat 0 0 0 0 X (by omega) (fun a z => by rw [x1 a z, w1 a z]) (fun j j0 j1 => by rw [x2 _ (by omega), w2' j j0 j1]) (o_is_zero n2.1 (fun j j0 j1 => x3 j j0 j1)) rfl (Or.inl ⟨by omega, rfl, rfl⟩)
  clear loop
  iterate 40 (all_goals (first
    | (refine And.intro (by omega) ?_)
    | (refine And.intro (fun hb => absurd hb (by omega)) (fun hb => ?_))
    | (refine And.intro (fun hb => ?_) (fun hb => absurd hb (by omega)))
    | (refine And.intro (fun hb => ?_) (fun hb => ?_))
    | (intro hb)
    | (conv => whnf)))
  exact hS nx
theorem pr_told03 {G : am_G} {d : Nat} {sh : Int → Option Nat} {V : am_V} {T : Nat} {p : Int} {f0 : Int → Int} {k w : Int} (hI : II V sh T p f0) (h0 : am_in32 k) (h1 : am_in32 w) (hw : w ≠ 1 ∧ w ≠ 2) : am_Calls G (d + 9) 16 [vR 3, vI k, vI w] V (am_RF sh) T (pr_int G (d + 9) 112 [vR 86, vI k, vI w] p f0) := by
  have hJ := hI.1
  have hT := hJ.2.2.2.1.1
  have hkk : iv_k V := hJ.2.2.2.2.2.2.2.1
  by_cases hc : (0 ≤ k ∧ k < 10) ∧ (w = 0 ∨ w = 3)
  · rcases hJ.2.2.2.1.2 k hc.1.1 hc.1.2 with ⟨e1, e2⟩ | ⟨a, n, e1, ha, haT, ok, x4, x5, x6⟩
    · refine am_enter mt_F_told ok_F_told rfl ?_
      refine am_run 400 mt_F_told ok_F_told (fun K S hK hS => ?_)
      iterate 30 (all_goals (first
        | (refine And.intro (by omega) ?_)
        | (refine And.intro (fun hb => absurd hb (by omega)) (fun hb => ?_))
        | (refine And.intro (fun hb => ?_) (fun hb => absurd hb (by omega)))
        | (refine And.intro (fun hb => ?_) (fun hb => ?_))
        | (intro hb)
        | (conv => whnf)))
      refine hK (s_F_noPlace h0 (fun r hr => ?_))
      iterate 50 (all_goals (first
        | (refine am_aN e1 ?_)
        | (refine And.intro (by omega) ?_)
        | (refine am_nN ?_)
        | (refine am_nS ?_)
        | (refine am_mN ?_)
        | (refine am_mS ?_)
        | (refine And.intro (fun hb => absurd hb (by omega)) (fun hb => ?_))
        | (refine And.intro (fun hb => ?_) (fun hb => absurd hb (by omega)))
        | (refine And.intro (fun hb => ?_) (fun hb => ?_))
        | (intro hb)
        | (conv => whnf)))
      refine hK (s_F_finding ?_)
      iterate 30 (all_goals (first
        | (refine And.intro (by omega) ?_)
        | (refine And.intro (fun hb => absurd hb (by omega)) (fun hb => ?_))
        | (refine And.intro (fun hb => ?_) (fun hb => absurd hb (by omega)))
        | (refine And.intro (fun hb => ?_) (fun hb => ?_))
        | (intro hb)
        | (conv => whnf)))
      refine pr_i (by omega) (by simp +decide [am_up_ne, am_up_at, reduceIte]; exact hJ.1) (s_M_told03 (n := 1) (i0 := 0) h0 h1 hw (fun z => absurd hc z) (fun _ => ?_) (fun _ _ => pr_k (II_find2 hI (by omega))) (fun _ z => ?_) (fun _ z => ?_) (fun _ z => ?_))
      · simp +decide only [am_up_ne, am_up_at, reduceIte]; omega
      all_goals (exfalso; simp +decide only [am_up_ne, am_up_at, reduceIte] at z; omega)
    · have xk := m_kd_rng ok.2.2.2.2.2
      have xn := ok.2.1
      have x0 : V a 0 = n := ok.1
      have a_0 : 107 ≤ a := ha.1
      have a_l := th_lay ha
      have a_b := th_ble ha
      have a_q := th_beq ha
      have a_m := th_lay1 ha
      have a_c := th_ble1 ha
      have a_r := th_beq1 ha
      have a_R : am_RF sh a 2 = some (a + 1) := th_RF ha
      have a_z : Nat.beq (a + 1) 0 = false := rfl
      have a_3 : Nat.ble 3 (a + 1) = true := th_ble3 ha
      have a_i : ∀ r, am_isr 3 (vR a :: r) = true := th_isr ha
      refine am_enter mt_F_told ok_F_told rfl ?_
      refine am_run 400 mt_F_told ok_F_told (fun K S hK hS => ?_)
      iterate 30 (all_goals (first
        | (refine And.intro (by omega) ?_)
        | (refine And.intro (fun hb => absurd hb (by omega)) (fun hb => ?_))
        | (refine And.intro (fun hb => ?_) (fun hb => absurd hb (by omega)))
        | (refine And.intro (fun hb => ?_) (fun hb => ?_))
        | (intro hb)
        | (conv => whnf)))
      refine hK (s_F_noPlace h0 (fun r hr => ?_))
      iterate 50 (all_goals (first
        | (refine am_aS e1 ?_)
        | (refine And.intro (by omega) ?_)
        | (refine And.intro (by decide) ?_)
        | (refine am_nN ?_)
        | (refine am_nS ?_)
        | (refine am_mN ?_)
        | (refine am_mS ?_)
        | (refine And.intro (fun hb => absurd hb (by omega)) (fun hb => ?_))
        | (refine And.intro (fun hb => ?_) (fun hb => absurd hb (by omega)))
        | (refine And.intro (fun hb => ?_) (fun hb => ?_))
        | (intro hb)
        | (refine am_if_mk (a_i _) ?_)
        | (simp only [a_l, a_b, a_q, a_m, a_c, a_r, a_R, a_z, a_3])
        | (conv => whnf)))
      refine hK (s_T_isOf ha (by omega) xk (fun r5 hr5 => ?_))
      by_cases hk2 : V a 4 = 1 ∨ V a 4 = 2 ∨ V a 4 = 3
      rotate_left
      · obtain rfl : r5 = 0 := by omega
        iterate 50 (all_goals (first
          | (refine And.intro (by omega) ?_)
          | (refine And.intro (by decide) ?_)
          | (refine am_nN ?_)
          | (refine am_nS ?_)
          | (refine am_mN ?_)
          | (refine am_mS ?_)
          | (refine And.intro (fun hb => absurd hb (by omega)) (fun hb => ?_))
          | (refine And.intro (fun hb => ?_) (fun hb => absurd hb (by omega)))
          | (refine And.intro (fun hb => ?_) (fun hb => ?_))
          | (intro hb)
          | (refine am_if_mk (a_i _) ?_)
          | (simp only [a_l, a_b, a_q, a_m, a_c, a_r, a_R, a_z, a_3])
          | (conv => whnf)))
        refine hK (s_F_finding ?_)
        iterate 30 (all_goals (first
          | (refine And.intro (by omega) ?_)
          | (refine And.intro (fun hb => absurd hb (by omega)) (fun hb => ?_))
          | (refine And.intro (fun hb => ?_) (fun hb => absurd hb (by omega)))
          | (refine And.intro (fun hb => ?_) (fun hb => ?_))
          | (intro hb)
          | (conv => whnf)))
        refine pr_i (by omega) (by simp +decide [am_up_ne, am_up_at, reduceIte]; exact hJ.1) (s_M_told03 (n := n) (i0 := 0) h0 h1 hw (fun z => absurd hc z) (fun _ => ?_) (fun _ z => ?_) (fun _ _ _ => pr_k (II_find2 hI (by omega))) (fun _ z => ?_) (fun _ z => ?_))
        · simp +decide only [am_up_ne, am_up_at, reduceIte]; omega
        all_goals (exfalso; simp +decide only [am_up_ne, am_up_at, reduceIte] at z; omega)
      obtain rfl : r5 = 1 := by omega
      have hF := m_kd_free ok.2.2.2.2.2 hk2
      obtain ⟨i0, hi0⟩ := o_is_ex (by omega) ok.2.2.1 hF
      have hi2 : o_is (fun j => V 92 (10 * k + j)) n i0 := o_is_same hi0 (fun j z0 z1 => (x6 j z0 z1).symm)
      have i0b := o_is_lt hi0
      have kb := (k_ways_b (l := n.toNat) (o := 0) (by omega)).2
      have fin : ∀ (z : Int) (U : am_V) (T' : Nat), th_pl T' → T ≤ T' → (∀ x, x ≠ 29 → x ≠ 30 → x < T → U x = V x) → z = (if w = 0 then i0 else o_sum (fun r => o_ind (m_fin (fun j => V 92 (10 * k + j)) (o_fn r) n)) (o_L n)) → am_in32 z → pr_int G (d + 9) 112 [vR 86, vI k, vI w] p f0 (some (vI z)) (am_up U 3 17 0) (am_RF sh) T' := fun z U T' hT' hTT hU ez zb => by
        have t107 := hT.1
        have ux : ∀ x, x < T → x ≠ 3 → x ≠ 29 → x ≠ 30 → am_up U 3 17 0 x = V x := fun x z1 z2 z3 z4 => by rw [am_up_ne z2, hU x z3 z4 z1]
        have y90 := ux 90 (by omega) (by decide) (by decide) (by decide)
        have y91 := ux 91 (by omega) (by decide) (by decide) (by decide)
        have y92 := ux 92 (by omega) (by decide) (by decide) (by decide)
        refine pr_i zb (by rw [ux 0 (by omega) (by decide) (by decide) (by decide)]; exact hJ.1) (s_M_told03 (n := n) (i0 := i0) h0 h1 hw (fun z => absurd hc z) (fun _ => ?_) (fun _ z => ?_) (fun _ _ z => ?_) (fun _ _ => ?_) (fun _ _ V' q2 => ?_))
        · rw [y90]; omega
        · exfalso; rw [y90] at z; omega
        · exfalso; rw [y90] at z; omega
        · rw [y91, y92]; exact ⟨x5, xn, hi2⟩
        · rw [y92, ← ez]
          have hII : IJ V' sh T' p f0 := IJ_ro hJ (fun a q q2' => by rw [q2 a (by omega), am_up_ne (by omega), am_up_ne (by omega), ux a q2' (by omega) (by omega) (by omega)]) (fun j q => by rw [q2 3 (by decide), am_up_ne (by decide), am_up_ne (by decide), am_up_at, if_neg q, hU 3 (by decide) (by decide) (by omega)]) (fun j z0 z1 => by rw [q2 86 (by decide), am_up_at, if_neg z1, am_up_at, if_neg z0, ux 86 (by omega) (by decide) (by decide) (by decide)]) (fun j _ _ => ⟨by rw [q2 65 (by decide), am_up_ne (by decide), am_up_ne (by decide), ux 65 (by omega) (by decide) (by decide) (by decide)], by rw [q2 76 (by decide), am_up_ne (by decide), am_up_ne (by decide), ux 76 (by omega) (by decide) (by decide) (by decide)]⟩) hTT hT'
          have hIS : II V' sh T' p f0 := ⟨hII, by unfold iv_st; rw [q2 86 (by decide), q2 3 (by decide)]; simp +decide [am_up_ne, am_up_at, reduceIte]⟩
          first | exact pr_k (hIS) | exact pr_k2 (hIS)
      rcases hc.2 with e | e
      · subst e
        rw [if_pos rfl] at fin
        iterate 50 (all_goals (first
          | (refine And.intro (by omega) ?_)
          | (refine And.intro (by decide) ?_)
          | (refine am_nN ?_)
          | (refine am_nS ?_)
          | (refine am_mN ?_)
          | (refine am_mS ?_)
          | (refine And.intro (fun hb => absurd hb (by omega)) (fun hb => ?_))
          | (refine And.intro (fun hb => ?_) (fun hb => absurd hb (by omega)))
          | (refine And.intro (fun hb => ?_) (fun hb => ?_))
          | (intro hb)
          | (refine am_if_mk (a_i _) ?_)
          | (simp only [a_l, a_b, a_q, a_m, a_c, a_r, a_R, a_z, a_3])
          | (conv => whnf)))
        refine hK (s_O_placeOf (n := n) ha ok hkk.2.1 hi0 (fun U u1 => ?_))
        iterate 30 (all_goals (first
          | (refine And.intro (by omega) ?_)
          | (refine And.intro (fun hb => absurd hb (by omega)) (fun hb => ?_))
          | (refine And.intro (fun hb => ?_) (fun hb => absurd hb (by omega)))
          | (refine And.intro (fun hb => ?_) (fun hb => ?_))
          | (intro hb)
          | (conv => whnf)))
        refine hK (s_F_fine ?_)
        iterate 30 (all_goals (first
          | (refine And.intro (by omega) ?_)
          | (refine And.intro (fun hb => absurd hb (by omega)) (fun hb => ?_))
          | (refine And.intro (fun hb => ?_) (fun hb => absurd hb (by omega)))
          | (refine And.intro (fun hb => ?_) (fun hb => ?_))
          | (intro hb)
          | (conv => whnf)))
        exact fin i0 U T hT (Nat.le_refl _) (fun x z1 z2 z3 => u1 x z1) rfl (by omega)
      · subst e
        rw [if_neg (by decide)] at fin
        have T_0 : 107 ≤ T := hT.1
        have T_l := th_lay hT
        have T_b := th_ble hT
        have T_q := th_beq hT
        have T_m := th_lay1 hT
        have T_c := th_ble1 hT
        have T_r := th_beq1 hT
        have T_R : am_RF sh T 2 = some (T + 1) := th_RF hT
        have T_z : Nat.beq (T + 1) 0 = false := rfl
        have T_3 : Nat.ble 3 (T + 1) = true := th_ble3 hT
        have T_i : ∀ r, am_isr 3 (vR T :: r) = true := th_isr hT
        iterate 50 (all_goals (first
          | (refine And.intro (by omega) ?_)
          | (refine And.intro (by decide) ?_)
          | (refine am_nN ?_)
          | (refine am_nS ?_)
          | (refine am_mN ?_)
          | (refine am_mS ?_)
          | (refine And.intro (fun hb => absurd hb (by omega)) (fun hb => ?_))
          | (refine And.intro (fun hb => ?_) (fun hb => absurd hb (by omega)))
          | (refine And.intro (fun hb => ?_) (fun hb => ?_))
          | (intro hb)
          | (refine am_if_mk (a_i _) ?_)
          | (simp only [a_l, a_b, a_q, a_m, a_c, a_r, a_R, a_z, a_3])
          | (conv => whnf)))
        refine hK (s_F_complementOf (n := n) ha xn hT haT x0 (fun i z0 z1 => by have := m_rgs_lt ok.2.2.1 z0 z1; omega) hF (fun U u1 u2 u3 => ?_))
        have t107 := hT.1
        have hov := o_over (g := fun j => V 92 (10 * k + j)) (K := U (T + 1)) (n := n) (nb := U T 1) (by omega) ⟨u2.2.2.1, fun i j z0 z1 z2 z3 => (u3 i j z0 z1 z2 z3).trans (m_kr_iff (fun x q0 q1 => (x6 x q0 q1).symm) ⟨z0, z1⟩ ⟨z2, z3⟩)⟩ u2.2.2.2.1
        have zb := pd_in (f := k_cat) (g := U (T + 1)) (n := n) ⟨by omega, xn.2⟩ (fun s a b => (k_cat_b s a b).1) (U T 1).toNat
        have f := fin (pd k_cat (U (T + 1)) n (U T 1).toNat) U (T + 2) ⟨by omega, by have := hT.2; omega⟩ (by omega) (fun x z1 z2 z3 => u1 x z2 (by omega) (by omega)) hov.symm (by omega)
        have e1' : ∀ j, 0 ≤ j → j ≤ 10 → U 1 j = k_cat j := fun j z0 z1 => by rw [u1 1 (by decide) (by omega) (by omega)]; exact (hkk.1 j z0 z1).1
        clear fin hov
        iterate 50 (all_goals (first
          | (refine And.intro (by omega) ?_)
          | (refine And.intro (by decide) ?_)
          | (refine am_nN ?_)
          | (refine am_nS ?_)
          | (refine am_mN ?_)
          | (refine am_mS ?_)
          | (refine And.intro (fun hb => absurd hb (by omega)) (fun hb => ?_))
          | (refine And.intro (fun hb => ?_) (fun hb => absurd hb (by omega)))
          | (refine And.intro (fun hb => ?_) (fun hb => ?_))
          | (intro hb)
          | (refine am_if_mk (T_i _) ?_)
          | (simp only [T_l, T_b, T_q, T_m, T_c, T_r, T_R, T_z, T_3])
          | (conv => whnf)))
        refine hK (s_T_productOver1 (n := n) (f := k_cat) hT u2 e1' ?_)
        iterate 30 (all_goals (first
          | (refine And.intro (by omega) ?_)
          | (refine And.intro (fun hb => absurd hb (by omega)) (fun hb => ?_))
          | (refine And.intro (fun hb => ?_) (fun hb => absurd hb (by omega)))
          | (refine And.intro (fun hb => ?_) (fun hb => ?_))
          | (intro hb)
          | (conv => whnf)))
        refine hK (s_F_fine ?_)
        iterate 30 (all_goals (first
          | (refine And.intro (by omega) ?_)
          | (refine And.intro (fun hb => absurd hb (by omega)) (fun hb => ?_))
          | (refine And.intro (fun hb => ?_) (fun hb => absurd hb (by omega)))
          | (refine And.intro (fun hb => ?_) (fun hb => ?_))
          | (intro hb)
          | (conv => whnf)))
        exact f
  · have bad : pr_int G (d + 9) 112 [vR 86, vI k, vI w] p f0 (some (vI (-1000001))) V (am_RF sh) T := pr_i (by omega) hJ.1 (s_M_told03 (n := 1) (i0 := 0) h0 h1 hw (fun _ => pr_k (II_bad hI)) (fun z => absurd z hc) (fun z => absurd z hc) (fun z => absurd z hc) (fun z => absurd z hc) (fun z => absurd z hc))
    refine am_enter mt_F_told ok_F_told rfl ?_
    refine am_run 400 mt_F_told ok_F_told (fun K S hK hS => ?_)
    iterate 30 (all_goals (first
      | (refine And.intro (by omega) ?_)
      | (refine And.intro (fun hb => absurd hb (by omega)) (fun hb => ?_))
      | (refine And.intro (fun hb => ?_) (fun hb => absurd hb (by omega)))
      | (refine And.intro (fun hb => ?_) (fun hb => ?_))
      | (intro hb)
      | (conv => whnf)))
    refine hK (s_F_noPlace h0 (fun r hr => ?_))
    iterate 30 (all_goals (first
      | (refine And.intro (by omega) ?_)
      | (refine And.intro (fun hb => absurd hb (by omega)) (fun hb => ?_))
      | (refine And.intro (fun hb => ?_) (fun hb => absurd hb (by omega)))
      | (refine And.intro (fun hb => ?_) (fun hb => ?_))
      | (intro hb)
      | (conv => whnf)))
    all_goals exact bad
theorem pr_told {G : am_G} {d : Nat} {sh : Int → Option Nat} {V : am_V} {T : Nat} {p : Int} {f0 : Int → Int} {k w : Int} (hI : II V sh T p f0) (h0 : am_in32 k) (h1 : am_in32 w) : am_Calls G (d + 9) 16 [vR 3, vI k, vI w] V (am_RF sh) T (pr_int G (d + 9) 112 [vR 86, vI k, vI w] p f0) := by
  by_cases hw : w = 0 ∨ w = 3
  · exact pr_told03 hI h0 h1 (by omega)
  · exact pr_told12 hI h0 h1 (by omega)
