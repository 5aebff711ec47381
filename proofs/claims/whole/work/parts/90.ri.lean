/-! the class labels rings -/
def ob_C (g : Int → Int) (n : Int) (x y : Int) : Prop := (0 ≤ x ∧ x < n) ∧ m_ah g n (if x + 1 < n then x + 1 else 0) y
theorem m_ah_fn {g : Int → Int} {n x r r' : Int} (h : m_ah g n x r) (h' : m_ah g n x r') : r = r' := by
  obtain ⟨a0, a1, a2⟩ := h
  obtain ⟨b0, b1, b2⟩ := h'
  rcases Int.lt_trichotomy r r' with q | q | q
  · exfalso
    rcases a2 with ⟨c1, c2⟩ | ⟨c1, c2, c3⟩
    · rcases b2 with ⟨d1, d2⟩ | ⟨d1, d2, d3⟩
      · exact c2 r' q d1 b1
      · exact d2 r a0.1 c1 a1
    · exact c3 r' q b0.2 b1
  · exact q
  · exfalso
    rcases b2 with ⟨c1, c2⟩ | ⟨c1, c2, c3⟩
    · rcases a2 with ⟨d1, d2⟩ | ⟨d1, d2, d3⟩
      · exact c2 r q d1 a1
      · exact d2 r' b0.1 c1 b1
    · exact c3 r q a0.2 a1
theorem m_ah_inj0 {g : Int → Int} {n x x' r : Int} (hx : 0 ≤ x ∧ x < n) (hx' : 0 ≤ x' ∧ x' < n) (h : m_ah g n x r) (h' : m_ah g n x' r) : ¬ x < x' := by
  intro q
  obtain ⟨a0, a1, a2⟩ := h
  obtain ⟨b0, b1, b2⟩ := h'
  have e : g x = g x' := a1.symm.trans b1
  rcases b2 with ⟨d1, d2⟩ | ⟨d1, d2, d3⟩
  · rcases a2 with ⟨c1, c2⟩ | ⟨c1, c2, c3⟩
    · exact d2 x (by omega) q e
    · exact c3 x' d1 hx'.2 e.symm
  · exact d2 x hx.1 q e
theorem m_ah_inj {g : Int → Int} {n x x' r : Int} (hx : 0 ≤ x ∧ x < n) (hx' : 0 ≤ x' ∧ x' < n) (h : m_ah g n x r) (h' : m_ah g n x' r) : x = x' := by
  have a := m_ah_inj0 hx hx' h h'
  have b := m_ah_inj0 hx' hx h' h
  omega
theorem ob_C_fn (g : Int → Int) (n : Int) : ob_fn (ob_C g n) n := by
  refine ⟨fun x y c => ⟨c.1, c.2.1⟩, fun x y y' c c' => m_ah_fn c.2 c'.2, fun x x' y c c' => ?_⟩
  have a := c.1
  have b := c'.1
  have := m_ah_inj (by split <;> omega) (by split <;> omega) c.2 c'.2
  split at this <;> split at this <;> omega
theorem s_T_labelRing {G : am_G} {d : Nat} {sh : Int → Option Nat} {V : am_V} {T : Nat} {Q : Option AV → am_V → am_T → Nat → Prop} {a : Nat} {n k r : Int} (ha : th_pl a) (hn : 1 ≤ n ∧ n ≤ 10) (ea : V a 0 = n) (hg : ∀ i, 0 ≤ i → i < n → am_in32 (V (a + 1) i)) (hk : 0 ≤ k ∧ k < n) (hL : V 30 k = -1) (o : ob_out (ob_C (V (a + 1)) n) n (V 30) k r)
    (hQ : ∀ V', (∀ x, x ≠ 30 → V' x = V x) → ob_out (ob_C (V (a + 1)) n) n (V' 30) (k + 1) (r + 1) → Q none V' (am_RF sh) T) : am_Calls G (d + 2) 165 [vR a, vR 30, vI k, vI r] V (am_RF sh) T Q := by
  have hf := ob_C_fn (V (a + 1)) n
  have hr := o.1
  have a_0 : 107 ≤ a := ha.1
  have a_l := th_lay ha
  have a_b := th_ble ha
  have a_q := th_beq ha
  have a_m := th_lay1 ha
  have a_c := th_ble1 ha
  have a_r := th_beq1 ha
  have a_R : am_RF sh a 2 = some (a + 1) := th_RF ha
  have a_z : Nat.beq (a + 1) 0 = false := rfl
  have a_3 : Nat.ble 3 (a + 1) = true := th_ble3 ha
  have a_i : ∀ r, am_isr 3 (vR a :: r) = true := th_isr ha
  have a30 : a ≠ 30 := by omega
  have a31 : a + 1 ≠ 30 := by omega
  refine am_enter mt_T_labelRing ok_T_labelRing rfl ?_
  have loop : ∀ (jj : Nat) (s at_ z : Int) (W : am_V), 0 ≤ s → n - s < jj → s + m_cg (W 30) (-1) n.toNat ≤ n → (∀ x, x ≠ 30 → W x = V x) → ob_in (ob_C (V (a + 1)) n) n (V 30) k r at_ z (W 30) → am_Sem G (d + 1) 165 V T Q 6 [some (vR a), some (vR 30), some (vI k), some (vI r), some (vI at_), some (vI s)] [] W (am_RF sh) T 0 0 := by
    intro jj
    induction jj with
    | zero =>
      intro s at_ z W a1 a2 a3 w i
      have := (m_cg_le (W 30) (-1) n.toNat).1
      omega
    | succ jj ih =>
      intro s at_ z W a1 a2 a3 w i
      have ia := i.1
      have eW : W a 0 = n := by rw [w a a30]; exact ea
      have cp := (m_cg_le (W 30) (-1) n.toNat).1
      have rM : am_in32 (W 30 at_) := by
        have h1 := i.2.1 at_ ia.1 ia.2
        have h2 := o.2.1 at_ ia.1 ia.2
        constructor <;> omega
      by_cases hm : W 30 at_ = -1
      · have c1 := m_cg_pos (g := W 30) ia.1 ia.2 hm
        have hs : s < n := by omega
        have nx : ∀ y, m_ah (V (a + 1)) n (if at_ + 1 < n then at_ + 1 else 0) y → am_Sem G (d + 1) 165 V T Q 6 [some (vR a), some (vR 30), some (vI k), some (vI r), some (vI y), some (vI (s + 1))] [] (am_up W 30 at_ r) (am_RF sh) T 0 0 := fun y hy =>
          ih (s + 1) y at_ (am_up W 30 at_ r) (by omega) (by omega) (by
            have := m_cg_up (g := W 30) (h := am_up W 30 at_ r 30) ia.1 hm (show r ≠ -1 by omega) (fun j => am_up_at) n.toNat
            rw [if_pos (by omega)] at this
            omega) (fun x hx => by rw [am_up_ne hx, w x hx]) (ob_step hf hr.1 i hm ⟨ia, hy⟩ (fun j => am_up_at))
        have w1 : am_up W 30 at_ r (a + 1) = V (a + 1) := by rw [am_up_ne a31, w (a + 1) a31]
        have w0 : am_up W 30 at_ r a 0 = n := by rw [am_up_ne a30]; exact eW
        clear ih i a3 cp c1
        by_cases h1 : at_ + 1 < n
        · rw [if_pos h1] at nx
          refine am_run 400 mt_T_labelRing ok_T_labelRing (fun K S hK hS => ?_)
          iterate 30 (all_goals (first
            | (refine And.intro (by omega) ?_)
            | (refine And.intro (by decide) ?_)
            | (refine And.intro (fun hb => absurd hb (by omega)) (fun hb => ?_))
            | (refine And.intro (fun hb => ?_) (fun hb => absurd hb (by omega)))
            | (refine And.intro (fun hb => ?_) (fun hb => ?_))
            | (intro hb)
            | (refine am_if_mk (a_i _) ?_)
            | (simp only [a_l, a_b, a_q, a_m, a_c, a_r, a_R, a_z, a_3, eW, w0])
            | (conv => whnf)))
          refine hK (s_T_aheadInBlock ha hn w0 (by rw [w1]; exact hg) (by omega) (fun y hy => ?_))
          rw [w1] at hy
          iterate 30 (all_goals (first
            | (refine And.intro (by omega) ?_)
            | (refine And.intro (fun hb => absurd hb (by omega)) (fun hb => ?_))
            | (refine And.intro (fun hb => ?_) (fun hb => absurd hb (by omega)))
            | (refine And.intro (fun hb => ?_) (fun hb => ?_))
            | (intro hb)
            | (conv => whnf)))
          exact hS (nx y hy)
        · rw [if_neg h1] at nx
          refine am_run 400 mt_T_labelRing ok_T_labelRing (fun K S hK hS => ?_)
          iterate 30 (all_goals (first
            | (refine And.intro (by omega) ?_)
            | (refine And.intro (by decide) ?_)
            | (refine And.intro (fun hb => absurd hb (by omega)) (fun hb => ?_))
            | (refine And.intro (fun hb => ?_) (fun hb => absurd hb (by omega)))
            | (refine And.intro (fun hb => ?_) (fun hb => ?_))
            | (intro hb)
            | (refine am_if_mk (a_i _) ?_)
            | (simp only [a_l, a_b, a_q, a_m, a_c, a_r, a_R, a_z, a_3, eW, w0])
            | (conv => whnf)))
          refine hK (s_T_aheadInBlock ha hn w0 (by rw [w1]; exact hg) (by omega) (fun y hy => ?_))
          rw [w1] at hy
          iterate 30 (all_goals (first
            | (refine And.intro (by omega) ?_)
            | (refine And.intro (fun hb => absurd hb (by omega)) (fun hb => ?_))
            | (refine And.intro (fun hb => ?_) (fun hb => absurd hb (by omega)))
            | (refine And.intro (fun hb => ?_) (fun hb => ?_))
            | (intro hb)
            | (conv => whnf)))
          exact hS (nx y hy)
      · have q := hQ W w (ob_end hf o hk hL i hm)
        clear ih
        by_cases hs : s < n
        · refine am_run 400 mt_T_labelRing ok_T_labelRing (fun K S hK hS => ?_)
          iterate 30 (all_goals (first
            | (refine And.intro (by omega) ?_)
            | (refine And.intro (by decide) ?_)
            | (refine And.intro (rM) ?_)
            | (refine And.intro (fun hb => absurd hb (by omega)) (fun hb => ?_))
            | (refine And.intro (fun hb => ?_) (fun hb => absurd hb (by omega)))
            | (refine And.intro (fun hb => ?_) (fun hb => ?_))
            | (intro hb)
            | (refine am_if_mk (a_i _) ?_)
            | (simp only [a_l, a_b, a_q, a_m, a_c, a_r, a_R, a_z, a_3, eW])
            | (conv => whnf)))
          exact q
        · refine am_run 400 mt_T_labelRing ok_T_labelRing (fun K S hK hS => ?_)
          iterate 30 (all_goals (first
            | (refine And.intro (by omega) ?_)
            | (refine And.intro (by decide) ?_)
            | (refine And.intro (rM) ?_)
            | (refine And.intro (fun hb => absurd hb (by omega)) (fun hb => ?_))
            | (refine And.intro (fun hb => ?_) (fun hb => absurd hb (by omega)))
            | (refine And.intro (fun hb => ?_) (fun hb => ?_))
            | (intro hb)
            | (refine am_if_mk (a_i _) ?_)
            | (simp only [a_l, a_b, a_q, a_m, a_c, a_r, a_R, a_z, a_3, eW])
            | (conv => whnf)))
          exact q
  have st := loop (n + 1).toNat 0 k k V (by omega) (by omega) (by have := (m_cg_le (V 30) (-1) n.toNat).2; omega) (fun x _ => rfl) (ob_begin hf o hk)
  clear loop
  refine am_run 400 mt_T_labelRing ok_T_labelRing (fun K S hK hS => ?_)
  iterate 30 (all_goals (first
    | (refine And.intro (by omega) ?_)
    | (refine And.intro (fun hb => absurd hb (by omega)) (fun hb => ?_))
    | (refine And.intro (fun hb => ?_) (fun hb => absurd hb (by omega)))
    | (refine And.intro (fun hb => ?_) (fun hb => ?_))
    | (intro hb)
    | (conv => whnf)))
  exact hS st
