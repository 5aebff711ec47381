/-! the point ahead in its block, round -/
def m_ah (g : Int → Int) (n x r : Int) : Prop := (0 ≤ r ∧ r < n) ∧ g r = g x ∧ ((r < x ∧ ∀ y, r < y → y < x → g y ≠ g x) ∨ (x ≤ r ∧ (∀ y, 0 ≤ y → y < x → g y ≠ g x) ∧ ∀ y, r < y → y < n → g y ≠ g x))
def m_ahI (g : Int → Int) (n x s at_ : Int) : Prop := (s ≤ x ∧ at_ = x - s ∧ ∀ y, at_ ≤ y → y < x → g y ≠ g x) ∨ (x < s ∧ at_ = x - s + n ∧ (∀ y, 0 ≤ y → y < x → g y ≠ g x) ∧ ∀ y, at_ ≤ y → y < n → g y ≠ g x)
theorem m_ahI_at {g : Int → Int} {n x s at_ : Int} (w : m_ahI g n x s at_) : (s ≤ x ∧ at_ = x - s) ∨ (x < s ∧ at_ = x - s + n) := by
  rcases w with ⟨a, b, -⟩ | ⟨a, b, -⟩
  · exact Or.inl ⟨a, b⟩
  · exact Or.inr ⟨a, b⟩
theorem m_ahI_yes {g : Int → Int} {n x s at_ r : Int} (hx : 0 ≤ x ∧ x < n) (hs : 0 ≤ s ∧ s < n) (w : m_ahI g n x s at_) (hr : r = (if 0 < at_ then at_ - 1 else n - 1)) (hg : g r = g x) : m_ah g n x r := by
  rcases w with ⟨a, b, c⟩ | ⟨a, b, c, e⟩
  · by_cases z : 0 < at_
    · rw [if_pos z] at hr
      exact ⟨by omega, hg, Or.inl ⟨by omega, fun y y1 y2 => c y (by omega) y2⟩⟩
    · rw [if_neg z] at hr
      exact ⟨by omega, hg, Or.inr ⟨by omega, fun y y1 y2 => c y (by omega) y2, fun y y1 y2 => absurd y2 (by omega)⟩⟩
  · rw [if_pos (by omega)] at hr
    exact ⟨by omega, hg, Or.inr ⟨by omega, c, fun y y1 y2 => e y (by omega) y2⟩⟩
theorem m_ahI_no {g : Int → Int} {n x s at_ r : Int} (hx : 0 ≤ x ∧ x < n) (hs : 0 ≤ s ∧ s < n) (w : m_ahI g n x s at_) (hr : r = (if 0 < at_ then at_ - 1 else n - 1)) (hg : g r ≠ g x) : m_ahI g n x (s + 1) r := by
  rcases w with ⟨a, b, c⟩ | ⟨a, b, c, e⟩
  · by_cases z : 0 < at_
    · rw [if_pos z] at hr
      refine Or.inl ⟨by omega, by omega, fun y y1 y2 => ?_⟩
      by_cases q : y = r
      · rw [q]; exact hg
      · exact c y (by omega) y2
    · rw [if_neg z] at hr
      refine Or.inr ⟨by omega, by omega, fun y y1 y2 => c y (by omega) y2, fun y y1 y2 => ?_⟩
      rw [show y = r by omega]; exact hg
  · rw [if_pos (by omega)] at hr
    refine Or.inr ⟨by omega, by omega, c, fun y y1 y2 => ?_⟩
    by_cases q : y = r
    · rw [q]; exact hg
    · exact e y (by omega) y2
theorem s_T_aheadInBlock {G : am_G} {d : Nat} {sh : Int → Option Nat} {V : am_V} {T : Nat} {Q : Option AV → am_V → am_T → Nat → Prop} {a : Nat} {n x : Int} (ha : th_pl a) (hn : 1 ≤ n ∧ n ≤ 10) (ea : V a 0 = n) (hr : ∀ i, 0 ≤ i → i < n → am_in32 (V (a + 1) i)) (hx : 0 ≤ x ∧ x < n) (hQ : ∀ r, m_ah (V (a + 1)) n x r → Q (some (vI r)) V (am_RF sh) T) : am_Calls G (d + 1) 166 [vR a, vI x] V (am_RF sh) T Q := by
  have a_0 : 107 ≤ a := ha.1
  have a_l := th_lay ha
  have a_b := th_ble ha
  have a_q := th_beq ha
  have a_m := th_lay1 ha
  have a_c := th_ble1 ha
  have a_r := th_beq1 ha
  have a_R : am_RF sh a 2 = some (a + 1) := th_RF ha
  have a_z : Nat.beq (a + 1) 0 = false := rfl
  have a_3 : Nat.ble 3 (a + 1) = true := th_ble3 ha
  have a_i : ∀ r, am_isr 3 (vR a :: r) = true := th_isr ha
  refine am_enter mt_T_aheadInBlock ok_T_aheadInBlock rfl ?_
  have loop : ∀ (jj : Nat) (s at_ : Int), 0 ≤ s → s ≤ n → n - s < jj → m_ahI (V (a + 1)) n x s at_ → am_Sem G d 166 V T Q 4 [some (vR a), some (vI x), some (vI at_), some (vI s)] [] V (am_RF sh) T 0 0 := by
    intro jj
    induction jj with
    | zero => intro s at_ a1 a2 a3; omega
    | succ jj ih =>
      intro s at_ a1 a2 a3 w
      have wa := m_ahI_at w
      by_cases hs : s = n
      · exfalso
        rcases w with ⟨z1, -⟩ | ⟨-, z2, -, z4⟩
        · omega
        · exact z4 x (by omega) hx.2 rfl
      · have rx := hr x hx.1 hx.2
        by_cases hat : 0 < at_
        · have r1 := hr (at_ - 1) (by omega) (by omega)
          by_cases hg : V (a + 1) (at_ - 1) = V (a + 1) x
          · have q := hQ (at_ - 1) (m_ahI_yes hx ⟨a1, by omega⟩ w (by rw [if_pos hat]) hg)
            clear ih w hQ
            refine am_run 400 mt_T_aheadInBlock ok_T_aheadInBlock (fun K S hK hS => ?_)
            iterate 50 (all_goals (first
              | (refine And.intro (by omega) ?_)
              | (refine And.intro (by decide) ?_)
              | (refine And.intro (⟨r1, rx⟩) ?_)
              | (refine And.intro (fun hb => absurd hb (by omega)) (fun hb => ?_))
              | (refine And.intro (fun hb => ?_) (fun hb => absurd hb (by omega)))
              | (refine And.intro (fun hb => ?_) (fun hb => ?_))
              | (intro hb)
              | (refine am_if_mk (a_i _) ?_)
              | (simp only [a_l, a_b, a_q, a_m, a_c, a_r, a_R, a_z, a_3, ea])
              | (conv => whnf)))
            exact q
          · have nx := ih (s + 1) (at_ - 1) (by omega) (by omega) (by omega) (m_ahI_no hx ⟨a1, by omega⟩ w (by rw [if_pos hat]) hg)
            clear ih w hQ
            refine am_run 400 mt_T_aheadInBlock ok_T_aheadInBlock (fun K S hK hS => ?_)
            iterate 50 (all_goals (first
              | (refine And.intro (by omega) ?_)
              | (refine And.intro (by decide) ?_)
              | (refine And.intro (⟨r1, rx⟩) ?_)
              | (refine And.intro (fun hb => absurd hb (by omega)) (fun hb => ?_))
              | (refine And.intro (fun hb => ?_) (fun hb => absurd hb (by omega)))
              | (refine And.intro (fun hb => ?_) (fun hb => ?_))
              | (intro hb)
              | (refine am_if_mk (a_i _) ?_)
              | (simp only [a_l, a_b, a_q, a_m, a_c, a_r, a_R, a_z, a_3, ea])
              | (conv => whnf)))
            exact hS nx
        · have r1 := hr (n - 1) (by omega) (by omega)
          by_cases hg : V (a + 1) (n - 1) = V (a + 1) x
          · have q := hQ (n - 1) (m_ahI_yes hx ⟨a1, by omega⟩ w (by rw [if_neg hat]) hg)
            clear ih w hQ
            refine am_run 400 mt_T_aheadInBlock ok_T_aheadInBlock (fun K S hK hS => ?_)
            iterate 50 (all_goals (first
              | (refine And.intro (by omega) ?_)
              | (refine And.intro (by decide) ?_)
              | (refine And.intro (⟨r1, rx⟩) ?_)
              | (refine And.intro (fun hb => absurd hb (by omega)) (fun hb => ?_))
              | (refine And.intro (fun hb => ?_) (fun hb => absurd hb (by omega)))
              | (refine And.intro (fun hb => ?_) (fun hb => ?_))
              | (intro hb)
              | (refine am_if_mk (a_i _) ?_)
              | (simp only [a_l, a_b, a_q, a_m, a_c, a_r, a_R, a_z, a_3, ea])
              | (conv => whnf)))
            exact q
          · have nx := ih (s + 1) (n - 1) (by omega) (by omega) (by omega) (m_ahI_no hx ⟨a1, by omega⟩ w (by rw [if_neg hat]) hg)
            clear ih w hQ
            refine am_run 400 mt_T_aheadInBlock ok_T_aheadInBlock (fun K S hK hS => ?_)
            iterate 50 (all_goals (first
              | (refine And.intro (by omega) ?_)
              | (refine And.intro (by decide) ?_)
              | (refine And.intro (⟨r1, rx⟩) ?_)
              | (refine And.intro (fun hb => absurd hb (by omega)) (fun hb => ?_))
              | (refine And.intro (fun hb => ?_) (fun hb => absurd hb (by omega)))
              | (refine And.intro (fun hb => ?_) (fun hb => ?_))
              | (intro hb)
              | (refine am_if_mk (a_i _) ?_)
              | (simp only [a_l, a_b, a_q, a_m, a_c, a_r, a_R, a_z, a_3, ea])
              | (conv => whnf)))
            exact hS nx
  have st := loop (n + 1).toNat 0 x (by omega) (by omega) (by omega) (Or.inl ⟨by omega, by omega, fun y y1 y2 => absurd y2 (by omega)⟩)
  clear loop
  refine am_run 400 mt_T_aheadInBlock ok_T_aheadInBlock (fun K S hK hS => ?_)
  iterate 30 (all_goals (first
    | (refine And.intro (by omega) ?_)
    | (refine And.intro (fun hb => absurd hb (by omega)) (fun hb => ?_))
    | (refine And.intro (fun hb => ?_) (fun hb => absurd hb (by omega)))
    | (refine And.intro (fun hb => ?_) (fun hb => ?_))
    | (intro hb)
    | (conv => whnf)))
  exact hS st
