/-! count -/
def m_ct (f : Int → Int) : Nat → Int
  | 0 => 0
  | n + 1 => m_ct f n + f n
theorem m_ct_S (f : Int → Int) (k : Int) (h : 0 ≤ k) : m_ct f (k + 1).toNat = m_ct f k.toNat + f k := by
  rw [show (k + 1).toNat = k.toNat + 1 by omega, m_ct, show ((k.toNat : Nat) : Int) = k by omega]
theorem m_ct_eq {f g : Int → Int} : ∀ (n : Nat), (∀ i : Int, 0 ≤ i → i < n → f i = g i) → m_ct f n = m_ct g n
  | 0, _ => rfl
  | n + 1, e => by rw [m_ct, m_ct, m_ct_eq n (fun i a b => e i a (by omega)), e n (by omega) (by omega)]
theorem m_ct_rng {f : Int → Int} : ∀ (n : Nat), (∀ i : Int, 0 ≤ f i ∧ f i ≤ 1) → 0 ≤ m_ct f n ∧ m_ct f n ≤ n
  | 0, _ => ⟨Int.le_refl _, Int.le_refl _⟩
  | n + 1, e => by
    have := m_ct_rng n e
    have := e n
    rw [m_ct]
    omega
theorem s_F_countSheets {G : am_G} {d : Nat} {sh : Int → Option Nat} {V : am_V} {T : Nat} {Q : Option AV → am_V → am_T → Nat → Prop} (hr : ∀ s, 0 ≤ s → s < 8 → am_in32 (V 14 s)) (hQ : Q (some (vI (m_ct (fun s => if V 14 s = -1 then 0 else 1) 8))) V (am_RF sh) T) : am_Calls G (d + 1) 46 [vR 3] V (am_RF sh) T Q := by
  refine am_enter mt_F_countSheets ok_F_countSheets rfl ?_
  have loop : ∀ (j : Nat) (k : Int) (x5 : Option AV), 0 ≤ k → k ≤ 8 → 8 - k < j → am_Sem G d 46 V T Q 13 [some (vR 3), some (vI (m_ct (fun s => if V 14 s = -1 then 0 else 1) k.toNat)), some (vR 14), some (vI 8), some (vI k), x5] [] V (am_RF sh) T 0 0 := by
    intro j
    induction j with
    | zero => intro k x5 a b c; omega
    | succ j ih =>
      intro k x5 a b c
      by_cases hk : k = 8
      · subst hk
        refine am_run 400 mt_F_countSheets ok_F_countSheets (fun K S hK hS => ?_)
        iterate 30 (all_goals (first
          | (refine And.intro (by omega) ?_)
          | (refine And.intro (fun hb => absurd hb (by omega)) (fun hb => ?_))
          | (refine And.intro (fun hb => ?_) (fun hb => absurd hb (by omega)))
          | (refine And.intro (fun hb => ?_) (fun hb => ?_))
          | (intro hb)
          | (conv => whnf)))
        exact hQ
      · have rk := hr k a (by omega)
        have ih := fun x => ih (k + 1) x (by omega) (by omega) (by omega)
        rw [m_ct_S _ _ a] at ih
        refine am_run 400 mt_F_countSheets ok_F_countSheets (fun K S hK hS => ?_)
        iterate 30 (all_goals (first
          | (refine And.intro (by omega) ?_)
          | (refine And.intro (fun hb => absurd hb (by omega)) (fun hb => ?_))
          | (refine And.intro (fun hb => ?_) (fun hb => absurd hb (by omega)))
          | (refine And.intro (fun hb => ?_) (fun hb => ?_))
          | (intro hb)
          | (conv => whnf)))
        · have e : V 14 k = -1 := by assumption
          rw [if_pos e, Int.add_zero] at ih
          exact hS (ih _)
        · have e : ¬ V 14 k = -1 := by assumption
          rw [if_neg e] at ih
          exact hS (ih _)
  refine am_run 400 mt_F_countSheets ok_F_countSheets (fun K S hK hS => ?_)
  iterate 30 (all_goals (first
    | (refine And.intro (by omega) ?_)
    | (refine And.intro (fun hb => absurd hb (by omega)) (fun hb => ?_))
    | (refine And.intro (fun hb => ?_) (fun hb => absurd hb (by omega)))
    | (refine And.intro (fun hb => ?_) (fun hb => ?_))
    | (intro hb)
    | (conv => whnf)))
  exact hS (loop 9 0 _ (by omega) (by omega) (by omega))
/-- whether a kind as it is told is of a kind -/
def m_of (x b : Int) : Int := if 0 ≤ x ∧ (b = 0 ∨ x = b ∨ (b = 1 ∧ (x = 2 ∨ x = 3))) then 1 else 0
theorem m_of_rng (x b : Int) : 0 ≤ m_of x b ∧ m_of x b ≤ 1 := by
  unfold m_of
  split <;> omega
theorem s_F_countThings {G : am_G} {d : Nat} {sh : Int → Option Nat} {V : am_V} {T : Nat} {Q : Option AV → am_V → am_T → Nat → Prop} {b : Int} (h1 : am_in32 b) (hg : iv_tg V sh T) (hQ : Q (some (vI (m_ct (fun k => m_of (V 90 k) b) 10))) V (am_RF sh) T) : am_Calls G (d + 2) 47 [vR 3, vI b] V (am_RF sh) T Q := by
  refine am_enter mt_F_countThings ok_F_countThings rfl ?_
  have loop : ∀ (j : Nat) (k : Int) (x6 : Option AV), 0 ≤ k → k ≤ 10 → 10 - k < j → am_Sem G (d + 1) 47 V T Q 14 [some (vR 3), some (vI b), some (vI (m_ct (fun k => m_of (V 90 k) b) k.toNat)), some (vR 15), some (vI 10), some (vI k), x6] [] V (am_RF sh) T 0 0 := by
    intro j
    induction j with
    | zero => intro k x6 a b c; omega
    | succ j ih =>
      intro k x6 a c e
      by_cases hk : k = 10
      · subst hk
        refine am_run 400 mt_F_countThings ok_F_countThings (fun K S hK hS => ?_)
        iterate 30 (all_goals (first
          | (refine And.intro (by omega) ?_)
          | (refine And.intro (fun hb => absurd hb (by omega)) (fun hb => ?_))
          | (refine And.intro (fun hb => ?_) (fun hb => absurd hb (by omega)))
          | (refine And.intro (fun hb => ?_) (fun hb => ?_))
          | (intro hb)
          | (conv => whnf)))
        exact hQ
      · have ih := fun x => ih (k + 1) x (by omega) (by omega) (by omega)
        rw [m_ct_S _ _ a] at ih
        rcases hg.2 k a (by omega) with ⟨e1, e2⟩ | ⟨x, n, e1, e2⟩
        · rw [show m_of (V 90 k) b = 0 by unfold m_of; rw [if_neg (by omega)], Int.add_zero] at ih
          refine am_run 400 mt_F_countThings ok_F_countThings (fun K S hK hS => ?_)
          iterate 40 (all_goals (first
            | (refine am_aN e1 ?_)
            | (refine And.intro (by omega) ?_)
            | (refine am_nN ?_)
            | (refine am_nS ?_)
            | (refine am_mN ?_)
            | (refine am_mS ?_)
            | (refine And.intro (fun hb => absurd hb (by omega)) (fun hb => ?_))
            | (refine And.intro (fun hb => ?_) (fun hb => absurd hb (by omega)))
            | (refine And.intro (fun hb => ?_) (fun hb => ?_))
            | (intro hb)
            | (conv => whnf)))
          exact hS (ih _)
        · have xk := th_kd e2
          have x1 := e2.1
          have ek : V 90 k = V x 4 := e2.2.2.2.1
          have x_0 : 107 ≤ x := x1.1
          have x_l := th_lay x1
          have x_b := th_ble x1
          have x_q := th_beq x1
          have x_m := th_lay1 x1
          have x_c := th_ble1 x1
          have x_r := th_beq1 x1
          have x_R : am_RF sh x 2 = some (x + 1) := th_RF x1
          have x_z : Nat.beq (x + 1) 0 = false := rfl
          have x_3 : Nat.ble 3 (x + 1) = true := th_ble3 x1
          have x_i : ∀ r, am_isr 3 (vR x :: r) = true := th_isr x1
          refine am_run 400 mt_F_countThings ok_F_countThings (fun K S hK hS => ?_)
          iterate 40 (all_goals (first
            | (refine am_aS e1 ?_)
            | (refine And.intro (by omega) ?_)
            | (refine And.intro (by decide) ?_)
            | (refine am_nN ?_)
            | (refine am_nS ?_)
            | (refine am_mN ?_)
            | (refine am_mS ?_)
            | (refine And.intro (fun hb => absurd hb (by omega)) (fun hb => ?_))
            | (refine And.intro (fun hb => ?_) (fun hb => absurd hb (by omega)))
            | (refine And.intro (fun hb => ?_) (fun hb => ?_))
            | (intro hb)
            | (refine am_if_mk (x_i _) ?_)
            | (simp only [x_l, x_b, x_q, x_m, x_c, x_r, x_R, x_z, x_3])
            | (conv => whnf)))
          refine hK (s_T_isOf x1 h1 xk (fun r hr => ?_))
          iterate 30 (all_goals (first
            | (refine And.intro (by omega) ?_)
            | (refine And.intro (fun hb => absurd hb (by omega)) (fun hb => ?_))
            | (refine And.intro (fun hb => ?_) (fun hb => absurd hb (by omega)))
            | (refine And.intro (fun hb => ?_) (fun hb => ?_))
            | (intro hb)
            | (conv => whnf)))
          · rw [show m_of (V 90 k) b = 0 by unfold m_of; rw [if_neg (by omega)], Int.add_zero] at ih
            exact hS (ih _)
          · rw [show m_of (V 90 k) b = 1 by unfold m_of; rw [if_pos (by omega)]] at ih
            exact hS (ih _)
  refine am_run 400 mt_F_countThings ok_F_countThings (fun K S hK hS => ?_)
  iterate 30 (all_goals (first
    | (refine And.intro (by omega) ?_)
    | (refine And.intro (fun hb => absurd hb (by omega)) (fun hb => ?_))
    | (refine And.intro (fun hb => ?_) (fun hb => absurd hb (by omega)))
    | (refine And.intro (fun hb => ?_) (fun hb => ?_))
    | (intro hb)
    | (conv => whnf)))
  exact hS (loop 11 0 _ (by omega) (by omega) (by omega))
theorem s_M_count {G : am_G} {d : Nat} {sh : Int → Option Nat} {V : am_V} {T : Nat} {Q : Option AV → am_V → am_T → Nat → Prop} {w : Int} (h0 : am_in32 w) (h8 : ∀ s, 0 ≤ s → s < 8 → am_in32 (V 87 s)) (h10 : ∀ s, 0 ≤ s → s < 10 → am_in32 (V 90 s)) (hQ : ∀ r, ((w = 0 ∧ r = m_ct (fun s => if V 87 s < 0 then 0 else 1) 8) ∨ ((1 ≤ w ∧ w ≤ 5) ∧ r = m_ct (fun k => m_of (V 90 k) (w - 1)) 10) ∨ (w = 6 ∧ r = V 86 2) ∨ (¬ (0 ≤ w ∧ w ≤ 6) ∧ r = -1000001)) → Q (some (vI r)) (am_up V 86 0 0) (am_RF sh) T) : am_Calls G (d + 2) 137 [vR 86, vI w] V (am_RF sh) T Q := by
  refine am_enter mt_M_count ok_M_count rfl ?_
  have e87 : ∀ k, am_up V 86 0 0 87 k = V 87 k := fun k => by simp +decide [am_up_ne, am_up_at, reduceIte]
  have e90 : ∀ k, am_up V 86 0 0 90 k = V 90 k := fun k => by simp +decide [am_up_ne, am_up_at, reduceIte]
  have e86 : am_up V 86 0 0 86 2 = V 86 2 := by simp +decide [am_up_ne, am_up_at, reduceIte]
  have loop1 : w = 0 → ∀ (j : Nat) (k : Int), 0 ≤ k → k ≤ 8 → 8 - k < j → am_Sem G (d + 1) 137 V T Q 54 [some (vR 86), some (vI w), some (vI (m_ct (fun s => if V 87 s < 0 then 0 else 1) k.toNat)), some (vI k)] [] (am_up V 86 0 0) (am_RF sh) T 0 0 := by
    intro hw j
    induction j with
    | zero => intro k a b c; omega
    | succ j ih =>
      intro k a b c
      by_cases hk : k = 8
      · subst hk
        refine am_run 400 mt_M_count ok_M_count (fun K S hK hS => ?_)
        iterate 30 (all_goals (first
          | (refine And.intro (by omega) ?_)
          | (refine And.intro (fun hb => absurd hb (by omega)) (fun hb => ?_))
          | (refine And.intro (fun hb => ?_) (fun hb => absurd hb (by omega)))
          | (refine And.intro (fun hb => ?_) (fun hb => ?_))
          | (intro hb)
          | (conv => whnf)))
        exact hQ _ (Or.inl ⟨hw, rfl⟩)
      · have rk := h8 k a (by omega)
        have ih := ih (k + 1) (by omega) (by omega) (by omega)
        rw [m_ct_S _ _ a] at ih
        refine am_run 400 mt_M_count ok_M_count (fun K S hK hS => ?_)
        iterate 30 (all_goals (first
          | (refine And.intro (by omega) ?_)
          | (refine And.intro (by decide) ?_)
          | (refine And.intro (rk) ?_)
          | (refine And.intro (fun hb => absurd hb (by omega)) (fun hb => ?_))
          | (refine And.intro (fun hb => ?_) (fun hb => absurd hb (by omega)))
          | (refine And.intro (fun hb => ?_) (fun hb => ?_))
          | (intro hb)
          | (simp only [e87])
          | (conv => whnf)))
        · have e : V 87 k < 0 := by assumption
          rw [if_pos e] at ih
          exact hS ih
        · have e : 0 ≤ V 87 k := by assumption
          rw [if_neg (by omega)] at ih
          exact hS ih
  have loop2 : (1 ≤ w ∧ w ≤ 5) → ∀ (j : Nat) (k : Int), 0 ≤ k → k ≤ 10 → 10 - k < j → am_Sem G (d + 1) 137 V T Q 87 [some (vR 86), some (vI w), some (vI (m_ct (fun k => m_of (V 90 k) (w - 1)) k.toNat)), some (vI k)] [] (am_up V 86 0 0) (am_RF sh) T 0 0 := by
    intro hw j
    induction j with
    | zero => intro k a b c; omega
    | succ j ih =>
      intro k a b c
      by_cases hk : k = 10
      · subst hk
        refine am_run 400 mt_M_count ok_M_count (fun K S hK hS => ?_)
        iterate 30 (all_goals (first
          | (refine And.intro (by omega) ?_)
          | (refine And.intro (fun hb => absurd hb (by omega)) (fun hb => ?_))
          | (refine And.intro (fun hb => ?_) (fun hb => absurd hb (by omega)))
          | (refine And.intro (fun hb => ?_) (fun hb => ?_))
          | (intro hb)
          | (conv => whnf)))
        exact hQ _ (Or.inr (Or.inl ⟨hw, rfl⟩))
      · have rk := h10 k a (by omega)
        have ih := ih (k + 1) (by omega) (by omega) (by omega)
        rw [m_ct_S _ _ a] at ih
        refine am_run 400 mt_M_count ok_M_count (fun K S hK hS => ?_)
        iterate 30 (all_goals (first
          | (refine And.intro (by omega) ?_)
          | (refine And.intro (by decide) ?_)
          | (refine And.intro (fun hb => absurd hb (by omega)) (fun hb => ?_))
          | (refine And.intro (fun hb => ?_) (fun hb => absurd hb (by omega)))
          | (refine And.intro (fun hb => ?_) (fun hb => ?_))
          | (intro hb)
          | (simp only [e90])
          | (conv => whnf)))
        refine hK (s_M_isOf rk (by omega) (fun r hr => ?_))
        iterate 30 (all_goals (first
          | (refine And.intro (by omega) ?_)
          | (refine And.intro (fun hb => absurd hb (by omega)) (fun hb => ?_))
          | (refine And.intro (fun hb => ?_) (fun hb => absurd hb (by omega)))
          | (refine And.intro (fun hb => ?_) (fun hb => ?_))
          | (intro hb)
          | (conv => whnf)))
        · rw [show m_of (V 90 k) (w - 1) = 0 by unfold m_of; rw [if_neg (by omega)]] at ih
          exact hS ih
        · rw [show m_of (V 90 k) (w - 1) = 1 by unfold m_of; rw [if_pos (by omega)]] at ih
          exact hS ih
  refine am_run 400 mt_M_count ok_M_count (fun K S hK hS => ?_)
  iterate 40 (all_goals (first
    | (refine And.intro (by omega) ?_)
    | (refine And.intro (by decide) ?_)
    | (refine And.intro (fun hb => absurd hb (by omega)) (fun hb => ?_))
    | (refine And.intro (fun hb => ?_) (fun hb => absurd hb (by omega)))
    | (refine And.intro (fun hb => ?_) (fun hb => ?_))
    | (intro hb)
    | (simp only [e86])
    | (conv => whnf)))
  all_goals first
    | exact hS (loop1 (by omega) 9 0 (by omega) (by omega) (by omega))
    | exact hS (loop2 (by omega) 11 0 (by omega) (by omega) (by omega))
    | exact hQ _ (Or.inr (Or.inr (Or.inl ⟨by omega, rfl⟩)))
    | exact hQ _ (Or.inr (Or.inr (Or.inr ⟨by omega, rfl⟩)))
theorem pr_count {G : am_G} {d : Nat} {sh : Int → Option Nat} {V : am_V} {T : Nat} {p : Int} {f0 : Int → Int} {w : Int} (hI : II V sh T p f0) (h0 : am_in32 w) : am_Calls G (d + 9) 28 [vR 3, vI w] V (am_RF sh) T (pr_int G (d + 9) 137 [vR 86, vI w] p f0) := by
  have hJ := hI.1
  have hVV := iv_rng hJ.2.2.2.1
  obtain ⟨p1, p2, p3, p4, p5, p6, p7⟩ := hJ.2.2.2.2.2.2.1
  have fin : ∀ r, am_in32 r → ((w = 0 ∧ r = m_ct (fun s => if V 14 s = -1 then 0 else 1) 8) ∨ ((1 ≤ w ∧ w ≤ 5) ∧ r = m_ct (fun k => m_of (V 90 k) (w - 1)) 10) ∨ (w = 6 ∧ r = p) ∨ (¬ (0 ≤ w ∧ w ≤ 6) ∧ r = -1000001)) → pr_int G (d + 9) 137 [vR 86, vI w] p f0 (some (vI r)) V (am_RF sh) T := by
    intro r hr hrr
    refine pr_i hr hJ.1 (s_M_count h0 (fun s a b => ?_) (fun s a b => ?_) (fun r' hr' => ?_))
    · have := hJ.2.1 s a b
      omega
    · rcases hVV s a b with q | ⟨q1, q2, -⟩ <;> constructor <;> omega
    · have es : m_ct (fun s => if V 87 s < 0 then 0 else 1) 8 = m_ct (fun s => if V 14 s = -1 then 0 else 1) 8 := m_ct_eq 8 (fun s a b => by
        have := hJ.2.1 s a b
        by_cases q : V 14 s = -1
        · rw [if_pos q, if_pos (by omega)]
        · rw [if_neg q, if_neg (by omega)])
      rw [es, p2] at hr'
      have er : r' = r := by omega
      rw [er]
      exact pr_k (II_bad hI)
  have c1 := m_ct_rng (f := fun s => if V 14 s = -1 then (0 : Int) else 1) 8 (fun i => by show 0 ≤ (if V 14 i = -1 then (0 : Int) else 1) ∧ (if V 14 i = -1 then (0 : Int) else 1) ≤ 1; split <;> omega)
  have c2 := fun b => m_ct_rng (f := fun k => m_of (V 90 k) b) 10 (fun i => m_of_rng _ _)
  have c3 : ∀ b, am_in32 (m_ct (fun k => m_of (V 90 k) b) 10) := fun b => by have := c2 b; constructor <;> omega
  refine am_enter mt_F_count ok_F_count rfl ?_
  refine am_run 400 mt_F_count ok_F_count (fun K S hK hS => ?_)
  iterate 30 (all_goals (first
    | (refine And.intro (by omega) ?_)
    | (refine And.intro (by decide) ?_)
    | (refine And.intro (fun hb => absurd hb (by omega)) (fun hb => ?_))
    | (refine And.intro (fun hb => ?_) (fun hb => absurd hb (by omega)))
    | (refine And.intro (fun hb => ?_) (fun hb => ?_))
    | (intro hb)
    | (simp only [p1])
    | (conv => whnf)))
  all_goals first
    | (refine hK (s_F_countSheets (fun s a b => ?_) ?_)
       · have := hJ.2.1 s a b
         omega
       · exact fin _ (by omega) (Or.inl ⟨by omega, rfl⟩))
    | (refine hK (s_F_countThings (by omega) hJ.2.2.2.1 ?_)
       refine fin _ ?_ (Or.inr (Or.inl ⟨by omega, ?_⟩))
       · exact c3 _
       · congr 1; funext k; congr 1; omega)
    | exact fin _ (by omega) (Or.inr (Or.inr (Or.inr ⟨by omega, rfl⟩)))
    | (rw [show Int.bmod p 4294967296 = p from Int.bmod_eq_of_le (by omega) (by omega)]
       exact fin _ (by omega) (Or.inr (Or.inr (Or.inl ⟨by omega, rfl⟩))))
