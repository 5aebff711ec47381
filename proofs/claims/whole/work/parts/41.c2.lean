/-! the class: Things -/
def th_pl (a : Nat) : Prop := 107 ≤ a ∧ (a - 107) % 2 = 0
theorem th_lay {a : Nat} (h : th_pl a) : am_lay a = (13, 5, 0, 0) := by
  unfold am_lay
  rw [show Nat.ble 107 a = true from Nat.ble_eq_true_of_le h.1, h.2]
theorem th_lay1 {a : Nat} (h : th_pl a) : am_lay (a + 1) = (0, 10, 0, 0) := by
  have h0 := h.1
  have h1 := h.2
  unfold am_lay
  rw [show Nat.ble 107 (a + 1) = true from Nat.ble_eq_true_of_le (by omega), show (a + 1 - 107) % 2 = 1 by omega]
theorem th_b15 {a : Nat} (h : 107 ≤ a) : Nat.beq a 15 = false := by
  cases e : Nat.beq a 15 with
  | false => rfl
  | true => have := Nat.eq_of_beq_eq_true e; omega
theorem th_RFk {sh : Int → Option Nat} {a : Nat} (h : th_pl a) (k : Int) : am_RF sh a k = if k = 2 then some (a + 1) else none := by
  unfold am_RF
  rw [th_b15 h.1, show Nat.ble 107 a = true from Nat.ble_eq_true_of_le h.1, h.2]
  show (match k with | 2 => some (a + 1) | _ => none) = _
  split
  · rfl
  · rename_i q
    rw [if_neg q]
theorem th_RF {sh : Int → Option Nat} {a : Nat} (h : th_pl a) : am_RF sh a 2 = some (a + 1) := by rw [th_RFk h, if_pos rfl]
theorem th_RF1 {sh : Int → Option Nat} {a : Nat} (h : th_pl a) (k : Int) : am_RF sh (a + 1) k = none := by
  have h0 := h.1
  have h1 := h.2
  unfold am_RF
  rw [th_b15 (by omega), show Nat.ble 107 (a + 1) = true from Nat.ble_eq_true_of_le (by omega), show (a + 1 - 107) % 2 = 1 by omega]
theorem th_RFnew {sh : Int → Option Nat} {a : Nat} (h : th_pl a) : am_upR (am_zeroR (am_zeroR (am_RF sh) a) (a + 1)) a 2 (some (a + 1)) = am_RF sh := by
  funext b k
  by_cases e : b = a
  · subst e
    rw [am_upR_at, th_RFk h]
    by_cases e2 : k = 2
    · rw [if_pos e2, if_pos e2]
    · rw [if_neg e2, if_neg e2, am_zeroR_ne (by omega)]
      unfold am_zeroR
      rw [if_pos rfl]
  · rw [am_upR_ne e]
    by_cases e2 : b = a + 1
    · subst e2
      rw [th_RF1 h]
      unfold am_zeroR
      rw [if_pos rfl]
    · rw [am_zeroR_ne e2, am_zeroR_ne e]
theorem am_up_same {V : am_V} {a : Nat} {k x : Int} : am_up V a k x a k = x := by rw [am_up_at, if_pos rfl]
theorem th_ble {a : Nat} (h : th_pl a) : Nat.ble 107 a = true := Nat.ble_eq_true_of_le h.1
theorem th_beq {a : Nat} (h : th_pl a) : Nat.beq ((a - 107) % 2) 0 = true := by rw [h.2]; rfl
theorem th_ble1 {a : Nat} (h : th_pl a) : Nat.ble 107 (a + 1) = true := Nat.ble_eq_true_of_le (by have := h.1; omega)
theorem th_beq1 {a : Nat} (h : th_pl a) : Nat.beq ((a + 1 - 107) % 2) 0 = false := by
  have h0 := h.1
  have h1 := h.2
  rw [show (a + 1 - 107) % 2 = 1 by omega]; rfl
theorem th_ble3 {a : Nat} (h : th_pl a) : Nat.ble 3 (a + 1) = true := Nat.ble_eq_true_of_le (by have := h.1; omega)
theorem am_if_mk {b : Bool} {P : Prop} (h : b = true) (q : P) : am_if b P := by rw [h]; exact q
theorem th_isr {a : Nat} (h : th_pl a) (r : List AV) : am_isr 3 (vR a :: r) = true := by
  show Nat.beq (am_lay a).1 13 = true
  rw [th_lay h]
  rfl
/-- the row of a Thing -/
def th_pc (c : Nat) : Prop := 108 ≤ c ∧ th_pl (c - 1)
theorem th_pc_of {a : Nat} (h : th_pl a) : th_pc (a + 1) := ⟨by have := h.1; omega, h⟩
theorem th_pc0 {c : Nat} (h : th_pc c) : 108 ≤ c := h.1
theorem th_pclay {c : Nat} (h : th_pc c) : am_lay c = (0, 10, 0, 0) := by have := th_lay1 h.2; rwa [Nat.sub_add_cancel (by have := h.1; omega)] at this
theorem th_pcble {c : Nat} (h : th_pc c) : Nat.ble 107 c = true := Nat.ble_eq_true_of_le (by have := h.1; omega)
theorem th_pcbeq {c : Nat} (h : th_pc c) : Nat.beq ((c - 107) % 2) 0 = false := by have := th_beq1 h.2; rwa [Nat.sub_add_cancel (by have := h.1; omega)] at this
theorem th_pcz {c : Nat} (h : th_pc c) : Nat.beq c 0 = false := by
  have := h.1
  cases e : Nat.beq c 0 with
  | false => rfl
  | true => have := Nat.eq_of_beq_eq_true e; omega
theorem th_pc3 {c : Nat} (h : th_pc c) : Nat.ble 3 c = true := Nat.ble_eq_true_of_le (by have := h.1; omega)
theorem m_cg_le (g : Int → Int) (b : Int) : ∀ n : Nat, 0 ≤ m_cg g b n ∧ m_cg g b n ≤ n
  | 0 => ⟨Int.le_refl _, Int.le_refl _⟩
  | n + 1 => by
    have := m_cg_le g b n
    unfold m_cg
    split <;> omega
theorem m_cg_eq {g h : Int → Int} {b : Int} : ∀ n : Nat, (∀ i : Int, 0 ≤ i → i < n → g i = h i) → m_cg g b n = m_cg h b n
  | 0, _ => rfl
  | n + 1, e => by
    unfold m_cg
    rw [m_cg_eq n (fun i a b => e i a (by omega)), e n (by omega) (by omega)]
theorem m_cg_S (g : Int → Int) (b k : Int) (h : 0 ≤ k) : m_cg g b (k + 1).toNat = m_cg g b k.toNat + (if g k = b then 1 else 0) := by
  rw [show (k + 1).toNat = k.toNat + 1 by omega, m_cg, show ((k.toNat : Nat) : Int) = k by omega]
/-- how many blocks -/
def m_nb (g : Int → Int) (n r : Int) : Prop := 0 ≤ r ∧ (∀ i, 0 ≤ i → i < n → g i < r) ∧ (r = 0 ∨ ∃ i, 0 ≤ i ∧ i < n ∧ g i + 1 = r)
theorem m_nb_uniq {g : Int → Int} {n r r' : Int} (h : m_nb g n r) (h' : m_nb g n r') : r = r' := by
  obtain ⟨a1, a2, a3⟩ := h
  obtain ⟨b1, b2, b3⟩ := h'
  rcases a3 with a3 | ⟨i, i1, i2, i3⟩ <;> rcases b3 with b3 | ⟨j, j1, j2, j3⟩
  · omega
  · have := a2 j j1 j2; omega
  · have := b2 i i1 i2; omega
  · have := a2 j j1 j2
    have := b2 i i1 i2
    omega
/-- numbered so far: row g by the likes of row h, k points, next number -/
def m_num (g h : Int → Int) (k next : Int) : Prop := m_rgs g k ∧ (∀ i j, 0 ≤ i → i < k → 0 ≤ j → j < k → (g i = g j ↔ h i = h j)) ∧ (0 ≤ next ∧ next ≤ k) ∧ (∀ i, 0 ≤ i → i < k → g i < next) ∧ (next = 0 ∨ ∃ i, 0 ≤ i ∧ i < k ∧ g i + 1 = next)
theorem m_num_zero (g h : Int → Int) : m_num g h 0 0 := ⟨fun k a b => absurd b (by omega), fun i j a b => absurd b (by omega), ⟨by omega, by omega⟩, fun i a b => absurd b (by omega), Or.inl rfl⟩
theorem m_num_nb {g h : Int → Int} {k next : Int} (w : m_num g h k next) : m_nb g k next := ⟨w.2.2.1.1, w.2.2.2.1, w.2.2.2.2⟩
theorem m_num_rel {g g' h : Int → Int} {k v : Int} (w : ∀ i j, 0 ≤ i → i < k → 0 ≤ j → j < k → (g i = g j ↔ h i = h j)) (at_lt : ∀ i, i < k → g' i = g i) (at_k : g' k = v) (key : ∀ i, 0 ≤ i → i < k → (g i = v ↔ h i = h k)) : ∀ i j, 0 ≤ i → i < k + 1 → 0 ≤ j → j < k + 1 → (g' i = g' j ↔ h i = h j) := by
  intro i i' a1 a2 a3 a4
  by_cases e : i = k <;> by_cases e' : i' = k
  · subst e; subst e'; simp
  · subst e
    rw [at_k, at_lt i' (by omega)]
    have := key i' a3 (by omega)
    constructor
    · intro h; exact (this.mp h.symm).symm
    · intro h; exact (this.mpr h.symm).symm
  · subst e'
    rw [at_k, at_lt i (by omega)]
    exact key i a1 (by omega)
  · rw [at_lt i (by omega), at_lt i' (by omega)]
    exact w i i' a1 (by omega) a3 (by omega)
theorem m_num_new {g g' h : Int → Int} {k next : Int} (w : m_num g h k next) (hk : 0 ≤ k) (hne : ∀ i, 0 ≤ i → i < k → h i ≠ h k) (at_lt : ∀ i, i < k → g' i = g i) (at_k : g' k = next) : m_num g' h (k + 1) (next + 1) := by
  obtain ⟨w2, w3, w45, w6, w7⟩ := w
  refine ⟨fun i a b => ?_, m_num_rel w3 at_lt at_k (fun i a b => ⟨fun e => absurd (w6 i a b) (by omega), fun e => absurd e (hne i a b)⟩), by omega, fun i a b => ?_, Or.inr ⟨k, hk, by omega, by rw [at_k]⟩⟩
  · by_cases e : i = k
    · subst e
      rw [at_k]
      refine ⟨by omega, ?_⟩
      rcases w7 with w | ⟨z, z1, z2, z3⟩
      · exact Or.inl (by omega)
      · exact Or.inr ⟨z, z1, z2, by rw [at_lt z z2]; omega⟩
    · obtain ⟨z1, z2⟩ := w2 i a (by omega)
      rw [at_lt i (by omega)]
      exact ⟨z1, z2.elim Or.inl (fun ⟨y, y1, y2, y3⟩ => Or.inr ⟨y, y1, y2, by rw [at_lt y (by omega)]; exact y3⟩)⟩
  · by_cases e : i = k
    · subst e
      rw [at_k]; omega
    · rw [at_lt i (by omega)]
      have := w6 i a (by omega)
      omega
theorem m_num_old {g g' h : Int → Int} {k next o : Int} (w : m_num g h k next) (hk : 0 ≤ k) (o0 : 0 ≤ o) (o1 : o < k) (ho : h o = h k) (at_lt : ∀ i, i < k → g' i = g i) (at_k : g' k = g o) : m_num g' h (k + 1) next := by
  obtain ⟨w2, w3, w45, w6, w7⟩ := w
  refine ⟨fun i a b => ?_, m_num_rel w3 at_lt at_k (fun i a b => by rw [w3 i o a b o0 o1, ho]), by omega, fun i a b => ?_, ?_⟩
  · by_cases e : i = k
    · subst e
      rw [at_k]
      obtain ⟨z0, z⟩ := w2 o o0 o1
      refine ⟨z0, ?_⟩
      rcases z with z | ⟨y, y1, y2, y3⟩
      · exact Or.inl (by omega)
      · exact Or.inr ⟨y, y1, by omega, by rw [at_lt y (by omega)]; omega⟩
    · obtain ⟨z1, z2⟩ := w2 i a (by omega)
      rw [at_lt i (by omega)]
      exact ⟨z1, z2.elim Or.inl (fun ⟨y, y1, y2, y3⟩ => Or.inr ⟨y, y1, y2, by rw [at_lt y (by omega)]; exact y3⟩)⟩
  · by_cases e : i = k
    · subst e
      rw [at_k]
      exact w6 o o0 o1
    · rw [at_lt i (by omega)]
      exact w6 i a (by omega)
  · rcases w7 with w | ⟨z, z1, z2, z3⟩
    · exact Or.inl (by omega)
    · exact Or.inr ⟨z, z1, by omega, by rw [at_lt z z2]; omega⟩
theorem s_T_numberBlocks {G : am_G} {d : Nat} {V : am_V} {R : am_T} {T : Nat} {Q : Option AV → am_V → am_T → Nat → Prop} {c : Nat} {n : Int} (hc : th_pc c) (h1 : 0 ≤ n ∧ n ≤ 10) (hr : ∀ i, 0 ≤ i → i < n → am_in32 (V 30 i)) (hQ : ∀ V' r, (∀ a, a ≠ c → V' a = V a) → m_num (V' c) (V 30) n r → Q (some (vI r)) V' R T) : am_Calls G (d + 1) 154 [vR 30, vI n, vR c] V R T Q := by
  have c_0 : 108 ≤ c := th_pc0 hc
  have c_m := th_pclay hc
  have c_c := th_pcble hc
  have c_r := th_pcbeq hc
  have c_z := th_pcz hc
  have c_3 := th_pc3 hc
  refine am_enter mt_T_numberBlocks ok_T_numberBlocks rfl ?_
  have loop : ∀ (j : Nat) (k next : Int) (x5 : Option AV) (W : am_V), 0 ≤ k → k ≤ n → n - k < j → (∀ a, a ≠ c → W a = V a) → m_num (W c) (V 30) k next → am_Sem G d 154 V T Q 5 [some (vR 30), some (vI n), some (vR c), some (vI next), some (vI k), x5] [] W R T 0 0 := by
    intro j
    induction j with
    | zero => intro k next x5 W h0 h1 h2; omega
    | succ j ih =>
      intro k next x5 W h0 h1 h2 w1 w2
      by_cases hkn : k = n
      · refine am_run 400 mt_T_numberBlocks ok_T_numberBlocks (fun K S hK hS => ?_)
        iterate 30 (all_goals (first
          | (refine And.intro (by omega) ?_)
          | (refine And.intro (by decide) ?_)
          | (refine And.intro (fun hb => absurd hb (by omega)) (fun hb => ?_))
          | (refine And.intro (fun hb => ?_) (fun hb => absurd hb (by omega)))
          | (refine And.intro (fun hb => ?_) (fun hb => ?_))
          | (intro hb)
          | (simp only [c_m, c_c, c_r, c_z, c_3])
          | (conv => whnf)))
        rw [hkn] at w2
        exact hQ W next w1 w2
      have e30 : ∀ i, W 30 i = V 30 i := fun i => by rw [w1 30 (by omega)]
      have rk := hr k h0 (by omega)
      rw [← e30] at rk
      have inner : ∀ (j2 : Nat) (y : Int), 0 ≤ y → y ≤ k → k - y < j2 → (∀ i, 0 ≤ i → i < y → V 30 i ≠ V 30 k) → am_Sem G d 154 V T Q 14 [some (vR 30), some (vI n), some (vR c), some (vI next), some (vI k), some (vI y)] [] W R T 0 0 := by
        intro j2
        induction j2 with
        | zero => intro y a b e; omega
        | succ j2 ih2 =>
          intro y a b e hno
          have ry : y < k → am_in32 (W 30 y) := fun q => by rw [e30]; exact hr y a (by omega)
          refine am_run 400 mt_T_numberBlocks ok_T_numberBlocks (fun K S hK hS => ?_)
          iterate 30 (all_goals (first
            | (refine And.intro (by omega) ?_)
            | (refine And.intro (by decide) ?_)
            | (refine And.intro (⟨ry (by assumption), rk⟩) ?_)
            | (refine And.intro (fun hb => absurd hb (by omega)) (fun hb => ?_))
            | (refine And.intro (fun hb => ?_) (fun hb => absurd hb (by omega)))
            | (refine And.intro (fun hb => ?_) (fun hb => ?_))
            | (intro hb)
            | (simp only [c_m, c_c, c_r, c_z, c_3])
            | (conv => whnf)))
          · have hy : y = k := by omega
            refine hS (ih (k + 1) (next + 1) _ _ (by omega) (by omega) (by omega) (fun a ha => by rw [am_up_ne ha, w1 a ha]) (m_num_new w2 h0 (fun i a1 a2 => hno i a1 (by omega)) (fun i hi => by rw [am_up_at, if_neg (by omega)]) (by rw [am_up_at, if_pos rfl])))
          · have q : W 30 y = W 30 k := by assumption
            rw [e30, e30] at q
            refine hS (ih (k + 1) next _ _ (by omega) (by omega) (by omega) (fun a ha => by rw [am_up_ne ha, w1 a ha]) (m_num_old (o := y) w2 h0 a (by omega) q (fun i hi => by rw [am_up_at, if_neg (by omega)]) (by rw [am_up_at, if_pos rfl])))
          · have q := hb
            rw [e30, e30] at q
            refine hS (ih2 (y + 1) (by omega) (by omega) (by omega) (fun i a1 a2 => ?_))
            by_cases e2 : i = y
            · rw [e2]; exact q
            · exact hno i a1 (by omega)
      refine am_run 400 mt_T_numberBlocks ok_T_numberBlocks (fun K S hK hS => ?_)
      iterate 30 (all_goals (first
        | (refine And.intro (by omega) ?_)
        | (refine And.intro (by decide) ?_)
        | (refine And.intro (fun hb => absurd hb (by omega)) (fun hb => ?_))
        | (refine And.intro (fun hb => ?_) (fun hb => absurd hb (by omega)))
        | (refine And.intro (fun hb => ?_) (fun hb => ?_))
        | (intro hb)
        | (simp only [c_m, c_c, c_r, c_z, c_3])
        | (conv => whnf)))
      exact hS (inner (k + 1).toNat 0 (by omega) (by omega) (by omega) (fun i a b => absurd b (by omega)))
  refine am_run 400 mt_T_numberBlocks ok_T_numberBlocks (fun K S hK hS => ?_)
  iterate 30 (all_goals (first
    | (refine And.intro (by omega) ?_)
    | (refine And.intro (by decide) ?_)
    | (refine And.intro (fun hb => absurd hb (by omega)) (fun hb => ?_))
    | (refine And.intro (fun hb => ?_) (fun hb => absurd hb (by omega)))
    | (refine And.intro (fun hb => ?_) (fun hb => ?_))
    | (intro hb)
    | (simp only [c_m, c_c, c_r, c_z, c_3])
    | (conv => whnf)))
  exact hS (loop (n + 1).toNat 0 0 _ V (by omega) (by omega) (by omega) (fun _ _ => rfl) (m_num_zero _ _))
theorem s_T_pointsIn {G : am_G} {d : Nat} {V : am_V} {R : am_T} {T : Nat} {Q : Option AV → am_V → am_T → Nat → Prop} {c : Nat} {n b : Int} (hc : th_pc c) (h1 : 0 ≤ n ∧ n ≤ 10) (hr : ∀ i, 0 ≤ i → i < n → am_in32 (V c i)) (hb : am_in32 b) (hQ : Q (some (vI (m_cg (V c) b n.toNat))) V R T) : am_Calls G (d + 1) 156 [vR c, vI n, vI b] V R T Q := by
  have c_0 : 108 ≤ c := th_pc0 hc
  have c_m := th_pclay hc
  have c_c := th_pcble hc
  have c_r := th_pcbeq hc
  have c_z := th_pcz hc
  have c_3 := th_pc3 hc
  refine am_enter mt_T_pointsIn ok_T_pointsIn rfl ?_
  have loop : ∀ (j : Nat) (k : Int), 0 ≤ k → k ≤ n → n - k < j → am_Sem G d 156 V T Q 5 [some (vR c), some (vI n), some (vI b), some (vI (m_cg (V c) b k.toNat)), some (vI k)] [] V R T 0 0 := by
    intro j
    induction j with
    | zero => intro k a b e; omega
    | succ j ih =>
      intro k h0 h2 h3
      by_cases hkn : k = n
      · subst hkn
        refine am_run 400 mt_T_pointsIn ok_T_pointsIn (fun K S hK hS => ?_)
        iterate 30 (all_goals (first
          | (refine And.intro (by omega) ?_)
          | (refine And.intro (by decide) ?_)
          | (refine And.intro (fun hb => absurd hb (by omega)) (fun hb => ?_))
          | (refine And.intro (fun hb => ?_) (fun hb => absurd hb (by omega)))
          | (refine And.intro (fun hb => ?_) (fun hb => ?_))
          | (intro hb)
          | (simp only [c_m, c_c, c_r, c_z, c_3])
          | (conv => whnf)))
        exact hQ
      have rk := hr k h0 (by omega)
      have ih := ih (k + 1) (by omega) (by omega) (by omega)
      rw [m_cg_S _ _ _ h0] at ih
      refine am_run 400 mt_T_pointsIn ok_T_pointsIn (fun K S hK hS => ?_)
      iterate 30 (all_goals (first
        | (refine And.intro (by omega) ?_)
        | (refine And.intro (by decide) ?_)
        | (refine And.intro (fun hb => absurd hb (by omega)) (fun hb => ?_))
        | (refine And.intro (fun hb => ?_) (fun hb => absurd hb (by omega)))
        | (refine And.intro (fun hb => ?_) (fun hb => ?_))
        | (intro hb)
        | (simp only [c_m, c_c, c_r, c_z, c_3])
        | (conv => whnf)))
      · have q := hb
        rw [if_neg q, Int.add_zero] at ih
        exact hS ih
      · have q := hb
        rw [if_pos q] at ih
        exact hS ih
  refine am_run 400 mt_T_pointsIn ok_T_pointsIn (fun K S hK hS => ?_)
  iterate 30 (all_goals (first
    | (refine And.intro (by omega) ?_)
    | (refine And.intro (by decide) ?_)
    | (refine And.intro (fun hb => absurd hb (by omega)) (fun hb => ?_))
    | (refine And.intro (fun hb => ?_) (fun hb => absurd hb (by omega)))
    | (refine And.intro (fun hb => ?_) (fun hb => ?_))
    | (intro hb)
    | (simp only [c_m, c_c, c_r, c_z, c_3])
    | (conv => whnf)))
  exact hS (loop (n + 1).toNat 0 (by omega) (by omega) (by omega))
theorem s_T_allInPairs {G : am_G} {d : Nat} {V : am_V} {R : am_T} {T : Nat} {Q : Option AV → am_V → am_T → Nat → Prop} {c : Nat} {n m : Int} (hc : th_pc c) (h1 : 0 ≤ n ∧ n ≤ 10) (h2 : 0 ≤ m ∧ m ≤ 10) (hr : ∀ i, 0 ≤ i → i < n → am_in32 (V c i)) (hQ1 : (∀ b, 0 ≤ b → b < m → m_cg (V c) b n.toNat = 2) → Q (some (vI 1)) V R T) (hQ0 : ∀ b, 0 ≤ b → b < m → m_cg (V c) b n.toNat ≠ 2 → Q (some (vI 0)) V R T) : am_Calls G (d + 2) 155 [vR c, vI n, vI m] V R T Q := by
  have c_0 : 108 ≤ c := th_pc0 hc
  have c_m := th_pclay hc
  have c_c := th_pcble hc
  have c_r := th_pcbeq hc
  have c_z := th_pcz hc
  have c_3 := th_pc3 hc
  refine am_enter mt_T_allInPairs ok_T_allInPairs rfl ?_
  have loop : ∀ (j : Nat) (k : Int), 0 ≤ k → k ≤ m → m - k < j → (∀ b, 0 ≤ b → b < k → m_cg (V c) b n.toNat = 2) → am_Sem G (d + 1) 155 V T Q 2 [some (vR c), some (vI n), some (vI m), some (vI k)] [] V R T 0 0 := by
    intro j
    induction j with
    | zero => intro k a b e; omega
    | succ j ih =>
      intro k h0 h2 h3 w
      by_cases hkn : k = m
      · subst hkn
        refine am_run 400 mt_T_allInPairs ok_T_allInPairs (fun K S hK hS => ?_)
        iterate 30 (all_goals (first
          | (refine And.intro (by omega) ?_)
          | (refine And.intro (fun hb => absurd hb (by omega)) (fun hb => ?_))
          | (refine And.intro (fun hb => ?_) (fun hb => absurd hb (by omega)))
          | (refine And.intro (fun hb => ?_) (fun hb => ?_))
          | (intro hb)
          | (conv => whnf)))
        exact hQ1 w
      have rc := m_cg_le (V c) k n.toNat
      refine am_run 400 mt_T_allInPairs ok_T_allInPairs (fun K S hK hS => ?_)
      iterate 30 (all_goals (first
        | (refine And.intro (by omega) ?_)
        | (refine And.intro (fun hb => absurd hb (by omega)) (fun hb => ?_))
        | (refine And.intro (fun hb => ?_) (fun hb => absurd hb (by omega)))
        | (refine And.intro (fun hb => ?_) (fun hb => ?_))
        | (intro hb)
        | (conv => whnf)))
      refine hK (s_T_pointsIn hc h1 hr (by omega) ?_)
      iterate 30 (all_goals (first
        | (refine And.intro (by omega) ?_)
        | (refine And.intro (fun hb => absurd hb (by omega)) (fun hb => ?_))
        | (refine And.intro (fun hb => ?_) (fun hb => absurd hb (by omega)))
        | (refine And.intro (fun hb => ?_) (fun hb => ?_))
        | (intro hb)
        | (conv => whnf)))
      · refine hS (ih (k + 1) (by omega) (by omega) (by omega) (fun b a1 a2 => ?_))
        by_cases e : b = k
        · rw [e]; assumption
        · exact w b a1 (by omega)
      · exact hQ0 k h0 (by omega) (by assumption)
  refine am_run 400 mt_T_allInPairs ok_T_allInPairs (fun K S hK hS => ?_)
  iterate 30 (all_goals (first
    | (refine And.intro (by omega) ?_)
    | (refine And.intro (fun hb => absurd hb (by omega)) (fun hb => ?_))
    | (refine And.intro (fun hb => ?_) (fun hb => absurd hb (by omega)))
    | (refine And.intro (fun hb => ?_) (fun hb => ?_))
    | (intro hb)
    | (conv => whnf)))
  exact hS (loop (m + 1).toNat 0 (by omega) (by omega) (by omega) (fun b a1 a2 => absurd a2 (by omega)))
theorem s_T_inRows {G : am_G} {d : Nat} {V : am_V} {R : am_T} {T : Nat} {Q : Option AV → am_V → am_T → Nat → Prop} {c : Nat} {n : Int} (hc : th_pc c) (h1 : 1 ≤ n ∧ n ≤ 10) (hr : ∀ i, 0 ≤ i → i < n → am_in32 (V c i)) (hQ1 : (∀ k, 1 ≤ k → k < n → V c (k - 1) ≤ V c k) → Q (some (vI 1)) V R T) (hQ0 : ∀ k, 1 ≤ k → k < n → V c k < V c (k - 1) → Q (some (vI 0)) V R T) : am_Calls G (d + 1) 158 [vR c, vI n] V R T Q := by
  have c_0 : 108 ≤ c := th_pc0 hc
  have c_m := th_pclay hc
  have c_c := th_pcble hc
  have c_r := th_pcbeq hc
  have c_z := th_pcz hc
  have c_3 := th_pc3 hc
  refine am_enter mt_T_inRows ok_T_inRows rfl ?_
  have loop : ∀ (j : Nat) (k : Int), 1 ≤ k → k ≤ n → n - k < j → (∀ i, 1 ≤ i → i < k → V c (i - 1) ≤ V c i) → am_Sem G d 158 V T Q 2 [some (vR c), some (vI n), some (vI k)] [] V R T 0 0 := by
    intro j
    induction j with
    | zero => intro k a b e; omega
    | succ j ih =>
      intro k h0 h2 h3 w
      by_cases hkn : k = n
      · subst hkn
        refine am_run 400 mt_T_inRows ok_T_inRows (fun K S hK hS => ?_)
        iterate 30 (all_goals (first
          | (refine And.intro (by omega) ?_)
          | (refine And.intro (by decide) ?_)
          | (refine And.intro (fun hb => absurd hb (by omega)) (fun hb => ?_))
          | (refine And.intro (fun hb => ?_) (fun hb => absurd hb (by omega)))
          | (refine And.intro (fun hb => ?_) (fun hb => ?_))
          | (intro hb)
          | (simp only [c_m, c_c, c_r, c_z, c_3])
          | (conv => whnf)))
        exact hQ1 w
      have r1 := hr k (by omega) (by omega)
      have r2 := hr (k - 1) (by omega) (by omega)
      refine am_run 400 mt_T_inRows ok_T_inRows (fun K S hK hS => ?_)
      iterate 30 (all_goals (first
        | (refine And.intro (by omega) ?_)
        | (refine And.intro (by decide) ?_)
        | (refine And.intro (⟨r1, r2⟩) ?_)
        | (refine And.intro (fun hb => absurd hb (by omega)) (fun hb => ?_))
        | (refine And.intro (fun hb => ?_) (fun hb => absurd hb (by omega)))
        | (refine And.intro (fun hb => ?_) (fun hb => ?_))
        | (intro hb)
        | (simp only [c_m, c_c, c_r, c_z, c_3])
        | (conv => whnf)))
      · refine hS (ih (k + 1) (by omega) (by omega) (by omega) (fun i a1 a2 => ?_))
        by_cases e : i = k
        · rw [e]; assumption
        · exact w i a1 (by omega)
      · exact hQ0 k h0 (by omega) (by assumption)
  refine am_run 400 mt_T_inRows ok_T_inRows (fun K S hK hS => ?_)
  iterate 30 (all_goals (first
    | (refine And.intro (by omega) ?_)
    | (refine And.intro (by decide) ?_)
    | (refine And.intro (fun hb => absurd hb (by omega)) (fun hb => ?_))
    | (refine And.intro (fun hb => ?_) (fun hb => absurd hb (by omega)))
    | (refine And.intro (fun hb => ?_) (fun hb => ?_))
    | (intro hb)
    | (simp only [c_m, c_c, c_r, c_z, c_3])
    | (conv => whnf)))
  exact hS (loop n.toNat 1 (by omega) (by omega) (by omega) (fun b a1 a2 => absurd a2 (by omega)))
