/-! a Thing is laid on both sides -/
theorem m_rgs_cut {g : Int → Int} {n k : Int} (h : m_rgs g n) (hk : k ≤ n) : m_rgs g k := fun i a b => h i a (by omega)
theorem m_rgs_uniq {g h : Int → Int} {n : Int} (hg : m_rgs g n) (hh : m_rgs h n) (e : ∀ i j, 0 ≤ i → i < n → 0 ≤ j → j < n → (g i = g j ↔ h i = h j)) : ∀ (m : Nat) (k : Int), k ≤ m → 0 ≤ k → k < n → g k = h k := by
  intro m
  induction m with
  | zero =>
    intro k h1 h2 h3
    obtain rfl : k = 0 := by omega
    have a := m_rgs_lt hg h2 h3
    have b := m_rgs_lt hh h2 h3
    omega
  | succ m ih =>
    intro k h1 h2 h3
    have ih' : ∀ j, 0 ≤ j → j < k → g j = h j := fun j a b => ih j (by omega) a (by omega)
    by_cases c : ∃ j, 0 ≤ j ∧ j < k ∧ g j = g k
    · obtain ⟨j, j1, j2, j3⟩ := c
      have := (e j k j1 (by omega) h2 h3).mp j3
      rw [← j3, ← this, ih' j j1 j2]
    · have c1 : ∀ j, 0 ≤ j → j < k → g j ≠ g k := fun j a b q => c ⟨j, a, b, q⟩
      have c2 : ∀ j, 0 ≤ j → j < k → h j ≠ h k := fun j a b q => c1 j a b ((e j k a (by omega) h2 h3).mpr q)
      rcases Int.lt_trichotomy (g k) (h k) with q | q | q
      · exfalso
        obtain ⟨b1, b2 | ⟨j, j1, j2, j3⟩⟩ := hh k h2 h3
        · have := (hg k h2 h3).1
          omega
        · have := (hg k h2 h3).1
          obtain ⟨y, y1, y2, y3⟩ := m_rgs_all (m_rgs_cut hh (by omega : k ≤ n)) (h j - g k).toNat j (g k) j1 j2 this (by omega) (by omega)
          exact c1 y y1 y2 (by rw [ih' y y1 y2]; exact y3)
      · exact q
      · exfalso
        obtain ⟨b1, b2 | ⟨j, j1, j2, j3⟩⟩ := hg k h2 h3
        · have := (hh k h2 h3).1
          omega
        · have := (hh k h2 h3).1
          obtain ⟨y, y1, y2, y3⟩ := m_rgs_all (m_rgs_cut hg (by omega : k ≤ n)) (g j - h k).toNat j (h k) j1 j2 this (by omega) (by omega)
          exact c2 y y1 y2 (by rw [← ih' y y1 y2]; exact y3)
theorem m_rgs_same {g h : Int → Int} {n : Int} (hg : m_rgs g n) (hh : m_rgs h n) (e : ∀ i j, 0 ≤ i → i < n → 0 ≤ j → j < n → (g i = g j ↔ h i = h j)) : ∀ k, 0 ≤ k → k < n → g k = h k := fun k a b => m_rgs_uniq hg hh e k.toNat k (by omega) a b
theorem m_rgs_eq {g h : Int → Int} {n : Int} (hg : m_rgs g n) (e : ∀ k, 0 ≤ k → k < n → g k = h k) : m_rgs h n := by
  intro k a b
  rw [← e k a b]
  obtain ⟨h1, h2 | ⟨j, j1, j2, j3⟩⟩ := hg k a b
  · exact ⟨h1, Or.inl h2⟩
  · exact ⟨h1, Or.inr ⟨j, j1, j2, by rw [← e j j1 (by omega)]; exact j3⟩⟩
theorem m_Cr_eq {g h : Int → Int} {n : Int} (e : ∀ k, 0 ≤ k → k < n → g k = h k) (w : m_Cr g n) : m_Cr h n := by
  obtain ⟨a, b, c, f, q0, q1, q2, q3, q4, q5, q6, q7⟩ := w
  refine ⟨a, b, c, f, q0, q1, q2, q3, q4, ?_, ?_, ?_⟩
  · rw [← e b (by omega) (by omega), ← e f (by omega) (by omega)]; exact q5
  · rw [← e c (by omega) (by omega), ← e f (by omega) (by omega)]; exact q6
  · rw [← e a (by omega) (by omega), ← e c (by omega) (by omega)]; exact q7
theorem m_rows_eq {g h : Int → Int} {n : Int} (e : ∀ k, 0 ≤ k → k < n → g k = h k) (w : m_rows g n) : m_rows h n := by
  intro k a b
  rw [← e k (by omega) b, ← e (k - 1) (by omega) (by omega)]
  exact w k a b
theorem m_prs_eq {g h : Int → Int} {n : Int} (e : ∀ k, 0 ≤ k → k < n → g k = h k) (w : m_prs g n) : m_prs h n := by
  intro i a b
  rw [← e i a b, ← m_cg_eq n.toNat (fun k c1 c2 => e k c1 (by omega))]
  exact w i a b
theorem m_kd_eq {g h : Int → Int} {n r : Int} (e : ∀ k, 0 ≤ k → k < n → g k = h k) (w : m_kd g n r) : m_kd h n r := by
  have e' : ∀ k, 0 ≤ k → k < n → h k = g k := fun k a b => (e k a b).symm
  rcases w with ⟨a, b, c⟩ | ⟨a, b, c, f⟩ | ⟨a, b, c, f⟩ | ⟨a, b, c⟩ | ⟨a, b, c⟩
  · exact Or.inl ⟨a, fun q => b (m_Cr_eq e' q), m_rows_eq e c⟩
  · exact Or.inr (Or.inl ⟨a, fun q => b (m_Cr_eq e' q), fun q => c (m_rows_eq e' q), m_prs_eq e f⟩)
  · exact Or.inr (Or.inr (Or.inl ⟨a, fun q => b (m_Cr_eq e' q), fun q => c (m_rows_eq e' q), fun q => f (m_prs_eq e' q)⟩))
  · exact Or.inr (Or.inr (Or.inr (Or.inl ⟨a, m_Cr_eq e b, m_prs_eq e c⟩)))
  · exact Or.inr (Or.inr (Or.inr (Or.inr ⟨a, m_Cr_eq e b, fun q => c (m_prs_eq e' q)⟩)))
theorem m_kd_uniq {g : Int → Int} {n r r' : Int} (w : m_kd g n r) (w' : m_kd g n r') : r = r' := by
  rcases w with ⟨a, b, c⟩ | ⟨a, b, c, f⟩ | ⟨a, b, c, f⟩ | ⟨a, b, c⟩ | ⟨a, b, c⟩ <;> rcases w' with ⟨a', b', c'⟩ | ⟨a', b', c', f'⟩ | ⟨a', b', c', f'⟩ | ⟨a', b', c'⟩ | ⟨a', b', c'⟩ <;> first | (exact a.trans a'.symm) | contradiction
/-- the class has made a Thing at T and put it on the shelf, the reference has laid its row -/
theorem II_lay {p k n r : Int} {f0 : Int → Int} {sh : Int → Option Nat} {V V1 V2 : am_V} {T T' : Nat} {g : Int → Int} (h : II V sh T p f0) (hk : 0 ≤ k ∧ k < 10) (hT' : th_pl T') (hTT : T ≤ T')
    (c1 : ∀ x, ns x → x < T → V1 x = V x) (c3 : ∀ j, j ≠ 17 → V1 3 j = V 3 j) (c17 : V1 3 17 = 0) (c65 : V1 65 = V 65 ∧ V1 76 = V 76) (c86 : ∀ j, j ≠ 0 → j ≠ 1 → V1 86 j = V 86 j) (c4 : th_ok V1 T' n)
    (g1 : m_rgs g n) (g2 : ∀ i j, 0 ≤ i → i < n → 0 ≤ j → j < n → (g i = g j ↔ V1 (T' + 1) i = V1 (T' + 1) j)) (g3 : m_kd g n r)
    (e90 : V2 90 k = r) (e90' : ∀ j, j ≠ k → V2 90 j = V1 90 j) (e91 : V2 91 k = n) (e91' : ∀ j, j ≠ k → V2 91 j = V1 91 j) (e92 : ∀ j, 0 ≤ j → j < n → V2 92 (10 * k + j) = g j) (e92' : ∀ j, ¬ (10 * k ≤ j ∧ j < 10 * k + n) → V2 92 j = V1 92 j)
    (e86 : V2 86 1 = 0) (e86' : ∀ j, j ≠ 0 → j ≠ 1 → V2 86 j = V1 86 j) (eo : ∀ a, a ≠ 86 → a ≠ 90 → a ≠ 91 → a ≠ 92 → a ≠ 93 → a ≠ 94 → V2 a = V1 a) : r = V1 T' 4 ∧ II V2 (th_set sh k (some T')) (T' + 2) p f0 := by
  obtain ⟨hJ, hst⟩ := h
  have hT := hJ.2.2.2.1.1
  have t0 := hT.1
  have t1 := hT'.1
  have t2 := hT'.2
  obtain ⟨o1, o2, o3, o4, o5, o6⟩ := c4
  have eg := m_rgs_same g1 o3 g2
  have er : r = V1 T' 4 := m_kd_uniq (m_kd_eq eg g3) o6
  have f1 : V2 T' = V1 T' := eo T' (by omega) (by omega) (by omega) (by omega) (by omega) (by omega)
  have f2 : V2 (T' + 1) = V1 (T' + 1) := eo (T' + 1) (by omega) (by omega) (by omega) (by omega) (by omega) (by omega)
  refine ⟨er, IJ_tg hJ (fun a q q1 q2 q3 q4 => by rw [eo a q.2.1 q1 q2 q3 (by omega) (by omega), c1 a q (by omega)]) (fun j q => by rw [eo 3 (by decide) (by decide) (by decide) (by decide) (by decide) (by decide), c3 j q]) (fun j q1 q2 => by rw [e86' j q1 q2, c86 j q1 q2]) (fun j _ _ => by rw [eo 65 (by decide) (by decide) (by decide) (by decide) (by decide) (by decide), eo 76 (by decide) (by decide) (by decide) (by decide) (by decide) (by decide), c65.1, c65.2]; exact ⟨rfl, rfl⟩) ⟨⟨by omega, by omega⟩, fun x a b => ?_⟩, ?_⟩
  · by_cases e : x = k
    · subst e
      refine Or.inr ⟨T', n, ?_, hT', by omega, th_ok_eq ⟨o1, o2, o3, o4, o5, o6⟩ f1 f2, ?_, e91, fun j a b => ?_⟩
      · unfold th_set
        rw [if_pos rfl]
      · rw [e90, f1]; exact er
      · rw [e92 j a b, f2, eg j a b]
    · have d90 : V1 90 = V 90 := c1 90 (by decide) (by omega)
      have d91 : V1 91 = V 91 := c1 91 (by decide) (by omega)
      have d92 : V1 92 = V 92 := c1 92 (by decide) (by omega)
      rcases hJ.2.2.2.1.2 x a b with ⟨q1, q2⟩ | ⟨c, m, q1, q2⟩
      · refine Or.inl ⟨?_, by rw [e90' x e, d90]; exact q2⟩
        unfold th_set
        rw [if_neg e]
        exact q1
      · have hm := q2.2.2.1.2.1
        refine Or.inr ⟨c, m, ?_, iv_th_eq q2 (by rw [e90' x e, d90]) (by rw [e91' x e, d91]) (fun j _ _ => by rw [e92' _ (by omega), d92]) (fun z z1 z2 => by rw [eo z (by omega) (by omega) (by omega) (by omega) (by omega) (by omega), c1 z (by omega) z2]) (by omega)⟩
        unfold th_set
        rw [if_neg e]
        exact q1
  · unfold iv_st
    rw [e86, eo 3 (by decide) (by decide) (by decide) (by decide) (by decide) (by decide), c17]
    exact ⟨rfl, by omega, by omega⟩
