/-! the reference: the complement -/
/-- the points behind j up to k are whole blocks -/
def m_cl (g : Int → Int) (n j k : Int) : Prop := ∀ x y, j < x → x ≤ k → 0 ≤ y → y < n → (y ≤ j ∨ k < y) → g x ≠ g y
def m_gd (g : Int → Int) (n j k x y m : Int) : Prop := (m = 1 ∧ (∀ x' y', j < x' → x' < x → 0 ≤ y' → y' < n → (y' ≤ j ∨ k < y') → g x' ≠ g y') ∧ (∀ y', 0 ≤ y' → y' < y → (y' ≤ j ∨ k < y') → g x ≠ g y')) ∨ (m = 0 ∧ ¬ m_cl g n j k)
theorem m_gd_01 {g : Int → Int} {n j k x y m : Int} (w : m_gd g n j k x y m) : m = 0 ∨ m = 1 := by
  rcases w with ⟨a, -⟩ | ⟨a, -⟩
  · exact Or.inr a
  · exact Or.inl a
theorem m_gd_zero {g : Int → Int} {n j k x y x' y' m : Int} (w : m_gd g n j k x y m) (h : m = 0) : m_gd g n j k x' y' 0 := by
  rcases w with ⟨a, -⟩ | ⟨-, a⟩
  · omega
  · exact Or.inr ⟨rfl, a⟩
theorem m_gd_ok {g : Int → Int} {n j k x y m : Int} (w : m_gd g n j k x y m) (h : m ≠ 0) (hs : (y ≤ j ∨ k < y) → g x ≠ g y) : m_gd g n j k x (y + 1) 1 := by
  rcases w with ⟨-, a, b⟩ | ⟨a, -⟩
  · refine Or.inl ⟨rfl, a, fun y' c1 c2 c3 => ?_⟩
    by_cases e : y' = y
    · subst e; exact hs c3
    · exact b y' c1 (by omega) c3
  · omega
theorem m_gd_bad {g : Int → Int} {n j k x y x' y' : Int} (h1 : j < x) (h2 : x ≤ k) (h3 : 0 ≤ y) (h4 : y < n) (h5 : y ≤ j ∨ k < y) (h6 : g x = g y) : m_gd g n j k x' y' 0 :=
  Or.inr ⟨rfl, fun w => w x y h1 h2 h3 h4 h5 h6⟩
theorem m_gd_row {g : Int → Int} {n j k x m : Int} (w : m_gd g n j k x n m) : m_gd g n j k (x + 1) 0 m := by
  rcases w with ⟨a, b, c⟩ | a
  · refine Or.inl ⟨a, fun x' y' c1 c2 c3 c4 c5 => ?_, fun y' c1 c2 => absurd c2 (by omega)⟩
    by_cases e : x' = x
    · subst e; exact c y' c3 c4 c5
    · exact b x' y' c1 (by omega) c3 c4 c5
  · exact Or.inr a
theorem m_gd_end {g : Int → Int} {n j k m : Int} (w : m_gd g n j k (k + 1) 0 m) : (m = 1 ∧ m_cl g n j k) ∨ (m = 0 ∧ ¬ m_cl g n j k) := by
  rcases w with ⟨a, b, -⟩ | a
  · exact Or.inl ⟨a, fun x y c1 c2 c3 c4 c5 => b x y c1 (by omega) c3 c4 c5⟩
  · exact Or.inr a
/-- the complement's row: each point by the least point that it is together with -/
def m_cp (g : Int → Int) (n k v : Int) : Prop := 0 ≤ v ∧ v ≤ k ∧ (v = k ∨ m_cl g n v k) ∧ ∀ i, 0 ≤ i → i < v → ¬ m_cl g n i k
theorem m_cl_trans {g : Int → Int} {n i j k : Int} (h0 : i ≤ j) (h1 : j ≤ k) (a : m_cl g n i j) (b : m_cl g n j k) : m_cl g n i k := by
  intro x y c1 c2 c3 c4 c5
  by_cases e : x ≤ j
  · exact a x y c1 e c3 c4 (by omega)
  · exact b x y (by omega) c2 c3 c4 (by omega)
/-- under way: of the points between j and k the least that k is together with is i -/
def m_cw (g : Int → Int) (n k j : Int) (W : am_V) (v : Int) : Prop := ∃ i, j < i ∧ i ≤ k ∧ (i = k ∨ m_cl g n i k) ∧ (∀ i', j < i' → i' < i → ¬ m_cl g n i' k) ∧ (i = k → v = k) ∧ (i < k → v = W 93 (20 + i))
theorem m_cw_end {g : Int → Int} {n k : Int} {W : am_V} {v : Int} (w : m_cw g n k (-1) W v) (h : ∀ i, 0 ≤ i → i < k → m_cp g n i (W 93 (20 + i))) : m_cp g n k v := by
  obtain ⟨i, a1, a2, a3, a4, a5, a6⟩ := w
  by_cases e : i = k
  · rw [a5 e]
    exact ⟨by omega, by omega, Or.inl rfl, fun i' b1 b2 => a4 i' (by omega) (by omega)⟩
  · have e2 : i < k := by omega
    have c := a6 e2
    obtain ⟨b1, b2, b3, b4⟩ := h i (by omega) e2
    rw [← c] at b1 b2 b3 b4
    have hik : m_cl g n i k := by
      rcases a3 with a3 | a3
      · exact absurd a3 e
      · exact a3
    have hv : v = i := by
      rcases b3 with b3 | b3
      · exact b3
      · by_cases e3 : v = i
        · exact e3
        · exact absurd (m_cl_trans b2 (by omega) b3 hik) (a4 v (by omega) (by omega))
    rw [hv]
    exact ⟨by omega, by omega, Or.inr hik, fun i' c1 c2 => a4 i' (by omega) c2⟩
theorem m_cw_no {g : Int → Int} {n k j : Int} {W W' : am_V} {v : Int} (w : m_cw g n k j W v) (h : ¬ m_cl g n j k) (e : ∀ i, i < k → W' 93 (20 + i) = W 93 (20 + i)) : m_cw g n k (j - 1) W' v := by
  obtain ⟨i, a1, a2, a3, a4, a5, a6⟩ := w
  refine ⟨i, by omega, a2, a3, fun i' b1 b2 => ?_, a5, fun c => by rw [e i c]; exact a6 c⟩
  by_cases c : i' = j
  · rw [c]; exact h
  · exact a4 i' (by omega) b2
theorem m_cw_yes {g : Int → Int} {n k j : Int} {W' : am_V} {v : Int} (h : m_cl g n j k) (h1 : j < k) (e : v = W' 93 (20 + j)) : m_cw g n k (j - 1) W' v :=
  ⟨j, by omega, by omega, Or.inr h, fun i' b1 b2 => absurd b2 (by omega), fun c => absurd c (by omega), fun _ => e⟩
theorem s_M_complement {G : am_G} {d : Nat} {sh : Int → Option Nat} {V : am_V} {T : Nat} {Q : Option AV → am_V → am_T → Nat → Prop} {p n : Int} (h0 : 0 ≤ p) (h1 : p + n ≤ 20) (h2 : 0 ≤ n ∧ n ≤ 10) (hr : ∀ i, 0 ≤ i → i < n → am_in32 (V 93 (p + i)))
    (hQ : ∀ V', (∀ a, a ≠ 93 → V' a = V a) → (∀ j, ¬ (20 ≤ j ∧ j < 20 + n) → V' 93 j = V 93 j) → (∀ k, 0 ≤ k → k < n → m_cp (fun i => V 93 (p + i)) n k (V' 93 (20 + k))) → Q none V' (am_RF sh) T) : am_Calls G (d + 1) 96 [vR 86, vI p, vI n] V (am_RF sh) T Q := by
  refine am_enter mt_M_complement ok_M_complement rfl ?_
  have loopK : ∀ (jk : Nat) (k : Int) (x4 x5 x6 x7 : Option AV) (W : am_V), 0 ≤ k → k + jk = n → (∀ a, a ≠ 93 → W a = V a) → (∀ j, ¬ (20 ≤ j ∧ j < 20 + k) → W 93 j = V 93 j) → (∀ i, 0 ≤ i → i < k → m_cp (fun i => V 93 (p + i)) n i (W 93 (20 + i))) → am_Sem G d 96 V T Q 2 [some (vR 86), some (vI p), some (vI n), some (vI k), x4, x5, x6, x7] [] W (am_RF sh) T 0 0 := by
    intro jk
    induction jk with
    | zero =>
      intro k x4 x5 x6 x7 W hk hkn w1 w2 w3
      refine am_run 400 mt_M_complement ok_M_complement (fun K S hK hS => ?_)
      iterate 30 (all_goals (first
        | (refine And.intro (by omega) ?_)
        | (refine And.intro (fun hb => absurd hb (by omega)) (fun hb => ?_))
        | (refine And.intro (fun hb => ?_) (fun hb => absurd hb (by omega)))
        | (refine And.intro (fun hb => ?_) (fun hb => ?_))
        | (intro hb)
        | (conv => whnf)))
      rw [show k = n by omega] at w2 w3
      exact hQ W w1 w2 w3
    | succ jk ihK =>
      intro k x4 x5 x6 x7 W hk hkn w1 w2 w3
      have loopJ : ∀ (jj : Nat) (j : Int) (x5 x6 x7 : Option AV) (W : am_V), j + 1 = jj → j < k → (∀ a, a ≠ 93 → W a = V a) → (∀ j, ¬ (20 ≤ j ∧ j < 20 + k + 1) → W 93 j = V 93 j) → (∀ i, 0 ≤ i → i < k → m_cp (fun i => V 93 (p + i)) n i (W 93 (20 + i))) → m_cw (fun i => V 93 (p + i)) n k j W (W 93 (20 + k)) → am_Sem G d 96 V T Q 22 [some (vR 86), some (vI p), some (vI n), some (vI k), some (vI j), x5, x6, x7] [] W (am_RF sh) T 0 0 := by
        intro jj
        induction jj with
        | zero =>
          intro j x5 x6 x7 W hj hjk w1 w2 w3 w4
          have hj : j = -1 := by omega
          subst hj
          refine am_run 400 mt_M_complement ok_M_complement (fun K S hK hS => ?_)
          iterate 30 (all_goals (first
            | (refine And.intro (by omega) ?_)
            | (refine And.intro (fun hb => absurd hb (by omega)) (fun hb => ?_))
            | (refine And.intro (fun hb => ?_) (fun hb => absurd hb (by omega)))
            | (refine And.intro (fun hb => ?_) (fun hb => ?_))
            | (intro hb)
            | (conv => whnf)))
          refine hS (ihK (k + 1) _ _ _ _ W (by omega) (by omega) w1 (fun i a => w2 i (by omega)) (fun i a b => ?_))
          by_cases e : i = k
          · subst e
            exact m_cw_end w4 w3
          · exact w3 i a (by omega)
        | succ jj ihJ =>
          intro j x5 x6 x7 W hj hjk w1 w2 w3 w4
          have loopX : ∀ (jx : Nat) (x m : Int) (x7 : Option AV), j < x → x + jx = k + 1 → m_gd (fun i => V 93 (p + i)) n j k x 0 m → am_Sem G d 96 V T Q 36 [some (vR 86), some (vI p), some (vI n), some (vI k), some (vI j), some (vI m), some (vI x), x7] [] W (am_RF sh) T 0 0 := by
            intro jx
            induction jx with
            | zero =>
              intro x m x7 hx hxk w
              rw [show x = k + 1 by omega] at w
              have hm := m_gd_01 w
              have w := m_gd_end w
              have wy : m ≠ 0 → m_cl (fun i => V 93 (p + i)) n j k := fun c => w.elim (fun a => a.2) (fun a => absurd a.1 c)
              have wn : m = 0 → ¬ m_cl (fun i => V 93 (p + i)) n j k := fun c => w.elim (fun a => absurd (a.1.symm.trans c) (by decide)) (fun a => a.2)
              clear w
              refine am_run 400 mt_M_complement ok_M_complement (fun K S hK hS => ?_)
              iterate 30 (all_goals (first
                | (refine And.intro (by omega) ?_)
                | (refine And.intro (fun hb => absurd hb (by omega)) (fun hb => ?_))
                | (refine And.intro (fun hb => ?_) (fun hb => absurd hb (by omega)))
                | (refine And.intro (fun hb => ?_) (fun hb => ?_))
                | (intro hb)
                | (conv => whnf)))
              all_goals refine hS (ihJ (j - 1) _ _ _ _ (by omega) (by omega) (fun a ha => by rw [am_up_ne ha, w1 a ha]) (fun i a => by rw [am_up_at, if_neg (by omega), w2 i (by omega)]) (fun i a b => by rw [am_up_at, if_neg (by omega)]; exact w3 i a b) ?_)
              all_goals rw [am_up_at, if_pos rfl]
              all_goals first
                | exact m_cw_no w4 (wn (by assumption)) (fun i a => by rw [am_up_at, if_neg (by omega)])
                | exact m_cw_yes (wy (by assumption)) (by omega) (by rw [am_up_at, if_neg (by omega)])
            | succ jx ihX =>
              intro x m x7 hx hxk w
              have loopY : ∀ (jy : Nat) (y m : Int), 0 ≤ y → y + jy = n → m_gd (fun i => V 93 (p + i)) n j k x y m → am_Sem G d 96 V T Q 45 [some (vR 86), some (vI p), some (vI n), some (vI k), some (vI j), some (vI m), some (vI x), some (vI y)] [] W (am_RF sh) T 0 0 := by
                intro jy
                induction jy with
                | zero =>
                  intro y m hy hyn w
                  have hm := m_gd_01 w
                  refine am_run 400 mt_M_complement ok_M_complement (fun K S hK hS => ?_)
                  iterate 30 (all_goals (first
                    | (refine And.intro (by omega) ?_)
                    | (refine And.intro (fun hb => absurd hb (by omega)) (fun hb => ?_))
                    | (refine And.intro (fun hb => ?_) (fun hb => absurd hb (by omega)))
                    | (refine And.intro (fun hb => ?_) (fun hb => ?_))
                    | (intro hb)
                    | (conv => whnf)))
                  rw [show y = n by omega] at w
                  exact hS (ihX (x + 1) m _ (by omega) (by omega) (m_gd_row w))
                | succ jy ihY =>
                  intro y m hy hyn w
                  have hm := m_gd_01 w
                  have r1 := hr x (by omega) (by omega)
                  have r2 := hr y (by omega) (by omega)
                  have e1 : W 93 (p + x) = V 93 (p + x) := w2 _ (by omega)
                  have e2 : W 93 (p + y) = V 93 (p + y) := w2 _ (by omega)
                  rw [← e1] at r1
                  rw [← e2] at r2
                  refine am_run 400 mt_M_complement ok_M_complement (fun K S hK hS => ?_)
                  iterate 30 (all_goals (first
                    | (refine And.intro (by omega) ?_)
                    | (refine And.intro (⟨r1, r2⟩) ?_)
                    | (refine And.intro (fun hb => absurd hb (by omega)) (fun hb => ?_))
                    | (refine And.intro (fun hb => ?_) (fun hb => absurd hb (by omega)))
                    | (refine And.intro (fun hb => ?_) (fun hb => ?_))
                    | (intro hb)
                    | (conv => whnf)))
                  all_goals refine hS (ihY (y + 1) _ (by omega) (by omega) ?_)
                  all_goals first
                    | exact m_gd_zero w (by omega)
                    | exact m_gd_ok w (by omega) (fun c => by omega)
                    | exact m_gd_ok w (by omega) (fun c => by show V 93 (p + x) ≠ V 93 (p + y); omega)
                    | exact m_gd_bad (x := x) (y := y) (by omega) (by omega) (by omega) (by omega) (by omega) (by show V 93 (p + x) = V 93 (p + y); omega)
              have hm := m_gd_01 w
              refine am_run 400 mt_M_complement ok_M_complement (fun K S hK hS => ?_)
              iterate 30 (all_goals (first
                | (refine And.intro (by omega) ?_)
                | (refine And.intro (fun hb => absurd hb (by omega)) (fun hb => ?_))
                | (refine And.intro (fun hb => ?_) (fun hb => absurd hb (by omega)))
                | (refine And.intro (fun hb => ?_) (fun hb => ?_))
                | (intro hb)
                | (conv => whnf)))
              exact hS (loopY n.toNat 0 m (by omega) (by omega) w)
          refine am_run 400 mt_M_complement ok_M_complement (fun K S hK hS => ?_)
          iterate 30 (all_goals (first
            | (refine And.intro (by omega) ?_)
            | (refine And.intro (fun hb => absurd hb (by omega)) (fun hb => ?_))
            | (refine And.intro (fun hb => ?_) (fun hb => absurd hb (by omega)))
            | (refine And.intro (fun hb => ?_) (fun hb => ?_))
            | (intro hb)
            | (conv => whnf)))
          exact hS (loopX (k - j).toNat (j + 1) 1 _ (by omega) (by omega) (Or.inl ⟨rfl, fun x' y' a b => absurd b (by omega), fun y' a b => absurd b (by omega)⟩))
      refine am_run 400 mt_M_complement ok_M_complement (fun K S hK hS => ?_)
      iterate 30 (all_goals (first
        | (refine And.intro (by omega) ?_)
        | (refine And.intro (fun hb => absurd hb (by omega)) (fun hb => ?_))
        | (refine And.intro (fun hb => ?_) (fun hb => absurd hb (by omega)))
        | (refine And.intro (fun hb => ?_) (fun hb => ?_))
        | (intro hb)
        | (conv => whnf)))
      refine hS (loopJ k.toNat (k - 1) _ _ _ _ (by omega) (by omega) (fun a ha => by rw [am_up_ne ha, w1 a ha]) (fun i a => by rw [am_up_at, if_neg (by omega), w2 i (by omega)]) (fun i a b => by rw [am_up_at, if_neg (by omega)]; exact w3 i a b) ?_)
      rw [am_up_at, if_pos rfl]
      exact ⟨k, by omega, by omega, Or.inl rfl, fun i' a b => absurd b (by omega), fun _ => rfl, fun a => absurd a (by omega)⟩
  refine am_run 400 mt_M_complement ok_M_complement (fun K S hK hS => ?_)
  iterate 30 (all_goals (first
    | (refine And.intro (by omega) ?_)
    | (refine And.intro (fun hb => absurd hb (by omega)) (fun hb => ?_))
    | (refine And.intro (fun hb => ?_) (fun hb => absurd hb (by omega)))
    | (refine And.intro (fun hb => ?_) (fun hb => ?_))
    | (intro hb)
    | (conv => whnf)))
  exact hS (loopK n.toNat 0 _ _ _ _ V (by omega) (by omega) (fun _ _ => rfl) (fun _ _ => rfl) (fun i a b => absurd b (by omega)))
