/-! the reference: whether two blocks cross -/
def m_c2 (g : Int → Int) (k u v : Int) : Prop := ∃ i j, 0 ≤ i ∧ i < j ∧ j < k ∧ g i = u ∧ g j = v
def m_c3 (g : Int → Int) (k u v : Int) : Prop := ∃ i j l, 0 ≤ i ∧ i < j ∧ j < l ∧ l < k ∧ g i = u ∧ g j = v ∧ g l = u
def m_c4 (g : Int → Int) (k u v : Int) : Prop := ∃ i j l r, 0 ≤ i ∧ i < j ∧ j < l ∧ l < r ∧ r < k ∧ g i = u ∧ g j = v ∧ g l = u ∧ g r = v
/-- so far: the last of the two numbers met was l (o is the other one), the two took turns t times -/
def m_tnS (g : Int → Int) (k l o t : Int) : Prop := 0 ≤ t ∧ (∃ i, 0 ≤ i ∧ i < k ∧ g i = l) ∧ (1 ≤ t → m_c2 g k o l) ∧ (2 ≤ t → m_c3 g k l o) ∧ (3 ≤ t → m_c4 g k o l) ∧ (t ≤ 0 → ∀ i, 0 ≤ i → i < k → g i ≠ o) ∧ (t ≤ 1 → ¬ m_c2 g k l o) ∧ (t ≤ 2 → ¬ m_c3 g k o l)
theorem m_tnS_not {g : Int → Int} {k l o t : Int} (w : m_tnS g k l o t) (h1 : g k ≠ o) : m_tnS g (k + 1) l o t := by
  obtain ⟨t0, u0, u1, u2, u3, d0, d1, d2⟩ := w
  refine ⟨t0, ?_, fun c => ?_, fun c => ?_, fun c => ?_, fun c i a b => ?_, fun c => ?_, fun c => ?_⟩
  · obtain ⟨i, a, b, e⟩ := u0
    exact ⟨i, a, by omega, e⟩
  · obtain ⟨i, j, a, b, e, e2⟩ := u1 c
    exact ⟨i, j, a, b, by omega, e2⟩
  · obtain ⟨i, j, r, a, b, e, f, e2⟩ := u2 c
    exact ⟨i, j, r, a, b, e, by omega, e2⟩
  · obtain ⟨i, j, r, s, a, b, e, f, f2, e2⟩ := u3 c
    exact ⟨i, j, r, s, a, b, e, f, by omega, e2⟩
  · by_cases e : i = k
    · rw [e]; exact h1
    · exact d0 c i a (by omega)
  · rintro ⟨i, j, a, b, e, e2, e3⟩
    by_cases f : j = k
    · rw [f] at e3; exact h1 e3
    · exact d1 c ⟨i, j, a, b, by omega, e2, e3⟩
  · rintro ⟨i, j, r, a, b, e, e2, e3, e4, e5⟩
    by_cases f : r = k
    · rw [f] at e5; exact h1 e5
    · exact d2 c ⟨i, j, r, a, b, e, by omega, e3, e4, e5⟩
theorem m_tnS_turn {g : Int → Int} {k l o t : Int} (w : m_tnS g k l o t) (h0 : 0 ≤ k) (hlo : l ≠ o) (h1 : g k = o) : m_tnS g (k + 1) o l (t + 1) := by
  obtain ⟨t0, u0, u1, u2, u3, d0, d1, d2⟩ := w
  refine ⟨by omega, ⟨k, h0, by omega, h1⟩, fun c => ?_, fun c => ?_, fun c => ?_, fun c => absurd c (by omega), fun c => ?_, fun c => ?_⟩
  · obtain ⟨i, a, b, e⟩ := u0
    exact ⟨i, k, a, b, by omega, e, h1⟩
  · obtain ⟨i, j, a, b, e, e2, e3⟩ := u1 (by omega)
    exact ⟨i, j, k, a, b, e, by omega, e2, e3, h1⟩
  · obtain ⟨i, j, r, a, b, e, f, e2, e3, e4⟩ := u2 (by omega)
    exact ⟨i, j, r, k, a, b, e, f, by omega, e2, e3, e4, h1⟩
  · rintro ⟨i, j, a, b, e, e2, e3⟩
    exact d0 (by omega) i a (by omega) e2
  · rintro ⟨i, j, r, a, b, e, e2, e3, e4, e5⟩
    by_cases f : r = k
    · rw [f, h1] at e5; exact hlo e5.symm
    · exact d1 (by omega) ⟨i, j, a, b, by omega, e3, e4⟩
/-- the two numbers and what came so far -/
def m_tn (g : Int → Int) (k a b l t : Int) : Prop := (l = -1000000 ∧ t = 0 ∧ ∀ i, 0 ≤ i → i < k → g i ≠ a ∧ g i ≠ b) ∨ (l = a ∧ m_tnS g k a b t) ∨ (l = b ∧ m_tnS g k b a t)
/-- blocks a and b of a row cross -/
def m_xg (g : Int → Int) (n a b : Int) : Prop := m_c4 g n a b ∨ m_c4 g n b a
theorem m_tn_not {g : Int → Int} {k a b l t : Int} (w : m_tn g k a b l t) (h1 : g k ≠ a) (h2 : g k ≠ b) : m_tn g (k + 1) a b l t := by
  rcases w with ⟨e, e2, e3⟩ | ⟨e, e2⟩ | ⟨e, e2⟩
  · refine Or.inl ⟨e, e2, fun i c1 c2 => ?_⟩
    by_cases f : i = k
    · rw [f]; exact ⟨h1, h2⟩
    · exact e3 i c1 (by omega)
  · exact Or.inr (Or.inl ⟨e, m_tnS_not e2 h2⟩)
  · exact Or.inr (Or.inr ⟨e, m_tnS_not e2 h1⟩)
theorem m_tnS_one {g : Int → Int} {k l o : Int} (h0 : 0 ≤ k) (hlo : l ≠ o) (h1 : g k = l) (h2 : ∀ i, 0 ≤ i → i < k → g i ≠ l ∧ g i ≠ o) : m_tnS g (k + 1) l o 0 := by
  have h3 : ∀ i, 0 ≤ i → i < k + 1 → g i ≠ o := fun i a b => by
    by_cases e : i = k
    · rw [e, h1]; exact hlo
    · exact (h2 i a (by omega)).2
  refine ⟨by omega, ⟨k, h0, by omega, h1⟩, fun c => absurd c (by omega), fun c => absurd c (by omega), fun c => absurd c (by omega), fun _ => h3, fun _ => ?_, fun _ => ?_⟩
  · rintro ⟨i, j, a, b, e, e2, e3⟩
    exact h3 j (by omega) e e3
  · rintro ⟨i, j, r, a, b, e, e2, e3, e4, e5⟩
    exact h3 i a (by omega) e3
theorem m_tn_new {g : Int → Int} {k a b l t : Int} (w : m_tn g k a b l t) (h0 : 0 ≤ k) (hab : a ≠ b) (ha : a ≠ -1000000) (hb : b ≠ -1000000) (h1 : g k = a ∨ g k = b) (h2 : l = -1000000) : m_tn g (k + 1) a b (g k) t := by
  rcases w with ⟨e, e2, e3⟩ | ⟨e, e2⟩ | ⟨e, e2⟩
  · subst e2
    rcases h1 with h1 | h1
    · exact Or.inr (Or.inl ⟨h1, m_tnS_one h0 hab h1 e3⟩)
    · exact Or.inr (Or.inr ⟨h1, m_tnS_one h0 (Ne.symm hab) h1 (fun i c1 c2 => ⟨(e3 i c1 c2).2, (e3 i c1 c2).1⟩)⟩)
  · exact absurd (e.symm.trans h2) ha
  · exact absurd (e.symm.trans h2) hb
theorem m_tn_same {g : Int → Int} {k a b l t : Int} (w : m_tn g k a b l t) (hab : a ≠ b) (h2 : l ≠ -1000000) (h3 : g k = l) : m_tn g (k + 1) a b (g k) t := by
  rcases w with ⟨e, -, -⟩ | ⟨e, e2⟩ | ⟨e, e2⟩
  · exact absurd e h2
  · exact Or.inr (Or.inl ⟨h3.trans e, m_tnS_not e2 (by rw [h3, e]; exact hab)⟩)
  · exact Or.inr (Or.inr ⟨h3.trans e, m_tnS_not e2 (by rw [h3, e]; exact Ne.symm hab)⟩)
theorem m_tn_turn {g : Int → Int} {k a b l t : Int} (w : m_tn g k a b l t) (h0 : 0 ≤ k) (hab : a ≠ b) (h1 : g k = a ∨ g k = b) (h2 : l ≠ -1000000) (h3 : g k ≠ l) : m_tn g (k + 1) a b (g k) (t + 1) := by
  rcases w with ⟨e, -, -⟩ | ⟨e, e2⟩ | ⟨e, e2⟩
  · exact absurd e h2
  · rcases h1 with h1 | h1
    · exact absurd (h1.trans e.symm) h3
    · exact Or.inr (Or.inr ⟨h1, m_tnS_turn e2 h0 hab h1⟩)
  · rcases h1 with h1 | h1
    · exact Or.inr (Or.inl ⟨h1, m_tnS_turn e2 h0 (Ne.symm hab) h1⟩)
    · exact absurd (h1.trans e.symm) h3
theorem m_tn_yes {g : Int → Int} {k a b l t : Int} (w : m_tn g k a b l t) (h : 2 < t) : m_xg g k a b := by
  rcases w with ⟨-, e, -⟩ | ⟨e, e2⟩ | ⟨e, e2⟩
  · omega
  · exact Or.inr (e2.2.2.2.2.1 (by omega))
  · exact Or.inl (e2.2.2.2.2.1 (by omega))
theorem m_tnS_no {g : Int → Int} {k l o t : Int} (w : m_tnS g k l o t) (h : t ≤ 2) : ¬ m_c4 g k l o ∧ ¬ m_c4 g k o l := by
  refine ⟨?_, ?_⟩
  · rintro ⟨i, j, r, s, a, b, e, f, f2, e2, e3, e4, e5⟩
    exact w.2.2.2.2.2.2.2 h ⟨j, r, s, by omega, e, f, f2, e3, e4, e5⟩
  · rintro ⟨i, j, r, s, a, b, e, f, f2, e2, e3, e4, e5⟩
    exact w.2.2.2.2.2.2.2 h ⟨i, j, r, a, b, e, by omega, e2, e3, e4⟩
theorem m_tn_no {g : Int → Int} {k a b l t : Int} (w : m_tn g k a b l t) (h : t ≤ 2) : ¬ m_xg g k a b := by
  rcases w with ⟨-, -, e⟩ | ⟨e, e2⟩ | ⟨e, e2⟩
  · rintro (⟨i, j, r, s, a1, b1, e1, f1, f2, e2, e3, e4, e5⟩ | ⟨i, j, r, s, a1, b1, e1, f1, f2, e2, e3, e4, e5⟩)
    · exact (e i a1 (by omega)).1 e2
    · exact (e i a1 (by omega)).2 e2
  · rintro (c | c)
    · exact (m_tnS_no e2 h).1 c
    · exact (m_tnS_no e2 h).2 c
  · rintro (c | c)
    · exact (m_tnS_no e2 h).2 c
    · exact (m_tnS_no e2 h).1 c
theorem s_M_crossing {G : am_G} {d : Nat} {sh : Int → Option Nat} {V : am_V} {T : Nat} {Q : Option AV → am_V → am_T → Nat → Prop} {x y n : Int} (hx : 0 ≤ x ∧ x < n) (hy : 0 ≤ y ∧ y < n) (h2 : n ≤ 10) (hr : ∀ i, 0 ≤ i → i < n → 0 ≤ V 93 (20 + i) ∧ V 93 (20 + i) < 1000)
    (hQ0 : V 93 (20 + x) = V 93 (20 + y) → Q (some (vI 0)) V (am_RF sh) T)
    (hQ1 : V 93 (20 + x) ≠ V 93 (20 + y) → m_xg (fun i => V 93 (20 + i)) n (V 93 (20 + x)) (V 93 (20 + y)) → Q (some (vI 1)) V (am_RF sh) T)
    (hQ2 : V 93 (20 + x) ≠ V 93 (20 + y) → ¬ m_xg (fun i => V 93 (20 + i)) n (V 93 (20 + x)) (V 93 (20 + y)) → Q (some (vI 0)) V (am_RF sh) T) : am_Calls G (d + 1) 95 [vR 86, vI x, vI y, vI n] V (am_RF sh) T Q := by
  refine am_enter mt_M_crossing ok_M_crossing rfl ?_
  have rx := hr x hx.1 hx.2
  have ry := hr y hy.1 hy.2
  have loop : ∀ (j : Nat) (k l t : Int) (x9 : Option AV), 0 ≤ k → k + j = n → 0 ≤ t → t ≤ k → am_in32 l → V 93 (20 + x) ≠ V 93 (20 + y) → m_tn (fun i => V 93 (20 + i)) k (V 93 (20 + x)) (V 93 (20 + y)) l t → am_Sem G d 95 V T Q 41 [some (vR 86), some (vI x), some (vI y), some (vI n), some (vI (V 93 (20 + x))), some (vI (V 93 (20 + y))), some (vI l), some (vI t), some (vI k), x9] [] V (am_RF sh) T 0 0 := by
    intro j
    induction j with
    | zero =>
      intro k l t x9 hk hkn ht htk hl hne w
      rw [show k = n by omega] at w
      refine am_run 400 mt_M_crossing ok_M_crossing (fun K S hK hS => ?_)
      iterate 30 (all_goals (first
        | (refine And.intro (by omega) ?_)
        | (refine And.intro (fun hb => absurd hb (by omega)) (fun hb => ?_))
        | (refine And.intro (fun hb => ?_) (fun hb => absurd hb (by omega)))
        | (refine And.intro (fun hb => ?_) (fun hb => ?_))
        | (intro hb)
        | (conv => whnf)))
      all_goals first
        | exact hQ2 hne (m_tn_no w (by omega))
        | exact hQ1 hne (m_tn_yes w (by omega))
    | succ j ih =>
      intro k l t x9 hk hkn ht htk hl hne w
      have rk := hr k hk (by omega)
      have hl2 : -2147483648 ≤ l ∧ l ≤ 2147483647 := hl
      refine am_run 400 mt_M_crossing ok_M_crossing (fun K S hK hS => ?_)
      iterate 30 (all_goals (first
        | (refine And.intro (by omega) ?_)
        | (refine And.intro (hl) ?_)
        | (refine And.intro (fun hb => absurd hb (by omega)) (fun hb => ?_))
        | (refine And.intro (fun hb => ?_) (fun hb => absurd hb (by omega)))
        | (refine And.intro (fun hb => ?_) (fun hb => ?_))
        | (intro hb)
        | (conv => whnf)))
      all_goals (try rw [Int.add_zero t])
      all_goals first
        | exact hS (ih (k + 1) _ _ _ (by omega) (by omega) (by omega) (by omega) hl hne (m_tn_not w (by assumption) (by assumption)))
        | exact hS (ih (k + 1) _ _ _ (by omega) (by omega) (by omega) (by omega) (by constructor <;> omega) hne (m_tn_new w hk hne (by omega) (by omega) (by omega) (by assumption)))
        | exact hS (ih (k + 1) _ _ _ (by omega) (by omega) (by omega) (by omega) (by constructor <;> omega) hne (m_tn_same w hne (by assumption) (by assumption)))
        | exact hS (ih (k + 1) _ _ _ (by omega) (by omega) (by omega) (by omega) (by constructor <;> omega) hne (m_tn_turn w hk hne (by omega) (by assumption) (by assumption)))
  refine am_run 400 mt_M_crossing ok_M_crossing (fun K S hK hS => ?_)
  iterate 30 (all_goals (first
    | (refine And.intro (by omega) ?_)
    | (refine And.intro (fun hb => absurd hb (by omega)) (fun hb => ?_))
    | (refine And.intro (fun hb => ?_) (fun hb => absurd hb (by omega)))
    | (refine And.intro (fun hb => ?_) (fun hb => ?_))
    | (intro hb)
    | (conv => whnf)))
  all_goals first
    | exact hQ0 (by assumption)
    | exact hS (loop n.toNat 0 _ 0 _ (by omega) (by omega) (by omega) (by omega) (by constructor <;> omega) (by assumption) (Or.inl ⟨rfl, rfl, fun i a b => absurd b (by omega)⟩))
