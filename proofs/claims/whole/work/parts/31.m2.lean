/-! the reference: crossings, blocks, kinds -/
def m_cnt (V : am_V) (p b : Int) : Nat → Int
  | 0 => 0
  | n + 1 => m_cnt V p b n + (if V 93 (p + n) = b then 1 else 0)
theorem m_cnt_le (V : am_V) (p b : Int) : ∀ n : Nat, 0 ≤ m_cnt V p b n ∧ m_cnt V p b n ≤ n
  | 0 => ⟨Int.le_refl _, Int.le_refl _⟩
  | n + 1 => by
    have := m_cnt_le V p b n
    unfold m_cnt
    split <;> omega
theorem s_M_sizeOf {G : am_G} {d : Nat} {sh : Int → Option Nat} {V : am_V} {T : Nat} {Q : Option AV → am_V → am_T → Nat → Prop} {p n b : Int} (h0 : 0 ≤ p) (h1 : 0 ≤ n) (h2 : p + n ≤ 30) (hr : ∀ i, p ≤ i → i < p + n → am_in32 (V 93 i)) (hb : am_in32 b) (hQ : Q (some (vI (m_cnt V p b n.toNat))) V (am_RF sh) T) : am_Calls G (d + 1) 82 [vR 86, vI p, vI n, vI b] V (am_RF sh) T Q := by
  refine am_enter mt_M_sizeOf ok_M_sizeOf rfl ?_
  have loop : ∀ (j : Nat) (k : Int), 0 ≤ k → k + j = n → am_Sem G d 82 V T Q 6 [some (vR 86), some (vI p), some (vI n), some (vI b), some (vI (m_cnt V p b k.toNat)), some (vI k)] [] V (am_RF sh) T 0 0 := by
    intro j
    induction j with
    | zero =>
      intro k hk hkn
      refine am_run 400 mt_M_sizeOf ok_M_sizeOf (fun K S hK hS => ?_)
      iterate 30 (all_goals (first
        | (refine And.intro (by omega) ?_)
        | (refine And.intro (fun hb => absurd hb (by omega)) (fun hb => ?_))
        | (refine And.intro (fun hb => ?_) (fun hb => absurd hb (by omega)))
        | (refine And.intro (fun hb => ?_) (fun hb => ?_))
        | (intro hb)
        | (conv => whnf)))
      rw [show n = k by omega] at hQ
      exact hQ
    | succ j ih =>
      intro k hk hkn
      have rk := hr (p + k) (by omega) (by omega)
      have e : m_cnt V p b (k + 1).toNat = m_cnt V p b k.toNat + (if V 93 (p + k) = b then 1 else 0) := by
        rw [show (k + 1).toNat = k.toNat + 1 by omega, m_cnt, show ((k.toNat : Nat) : Int) = k by omega]
      have ih := ih (k + 1) (by omega) (by omega)
      rw [e] at ih
      refine am_run 400 mt_M_sizeOf ok_M_sizeOf (fun K S hK hS => ?_)
      iterate 30 (all_goals (first
        | (refine And.intro (by omega) ?_)
        | (refine And.intro (fun hb => absurd hb (by omega)) (fun hb => ?_))
        | (refine And.intro (fun hb => ?_) (fun hb => absurd hb (by omega)))
        | (refine And.intro (fun hb => ?_) (fun hb => ?_))
        | (intro hb)
        | (conv => whnf)))
      · rw [if_neg hb] at ih
        exact hS ih
      · rw [if_pos hb] at ih
        exact hS ih
  refine am_run 400 mt_M_sizeOf ok_M_sizeOf (fun K S hK hS => ?_)
  iterate 30 (all_goals (first
    | (refine And.intro (by omega) ?_)
    | (refine And.intro (fun hb => absurd hb (by omega)) (fun hb => ?_))
    | (refine And.intro (fun hb => ?_) (fun hb => absurd hb (by omega)))
    | (refine And.intro (fun hb => ?_) (fun hb => ?_))
    | (intro hb)
    | (conv => whnf)))
  exact hS (loop n.toNat 0 (by omega) (by omega))
/-- points a < b < c < d of a row: a, c together, b, d together, apart -/
def m_E (g : Int → Int) (a b c d : Int) : Prop := g b = g d ∧ g c ≠ g d ∧ g a = g c
def m_no (g : Int → Int) (d b c a : Int) : Prop := ∀ a' b' c' d', 0 ≤ a' → a' < b' → b' < c' → c' < d' → (d' < d ∨ (d' = d ∧ (b' < b ∨ (b' = b ∧ (c' < c ∨ (c' = c ∧ a' < a)))))) → ¬ m_E g a' b' c' d'
def m_Cr (g : Int → Int) (n : Int) : Prop := ∃ a b c d, 0 ≤ a ∧ a < b ∧ b < c ∧ c < d ∧ d < n ∧ m_E g a b c d
theorem m_no_Cr {g : Int → Int} {d : Int} (h : ∀ a' b' c' d', 0 ≤ a' → a' < b' → b' < c' → c' < d' → d' < d → ¬ m_E g a' b' c' d') : ¬ m_Cr g d := by
  rintro ⟨a, b, c, e, h0, h1, h2, h3, h4, h5⟩
  exact h a b c e h0 h1 h2 h3 h4 h5
theorem s_M_crossedAt {G : am_G} {d : Nat} {sh : Int → Option Nat} {V : am_V} {T : Nat} {Q : Option AV → am_V → am_T → Nat → Prop} {p n : Int} (h0 : 0 ≤ p) (h1 : 0 ≤ n) (h2 : p + n ≤ 30) (hr : ∀ i, p ≤ i → i < p + n → am_in32 (V 93 i)) (hQ : ∀ r, (r = -1000000 ∧ ¬ m_Cr (fun i => V 93 (p + i)) n) ∨ (3 ≤ r ∧ r < n ∧ m_Cr (fun i => V 93 (p + i)) (r + 1) ∧ ¬ m_Cr (fun i => V 93 (p + i)) r) → Q (some (vI r)) V (am_RF sh) T) : am_Calls G (d + 1) 79 [vR 86, vI p, vI n] V (am_RF sh) T Q := by
  refine am_enter mt_M_crossedAt ok_M_crossedAt rfl ?_
  obtain ⟨g, hg⟩ : ∃ g : Int → Int, g = fun i => V 93 (p + i) := ⟨_, rfl⟩
  rw [← hg] at hQ
  have ge : ∀ i, V 93 (p + i) = g i := fun i => by rw [hg]
  have gr : ∀ i, 0 ≤ i → i < n → am_in32 (V 93 (p + i)) := fun i a b => hr _ (by omega) (by omega)
  have loopD : ∀ (jd : Nat) (D : Int) (x4 x5 x6 : Option AV), 3 ≤ D → (n ≤ D ∧ D = 3 ∨ D + jd = n) → (∀ a' b' c' d', 0 ≤ a' → a' < b' → b' < c' → c' < d' → d' < D → ¬ m_E g a' b' c' d') → am_Sem G d 79 V T Q 2 [some (vR 86), some (vI p), some (vI n), some (vI D), x4, x5, x6] [] V (am_RF sh) T 0 0 := by
    intro jd
    induction jd with
    | zero =>
      intro D x4 x5 x6 hD hDn hno
      refine am_run 400 mt_M_crossedAt ok_M_crossedAt (fun K S hK hS => ?_)
      iterate 30 (all_goals (first
        | (refine And.intro (by omega) ?_)
        | (refine And.intro (fun hb => absurd hb (by omega)) (fun hb => ?_))
        | (refine And.intro (fun hb => ?_) (fun hb => absurd hb (by omega)))
        | (refine And.intro (fun hb => ?_) (fun hb => ?_))
        | (intro hb)
        | (conv => whnf)))
      exact hQ _ (Or.inl ⟨rfl, m_no_Cr (fun a' b' c' d' q1 q2 q3 q4 q5 => hno a' b' c' d' q1 q2 q3 q4 (by omega))⟩)
    | succ jd ihD =>
      intro D x4 x5 x6 hD hDn hno
      by_cases hlt : n ≤ D
      · refine am_run 400 mt_M_crossedAt ok_M_crossedAt (fun K S hK hS => ?_)
        iterate 30 (all_goals (first
          | (refine And.intro (by omega) ?_)
          | (refine And.intro (fun hb => absurd hb (by omega)) (fun hb => ?_))
          | (refine And.intro (fun hb => ?_) (fun hb => absurd hb (by omega)))
          | (refine And.intro (fun hb => ?_) (fun hb => ?_))
          | (intro hb)
          | (conv => whnf)))
        exact hQ _ (Or.inl ⟨rfl, m_no_Cr (fun a' b' c' d' q1 q2 q3 q4 q5 => hno a' b' c' d' q1 q2 q3 q4 (by omega))⟩)
      have loopB : ∀ (jb : Nat) (b : Int) (x5 x6 : Option AV), 1 ≤ b → b + jb = D - 1 → m_no g D b 0 0 → am_Sem G d 79 V T Q 10 [some (vR 86), some (vI p), some (vI n), some (vI D), some (vI b), x5, x6] [] V (am_RF sh) T 0 0 := by
        intro jb
        induction jb with
        | zero =>
          intro b x5 x6 hb1 hb2 hno
          refine am_run 400 mt_M_crossedAt ok_M_crossedAt (fun K S hK hS => ?_)
          iterate 30 (all_goals (first
            | (refine And.intro (by omega) ?_)
            | (refine And.intro (fun hb => absurd hb (by omega)) (fun hb => ?_))
            | (refine And.intro (fun hb => ?_) (fun hb => absurd hb (by omega)))
            | (refine And.intro (fun hb => ?_) (fun hb => ?_))
            | (intro hb)
            | (conv => whnf)))
          exact hS (ihD (D + 1) _ _ _ (by omega) (by omega) (fun a' b' c' d' q1 q2 q3 q4 q5 => hno a' b' c' d' q1 q2 q3 q4 (by omega)))
        | succ jb ihB =>
          intro b x5 x6 hb1 hb2 hno
          have loopC : ∀ (jc : Nat) (c : Int) (x6 : Option AV), b + 1 ≤ c → c + jc = D → m_no g D b c 0 → am_Sem G d 79 V T Q 24 [some (vR 86), some (vI p), some (vI n), some (vI D), some (vI b), some (vI c), x6] [] V (am_RF sh) T 0 0 := by
            intro jc
            induction jc with
            | zero =>
              intro c x6 hc1 hc2 hno
              refine am_run 400 mt_M_crossedAt ok_M_crossedAt (fun K S hK hS => ?_)
              iterate 30 (all_goals (first
                | (refine And.intro (by omega) ?_)
                | (refine And.intro (fun hb => absurd hb (by omega)) (fun hb => ?_))
                | (refine And.intro (fun hb => ?_) (fun hb => absurd hb (by omega)))
                | (refine And.intro (fun hb => ?_) (fun hb => ?_))
                | (intro hb)
                | (conv => whnf)))
              exact hS (ihB (b + 1) _ _ (by omega) (by omega) (fun a' b' c' d' q1 q2 q3 q4 q5 => hno a' b' c' d' q1 q2 q3 q4 (by omega)))
            | succ jc ihC =>
              intro c x6 hc1 hc2 hno
              have loopA : g b = g D → ∀ (ja : Nat) (a : Int), 0 ≤ a → a + ja = b → m_no g D b c a → am_Sem G d 79 V T Q 53 [some (vR 86), some (vI p), some (vI n), some (vI D), some (vI b), some (vI c), some (vI a)] [] V (am_RF sh) T 0 0 := by
                intro hbd ja
                induction ja with
                | zero =>
                  intro a ha1 ha2 hno
                  refine am_run 400 mt_M_crossedAt ok_M_crossedAt (fun K S hK hS => ?_)
                  iterate 30 (all_goals (first
                    | (refine And.intro (by omega) ?_)
                    | (refine And.intro (fun hb => absurd hb (by omega)) (fun hb => ?_))
                    | (refine And.intro (fun hb => ?_) (fun hb => absurd hb (by omega)))
                    | (refine And.intro (fun hb => ?_) (fun hb => ?_))
                    | (intro hb)
                    | (conv => whnf)))
                  exact hS (ihC (c + 1) _ (by omega) (by omega) (fun a' b' c' d' q1 q2 q3 q4 q5 => hno a' b' c' d' q1 q2 q3 q4 (by omega)))
                | succ ja ihA =>
                  intro a ha1 ha2 hno
                  have r1 := gr c (by omega) (by omega)
                  have r2 := gr D (by omega) (by omega)
                  have r3 := gr a (by omega) (by omega)
                  refine am_run 400 mt_M_crossedAt ok_M_crossedAt (fun K S hK hS => ?_)
                  iterate 30 (all_goals (first
                    | (refine And.intro (by omega) ?_)
                    | (refine And.intro (⟨r1, r2⟩) ?_)
                    | (refine And.intro (⟨r3, r1⟩) ?_)
                    | (refine And.intro (fun hb => absurd hb (by omega)) (fun hb => ?_))
                    | (refine And.intro (fun hb => ?_) (fun hb => absurd hb (by omega)))
                    | (refine And.intro (fun hb => ?_) (fun hb => ?_))
                    | (intro hb)
                    | (conv => whnf)))
                  all_goals (simp only [ge] at *)
                  · refine hS (ihC (c + 1) _ (by omega) (by omega) (fun a' b' c' d' q1 q2 q3 q4 q5 hE => ?_))
                    by_cases hold : (d' < D ∨ (d' = D ∧ (b' < b ∨ (b' = b ∧ (c' < c ∨ (c' = c ∧ a' < a))))))
                    · exact hno a' b' c' d' q1 q2 q3 q4 hold hE
                    · have e1 : d' = D := by omega
                      have e2 : c' = c := by omega
                      subst e1; subst e2
                      obtain ⟨-, hne, -⟩ := hE
                      omega
                  · refine hS (ihA (a + 1) (by omega) (by omega) (fun a' b' c' d' q1 q2 q3 q4 q5 hE => ?_))
                    by_cases hold : (d' < D ∨ (d' = D ∧ (b' < b ∨ (b' = b ∧ (c' < c ∨ (c' = c ∧ a' < a))))))
                    · exact hno a' b' c' d' q1 q2 q3 q4 hold hE
                    · have e1 : d' = D := by omega
                      have e2 : c' = c := by omega
                      have e3 : a' = a := by omega
                      subst e1; subst e2; subst e3
                      obtain ⟨-, -, he⟩ := hE
                      omega
                  · refine hQ _ (Or.inr ⟨hD, by omega, ⟨a, b, c, D, by omega, by omega, by omega, by omega, by omega, hbd, ?_, ?_⟩, m_no_Cr (fun a' b' c' d' q1 q2 q3 q4 q5 => hno a' b' c' d' q1 q2 q3 q4 (by omega))⟩)
                    · omega
                    · omega
              have r1 := gr b (by omega) (by omega)
              have r2 := gr D (by omega) (by omega)
              refine am_run 400 mt_M_crossedAt ok_M_crossedAt (fun K S hK hS => ?_)
              iterate 30 (all_goals (first
                | (refine And.intro (by omega) ?_)
                | (refine And.intro (⟨r1, r2⟩) ?_)
                | (refine And.intro (fun hb => absurd hb (by omega)) (fun hb => ?_))
                | (refine And.intro (fun hb => ?_) (fun hb => absurd hb (by omega)))
                | (refine And.intro (fun hb => ?_) (fun hb => ?_))
                | (intro hb)
                | (conv => whnf)))
              all_goals (simp only [ge] at *)
              · refine hS (ihB (b + 1) _ _ (by omega) (by omega) (fun a' b' c' d' q1 q2 q3 q4 q5 hE => ?_))
                by_cases hold : (d' < D ∨ (d' = D ∧ (b' < b ∨ (b' = b ∧ (c' < c ∨ (c' = c ∧ a' < 0))))))
                · exact hno a' b' c' d' q1 q2 q3 q4 hold hE
                · have e1 : d' = D := by omega
                  have e2 : b' = b := by omega
                  subst e1; subst e2
                  obtain ⟨he, -, -⟩ := hE
                  omega
              · exact hS (loopA (by omega) b.toNat 0 (by omega) (by omega) hno)
          refine am_run 400 mt_M_crossedAt ok_M_crossedAt (fun K S hK hS => ?_)
          iterate 30 (all_goals (first
            | (refine And.intro (by omega) ?_)
            | (refine And.intro (fun hb => absurd hb (by omega)) (fun hb => ?_))
            | (refine And.intro (fun hb => ?_) (fun hb => absurd hb (by omega)))
            | (refine And.intro (fun hb => ?_) (fun hb => ?_))
            | (intro hb)
            | (conv => whnf)))
          exact hS (loopC (D - (b + 1)).toNat (b + 1) _ (by omega) (by omega) (fun a' b' c' d' q1 q2 q3 q4 q5 => hno a' b' c' d' q1 q2 q3 q4 (by omega)))
      refine am_run 400 mt_M_crossedAt ok_M_crossedAt (fun K S hK hS => ?_)
      iterate 30 (all_goals (first
        | (refine And.intro (by omega) ?_)
        | (refine And.intro (fun hb => absurd hb (by omega)) (fun hb => ?_))
        | (refine And.intro (fun hb => ?_) (fun hb => absurd hb (by omega)))
        | (refine And.intro (fun hb => ?_) (fun hb => ?_))
        | (intro hb)
        | (conv => whnf)))
      exact hS (loopB (D - 2).toNat 1 _ _ (by omega) (by omega) (fun a' b' c' d' q1 q2 q3 q4 q5 => hno a' b' c' d' q1 q2 q3 q4 (by omega)))
  refine am_run 400 mt_M_crossedAt ok_M_crossedAt (fun K S hK hS => ?_)
  iterate 30 (all_goals (first
    | (refine And.intro (by omega) ?_)
    | (refine And.intro (fun hb => absurd hb (by omega)) (fun hb => ?_))
    | (refine And.intro (fun hb => ?_) (fun hb => absurd hb (by omega)))
    | (refine And.intro (fun hb => ?_) (fun hb => ?_))
    | (intro hb)
    | (conv => whnf)))
  exact hS (loopD (n - 3).toNat 3 _ _ _ (by omega) (by omega) (fun a' b' c' d' q1 q2 q3 q4 q5 => absurd q5 (by omega)))
theorem s_M_isFree {G : am_G} {d : Nat} {sh : Int → Option Nat} {V : am_V} {T : Nat} {Q : Option AV → am_V → am_T → Nat → Prop} {p n : Int} (h0 : 0 ≤ p) (h1 : 0 ≤ n) (h2 : p + n ≤ 30) (hr : ∀ i, p ≤ i → i < p + n → am_in32 (V 93 i)) (hQ : ∀ r, (r = 1 ∧ ¬ m_Cr (fun i => V 93 (p + i)) n) ∨ (r = 0 ∧ m_Cr (fun i => V 93 (p + i)) n) → Q (some (vI r)) V (am_RF sh) T) : am_Calls G (d + 2) 80 [vR 86, vI p, vI n] V (am_RF sh) T Q := by
  refine am_enter mt_M_isFree ok_M_isFree rfl ?_
  refine am_run 400 mt_M_isFree ok_M_isFree (fun K S hK hS => ?_)
  iterate 30 (all_goals (first
    | (refine And.intro (by omega) ?_)
    | (refine And.intro (fun hb => absurd hb (by omega)) (fun hb => ?_))
    | (refine And.intro (fun hb => ?_) (fun hb => absurd hb (by omega)))
    | (refine And.intro (fun hb => ?_) (fun hb => ?_))
    | (intro hb)
    | (conv => whnf)))
  refine hK (s_M_crossedAt h0 h1 h2 hr (fun r hr' => ?_))
  iterate 30 (all_goals (first
    | (refine And.intro (by omega) ?_)
    | (refine And.intro (fun hb => absurd hb (by omega)) (fun hb => ?_))
    | (refine And.intro (fun hb => ?_) (fun hb => absurd hb (by omega)))
    | (refine And.intro (fun hb => ?_) (fun hb => ?_))
    | (intro hb)
    | (conv => whnf)))
  · rcases hr' with ⟨rfl, -⟩ | ⟨a1, a2, a3, -⟩
    · exact absurd rfl hb
    · obtain ⟨a, b, c, e, q0, q1, q2, q3, q4, q5⟩ := a3
      exact hQ _ (Or.inr ⟨rfl, a, b, c, e, q0, q1, q2, q3, by omega, q5⟩)
  · rcases hr' with ⟨rfl, a1⟩ | ⟨a1, a2, a3, -⟩
    · exact hQ _ (Or.inl ⟨rfl, a1⟩)
    · omega
/-- how many blocks: one more than the greatest number -/
theorem s_M_blocks {G : am_G} {d : Nat} {sh : Int → Option Nat} {V : am_V} {T : Nat} {Q : Option AV → am_V → am_T → Nat → Prop} {p n : Int} (h0 : 0 ≤ p) (h1 : 0 ≤ n) (h2 : p + n ≤ 30) (hr : ∀ i, 0 ≤ i → i < n → 0 ≤ V 93 (p + i) ∧ V 93 (p + i) < 1000) (hQ : ∀ r, 0 ≤ r → (∀ i, 0 ≤ i → i < n → V 93 (p + i) < r) → (r = 0 ∨ ∃ i, 0 ≤ i ∧ i < n ∧ V 93 (p + i) + 1 = r) → Q (some (vI r)) V (am_RF sh) T) : am_Calls G (d + 1) 81 [vR 86, vI p, vI n] V (am_RF sh) T Q := by
  refine am_enter mt_M_blocks ok_M_blocks rfl ?_
  have loop : ∀ (j : Nat) (k m : Int), 0 ≤ k → k + j = n → 0 ≤ m → m ≤ 1000 → (∀ i, 0 ≤ i → i < k → V 93 (p + i) < m) → (m = 0 ∨ ∃ i, 0 ≤ i ∧ i < k ∧ V 93 (p + i) + 1 = m) → am_Sem G d 81 V T Q 5 [some (vR 86), some (vI p), some (vI n), some (vI m), some (vI k)] [] V (am_RF sh) T 0 0 := by
    intro j
    induction j with
    | zero =>
      intro k m hk hkn hm hm2 w1 w2
      refine am_run 400 mt_M_blocks ok_M_blocks (fun K S hK hS => ?_)
      iterate 30 (all_goals (first
        | (refine And.intro (by omega) ?_)
        | (refine And.intro (fun hb => absurd hb (by omega)) (fun hb => ?_))
        | (refine And.intro (fun hb => ?_) (fun hb => absurd hb (by omega)))
        | (refine And.intro (fun hb => ?_) (fun hb => ?_))
        | (intro hb)
        | (conv => whnf)))
      rw [show k = n by omega] at w1 w2
      exact hQ _ hm w1 w2
    | succ j ih =>
      intro k m hk hkn hm hm2 w1 w2
      have rk := hr k hk (by omega)
      refine am_run 400 mt_M_blocks ok_M_blocks (fun K S hK hS => ?_)
      iterate 30 (all_goals (first
        | (refine And.intro (by omega) ?_)
        | (refine And.intro (fun hb => absurd hb (by omega)) (fun hb => ?_))
        | (refine And.intro (fun hb => ?_) (fun hb => absurd hb (by omega)))
        | (refine And.intro (fun hb => ?_) (fun hb => ?_))
        | (intro hb)
        | (conv => whnf)))
      · refine hS (ih (k + 1) _ (by omega) (by omega) (by omega) (by omega) (fun i a b => ?_) ?_)
        · by_cases e : i = k
          · subst e; omega
          · exact w1 i a (by omega)
        · rcases w2 with w | ⟨i, a, b, c⟩
          · exact Or.inl w
          · exact Or.inr ⟨i, a, by omega, c⟩
      · refine hS (ih (k + 1) _ (by omega) (by omega) (by omega) (by omega) (fun i a b => ?_) ?_)
        · by_cases e : i = k
          · subst e; omega
          · have := w1 i a (by omega)
            omega
        · exact Or.inr ⟨k, hk, by omega, rfl⟩
  refine am_run 400 mt_M_blocks ok_M_blocks (fun K S hK hS => ?_)
  iterate 30 (all_goals (first
    | (refine And.intro (by omega) ?_)
    | (refine And.intro (fun hb => absurd hb (by omega)) (fun hb => ?_))
    | (refine And.intro (fun hb => ?_) (fun hb => absurd hb (by omega)))
    | (refine And.intro (fun hb => ?_) (fun hb => ?_))
    | (intro hb)
    | (conv => whnf)))
  exact hS (loop n.toNat 0 0 (by omega) (by omega) (by omega) (by omega) (fun i a b => absurd b (by omega)) (Or.inl rfl))
theorem s_M_isOfPairs {G : am_G} {d : Nat} {sh : Int → Option Nat} {V : am_V} {T : Nat} {Q : Option AV → am_V → am_T → Nat → Prop} {p n : Int} (h0 : 0 ≤ p) (h1 : 0 ≤ n) (h2 : p + n ≤ 30) (hr : ∀ i, p ≤ i → i < p + n → am_in32 (V 93 i)) (hQ : ∀ r, (r = 1 ∧ ∀ i, 0 ≤ i → i < n → m_cnt V p (V 93 (p + i)) n.toNat = 2) ∨ (r = 0 ∧ ∃ i, 0 ≤ i ∧ i < n ∧ m_cnt V p (V 93 (p + i)) n.toNat ≠ 2) → Q (some (vI r)) V (am_RF sh) T) : am_Calls G (d + 2) 83 [vR 86, vI p, vI n] V (am_RF sh) T Q := by
  refine am_enter mt_M_isOfPairs ok_M_isOfPairs rfl ?_
  have loop : ∀ (j : Nat) (k m : Int), 0 ≤ k → k + j = n → ((m = 1 ∧ ∀ i, 0 ≤ i → i < k → m_cnt V p (V 93 (p + i)) n.toNat = 2) ∨ (m = 0 ∧ ∃ i, 0 ≤ i ∧ i < k ∧ m_cnt V p (V 93 (p + i)) n.toNat ≠ 2)) → am_Sem G (d + 1) 83 V T Q 5 [some (vR 86), some (vI p), some (vI n), some (vI m), some (vI k)] [] V (am_RF sh) T 0 0 := by
    intro j
    induction j with
    | zero =>
      intro k m hk hkn w
      have hm : m = 0 ∨ m = 1 := by rcases w with ⟨a, -⟩ | ⟨a, -⟩ <;> omega
      refine am_run 400 mt_M_isOfPairs ok_M_isOfPairs (fun K S hK hS => ?_)
      iterate 30 (all_goals (first
        | (refine And.intro (by omega) ?_)
        | (refine And.intro (fun hb => absurd hb (by omega)) (fun hb => ?_))
        | (refine And.intro (fun hb => ?_) (fun hb => absurd hb (by omega)))
        | (refine And.intro (fun hb => ?_) (fun hb => ?_))
        | (intro hb)
        | (conv => whnf)))
      rw [show k = n by omega] at w
      exact hQ _ w
    | succ j ih =>
      intro k m hk hkn w
      have hm : m = 0 ∨ m = 1 := by rcases w with ⟨a, -⟩ | ⟨a, -⟩ <;> omega
      have rk := hr (p + k) (by omega) (by omega)
      have rc := m_cnt_le V p (V 93 (p + k)) n.toNat
      refine am_run 400 mt_M_isOfPairs ok_M_isOfPairs (fun K S hK hS => ?_)
      iterate 30 (all_goals (first
        | (refine And.intro (by omega) ?_)
        | (refine And.intro (fun hb => absurd hb (by omega)) (fun hb => ?_))
        | (refine And.intro (fun hb => ?_) (fun hb => absurd hb (by omega)))
        | (refine And.intro (fun hb => ?_) (fun hb => ?_))
        | (intro hb)
        | (conv => whnf)))
      · rcases w with ⟨a, -⟩ | ⟨a, i, w1, w2, w3⟩
        · omega
        · exact hS (ih (k + 1) _ (by omega) (by omega) (Or.inr ⟨rfl, i, w1, by omega, w3⟩))
      · refine hK (s_M_sizeOf h0 h1 h2 hr rk ?_)
        iterate 30 (all_goals (first
          | (refine And.intro (by omega) ?_)
          | (refine And.intro (fun hb => absurd hb (by omega)) (fun hb => ?_))
          | (refine And.intro (fun hb => ?_) (fun hb => absurd hb (by omega)))
          | (refine And.intro (fun hb => ?_) (fun hb => ?_))
          | (intro hb)
          | (conv => whnf)))
        · refine hS (ih (k + 1) _ (by omega) (by omega) (Or.inr ⟨rfl, k, hk, by omega, ?_⟩))
          omega
        · rcases w with ⟨a, w⟩ | ⟨a, -⟩
          · refine hS (ih (k + 1) _ (by omega) (by omega) (Or.inl ⟨rfl, fun i a1 a2 => ?_⟩))
            by_cases e : i = k
            · subst e
              omega
            · exact w i a1 (by omega)
          · omega
  refine am_run 400 mt_M_isOfPairs ok_M_isOfPairs (fun K S hK hS => ?_)
  iterate 30 (all_goals (first
    | (refine And.intro (by omega) ?_)
    | (refine And.intro (fun hb => absurd hb (by omega)) (fun hb => ?_))
    | (refine And.intro (fun hb => ?_) (fun hb => absurd hb (by omega)))
    | (refine And.intro (fun hb => ?_) (fun hb => ?_))
    | (intro hb)
    | (conv => whnf)))
  exact hS (loop n.toNat 0 1 (by omega) (by omega) (Or.inl ⟨rfl, fun i a b => absurd b (by omega)⟩))
