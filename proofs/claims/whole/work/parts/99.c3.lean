/-! nextFree -/
theorem nx_least {g h : Int → Int} {n k : Int} (hg : m_rgs g n) (k0 : 0 < k) (k1 : k < n) (hm : m_may g k) (hno : ∀ k', k < k' → k' < n → ¬ m_may g k') (e1 : ∀ j, 0 ≤ j → j < k → h j = g j) (e2 : h k = g k + 1) (e3 : ∀ j, k < j → j < n → h j = 0) : m_rgs h n ∧ o_lt g h n ∧ ∀ f, m_rgs f n → o_lt g f n → ¬ o_lt f h n := by
  refine ⟨fun j a b => ?_, ⟨k, by omega, fun j a b => (e1 j a b).symm, by omega⟩, fun f hf hl => ?_⟩
  · by_cases c : j < k
    · obtain ⟨a1, a2⟩ := hg j a b
      rw [e1 j a c]
      exact ⟨a1, a2.elim Or.inl (fun ⟨i, i0, i1, i2⟩ => Or.inr ⟨i, i0, i1, by rw [e1 i i0 (by omega)]; exact i2⟩)⟩
    · by_cases c2 : j = k
      · subst c2
        obtain ⟨a1, -⟩ := hg j a b
        obtain ⟨i, i0, i1, i2⟩ := hm
        refine ⟨by omega, Or.inr ?_⟩
        by_cases c3 : g i = g j
        · exact ⟨i, i0, i1, by rw [e1 i i0 i1, e2]; omega⟩
        · obtain ⟨x, x0, x1, x2⟩ := m_rgs_dn hg (i + 1).toNat i (g j) (by omega) i0 (by omega) a1 (by omega)
          exact ⟨x, x0, by omega, by rw [e1 x x0 (by omega), e2]; omega⟩
      · rw [e3 j (by omega) b]
        exact ⟨Int.le_refl _, Or.inl rfl⟩
  · rintro ⟨y, y0, y1, y2⟩
    obtain ⟨x, x0, x1, x2⟩ := hl
    by_cases c : x < y
    · by_cases c2 : x < k
      · have := y1 x x0.1 c
        rw [e1 x x0.1 c2] at this
        omega
      · by_cases c3 : x = k
        · subst c3
          have := y1 x x0.1 c
          have := e3 y c y0.2
          have := (hf y y0.1 y0.2).1
          omega
        · refine hno x (by omega) x0.2 ?_
          obtain ⟨a1, a2⟩ := hf x x0.1 x0.2
          rcases a2 with a2 | ⟨i, i0, i1, i2⟩
          · have := (hg x x0.1 x0.2).1
            omega
          · exact ⟨i, i0, i1, by rw [x1 i i0 i1]; omega⟩
    · by_cases c2 : y < k
      · rw [e1 y y0.1 c2] at y2
        by_cases c3 : x = y
        · subst c3; omega
        · have := x1 y y0.1 (by omega)
          omega
      · by_cases c3 : y = k
        · subst c3
          by_cases c4 : x = y
          · subst c4; omega
          · refine hno x (by omega) x0.2 ?_
            obtain ⟨a1, a2⟩ := hf x x0.1 x0.2
            rcases a2 with a2 | ⟨i, i0, i1, i2⟩
            · have := (hg x x0.1 x0.2).1
              omega
            · exact ⟨i, i0, i1, by rw [x1 i i0 i1]; omega⟩
        · have := e3 y (by omega) y0.2
          have := (hf y y0.1 y0.2).1
          omega
theorem nx_none {g f : Int → Int} {n : Int} (hg : m_rgs g n) (hno : ∀ k', 0 < k' → k' < n → ¬ m_may g k') (hf : m_rgs f n) : ¬ o_lt g f n := by
  rintro ⟨x, x0, x1, x2⟩
  obtain ⟨a1, a2⟩ := hf x x0.1 x0.2
  have := (hg x x0.1 x0.2).1
  rcases a2 with a2 | ⟨i, i0, i1, i2⟩
  · omega
  · exact hno x (by omega) x0.2 ⟨i, i0, i1, by rw [x1 i i0 i1]; omega⟩
theorem o_tot {f g : Int → Int} : ∀ n : Nat, ¬ o_lt f g n → (∀ j : Int, 0 ≤ j → j < n → f j = g j) ∨ o_lt g f n
  | 0, _ => Or.inl (fun j a b => by omega)
  | n + 1, h => by
    have h' : ¬ o_lt f g n := by
      rintro ⟨k, a, b, c⟩
      exact h ⟨k, by omega, b, c⟩
    rcases o_tot n h' with e | ⟨k, a, b, c⟩
    · rcases Int.lt_trichotomy (f n) (g n) with q | q | q
      · exact absurd ⟨n, by omega, fun j a b => e j a b, q⟩ h
      · refine Or.inl (fun j a b => ?_)
        by_cases z : j = n
        · rw [z]; exact q
        · exact e j a (by omega)
      · exact Or.inr ⟨n, by omega, fun j a b => (e j a b).symm, q⟩
    · exact Or.inr ⟨k, by omega, b, c⟩
def o_val (g : Int → Int) : Nat → Int
  | 0 => 0
  | k + 1 => 10 * o_val g k + g k
theorem o_val_eq {g h : Int → Int} : ∀ n : Nat, (∀ j : Int, 0 ≤ j → j < n → g j = h j) → o_val g n = o_val h n
  | 0, _ => rfl
  | n + 1, e => by rw [o_val, o_val, o_val_eq n (fun j a b => e j a (by omega)), e n (by omega) (by omega)]
theorem o_val_lt {g h : Int → Int} : ∀ n : Nat, (∀ j : Int, 0 ≤ j → j < n → 0 ≤ g j ∧ g j ≤ 9) → (∀ j : Int, 0 ≤ j → j < n → 0 ≤ h j ∧ h j ≤ 9) → o_lt g h n → o_val g n < o_val h n
  | 0, _, _, ⟨k, a, _⟩ => by omega
  | n + 1, hg, hh, ⟨k, a, b, c⟩ => by
    have g1 := hg n (by omega) (by omega)
    have h1 := hh n (by omega) (by omega)
    rw [o_val, o_val]
    by_cases q : k = n
    · subst q
      have := o_val_eq (g := g) (h := h) n (fun j a' b' => b j a' b')
      omega
    · have := o_val_lt n (fun j a' b' => hg j a' (by omega)) (fun j a' b' => hh j a' (by omega)) ⟨k, by omega, b, c⟩
      omega
theorem o_val_b {g : Int → Int} : ∀ n : Nat, (∀ j : Int, 0 ≤ j → j < n → 0 ≤ g j ∧ g j ≤ 9) → 0 ≤ o_val g n ∧ o_val g n < 10 ^ n
  | 0, _ => by rw [o_val]; decide
  | n + 1, hg => by
    have g1 := hg n (by omega) (by omega)
    have := o_val_b n (fun j a' b' => hg j a' (by omega))
    rw [o_val, Int.pow_succ]
    omega
theorem o_val_10 {g : Int → Int} {n : Int} (hn : 0 ≤ n ∧ n ≤ 10) (hg : ∀ j : Int, 0 ≤ j → j < n → 0 ≤ g j ∧ g j ≤ 9) : 0 ≤ o_val g n.toNat ∧ o_val g n.toNat < 10000000000 := by
  have h := o_val_b n.toNat (fun j a b => hg j a (by omega))
  have h2 : (10 : Int) ^ n.toNat ≤ 10 ^ 10 := by
    have : (10 : Nat) ^ n.toNat ≤ 10 ^ 10 := Nat.pow_le_pow_right (by decide) (by omega)
    have e : ((10 ^ n.toNat : Nat) : Int) = (10 : Int) ^ n.toNat := by rw [Int.natCast_pow]; rfl
    have e2 : ((10 ^ 10 : Nat) : Int) = (10 : Int) ^ 10 := by decide
    rw [← e, ← e2]
    exact Int.ofNat_le.mpr this
  have h3 : (10 : Int) ^ 10 = 10000000000 := by decide
  omega
def nf_I (g0 row : Int → Int) (n D : Int) : Prop := m_rgs row n ∧ o_lt g0 row n ∧ (∀ f, m_rgs f n → ¬ m_Cr f n → o_lt g0 f n → ¬ o_lt f row n) ∧ ((D = -1000000 ∧ ¬ m_Cr row n) ∨ (3 ≤ D ∧ D < n ∧ m_Cr row (D + 1)))
def nf_J (row U : Int → Int) (n D k m : Int) : Prop := m_rgs U k ∧ m_mx U k m ∧ (∀ j, 0 ≤ j → j ≤ D → U j = row j) ∧ (∀ j, D < j → j < k → ∀ i, 0 ≤ i → i < j → U i < U j) ∧ ∀ j, k ≤ j → j < n → U j = row j
theorem nf_jump {g0 row U : Int → Int} {n D : Int} (h : nf_I g0 row n D) (hD : 3 ≤ D) (e : ∀ j, 0 ≤ j → j ≤ D → U j = row j) {f : Int → Int} (f1 : m_rgs f n) (f2 : ¬ m_Cr f n) (f3 : o_lt g0 f n) : o_lt U f n := by
  obtain ⟨h1, h2, h3, h4⟩ := h
  have h4 : D < n ∧ m_Cr row (D + 1) := h4.elim (fun z => by omega) (fun z => z.2)
  have nc : ¬ ∀ j, 0 ≤ j → j ≤ D → f j = row j := by
    intro q
    obtain ⟨a, b, c, d, a0, a1, a2, a3, a4, a5, a6, a7⟩ := h4.2
    refine f2 ⟨a, b, c, d, a0, a1, a2, a3, by omega, ?_, ?_, ?_⟩
    · rw [q b (by omega) (by omega), q d (by omega) (by omega)]; exact a5
    · rw [q c (by omega) (by omega), q d (by omega) (by omega)]; exact a6
    · rw [q a (by omega) (by omega), q c (by omega) (by omega)]; exact a7
  have t := o_tot (f := f) (g := row) n.toNat (by rw [show (n.toNat : Int) = n by omega]; exact h3 f f1 f2 f3)
  rw [show (n.toNat : Int) = n by omega] at t
  rcases t with t | ⟨k, a, b, c⟩
  · exact absurd (fun j z0 z1 => t j z0 (by omega)) nc
  · by_cases q : k ≤ D
    · exact ⟨k, a, fun j z0 z1 => by rw [e j z0 (by omega)]; exact b j z0 z1, by rw [e k a.1 q]; exact c⟩
    · exact absurd (fun j z0 z1 => (b j z0 (by omega)).symm) nc
theorem nf_J_S {row U U' : Int → Int} {n D k m v : Int} (h : nf_J row U n D k m) (hr : m_rgs row n) (hD : 3 ≤ D) (k0 : 0 ≤ k) (k1 : k < n) (ev : v = if k ≤ D then row k else m + 1) (e1 : U' k = v) (e2 : ∀ j, j ≠ k → U' j = U j) : nf_J row U' n D (k + 1) (if m < v then v else m) := by
  obtain ⟨h1, h2, h3, h4, h5⟩ := h
  have h2' := h2
  obtain ⟨m0, m1, m2⟩ := h2'
  have lo : ∀ j, j < k → U' j = U j := fun j a => e2 j (by omega)
  refine ⟨fun j a b => ?_, ?_, fun j a b => ?_, fun j a b i c d => ?_, fun j a b => ?_⟩
  · by_cases q : j = k
    · subst q
      rw [e1, ev]
      by_cases z : j ≤ D
      · rw [if_pos z]
        obtain ⟨a1, a2⟩ := hr j a k1
        refine ⟨a1, a2.elim Or.inl (fun ⟨i, i0, i1, i2⟩ => Or.inr ⟨i, i0, i1, ?_⟩)⟩
        rw [lo i i1, h3 i i0 (by omega)]; exact i2
      · rw [if_neg z]
        refine ⟨by omega, Or.inr ?_⟩
        rcases m2 with e | ⟨i, i0, i1, i2⟩
        · have z0 := m1 0 (by omega) (by omega)
          have z1 := (h1 0 (by omega) (by omega)).1
          exact ⟨0, by omega, by omega, by rw [lo 0 (by omega)]; omega⟩
        · exact ⟨i, i0, i1, by rw [lo i i1]; omega⟩
    · obtain ⟨a1, a2⟩ := h1 j a (by omega)
      rw [lo j (by omega)]
      exact ⟨a1, a2.elim Or.inl (fun ⟨i, i0, i1, i2⟩ => Or.inr ⟨i, i0, i1, by rw [lo i (by omega)]; exact i2⟩)⟩
  · have hmx : m_mx U' k m := by
      refine ⟨m0, fun j a b => by rw [lo j b]; exact m1 j a b, ?_⟩
      rcases m2 with e | ⟨i, i0, i1, i2⟩
      · exact Or.inl e
      · exact Or.inr ⟨i, i0, i1, by rw [lo i i1]; exact i2⟩
    by_cases q : m < v
    · rw [if_pos q, ← e1]
      exact m_mx_up hmx k0 (by rw [e1]; exact q)
    · rw [if_neg q]
      exact m_mx_keep hmx k0 (by rw [e1]; omega)
  · by_cases q : j = k
    · subst q
      rw [e1, ev, if_pos b]
    · rw [e2 j q]; exact h3 j a b
  · by_cases q : j = k
    · subst q
      rw [e1, lo i d, ev, if_neg (by omega)]
      have := m1 i c d
      omega
    · rw [lo j (by omega), lo i (by omega)]
      exact h4 j a (by omega) i c d
  · rw [e2 j (by omega)]; exact h5 j (by omega) b
theorem s_M_nextFree {G : am_G} {d : Nat} {sh : Int → Option Nat} {V : am_V} {T : Nat} {Q : Option AV → am_V → am_T → Nat → Prop} {p n : Int} (h0 : 0 ≤ p) (h1 : 1 ≤ n ∧ n ≤ 10) (h2 : p + n ≤ 30) (hr : m_rgs (fun i => V 93 (p + i)) n)
    (hQ1 : ∀ V', (∀ a, a ≠ 93 → V' a = V a) → (∀ j, ¬ (p ≤ j ∧ j < p + n) → V' 93 j = V 93 j) → m_rgs (fun i => V' 93 (p + i)) n → ¬ m_Cr (fun i => V' 93 (p + i)) n → o_lt (fun i => V 93 (p + i)) (fun i => V' 93 (p + i)) n → (∀ f, m_rgs f n → ¬ m_Cr f n → o_lt (fun i => V 93 (p + i)) f n → ¬ o_lt f (fun i => V' 93 (p + i)) n) → Q (some (vI 1)) V' (am_RF sh) T)
    (hQ0 : ∀ V', (∀ a, a ≠ 93 → V' a = V a) → (∀ j, ¬ (p ≤ j ∧ j < p + n) → V' 93 j = V 93 j) → (∀ f, m_rgs f n → ¬ m_Cr f n → ¬ o_lt (fun i => V 93 (p + i)) f n) → Q (some (vI 0)) V' (am_RF sh) T) : am_Calls G (d + 2) 88 [vR 86, vI p, vI n] V (am_RF sh) T Q := by
  obtain ⟨g0, hg0⟩ : ∃ g0 : Int → Int, g0 = fun i => V 93 (p + i) := ⟨_, rfl⟩
  rw [← hg0] at hQ1 hQ0 hr
  have rng : ∀ (W : am_V), m_rgs (fun i => W 93 (p + i)) n → ∀ i, 0 ≤ i → i < n → 0 ≤ W 93 (p + i) ∧ W 93 (p + i) ≤ 9 := fun W w i a b => by
    have q : 0 ≤ W 93 (p + i) ∧ W 93 (p + i) ≤ i := m_rgs_lt w a b
    omega
  have rn3 : ∀ (W : am_V), m_rgs (fun i => W 93 (p + i)) n → ∀ i, p ≤ i → i < p + n → am_in32 (W 93 i) := fun W w i a b => by
    have := rng W w (i - p) (by omega) (by omega)
    rw [show p + (i - p) = i by omega] at this
    omega
  have fin0 : ∀ (W : am_V) (D : Int) (x5 x6 : Option AV), (∀ a, a ≠ 93 → W a = V a) → (∀ j, ¬ (p ≤ j ∧ j < p + n) → W 93 j = V 93 j) → (∀ f, m_rgs f n → ¬ m_Cr f n → ¬ o_lt g0 f n) → am_Sem G (d + 1) 88 V T Q 24 [some (vR 86), some (vI p), some (vI n), some (vI 0), some (vI (-1000000)), x5, x6] [] W (am_RF sh) T 0 0 := by
    intro W D x5 x6 w1 w2 w3
    refine am_run 400 mt_M_nextFree ok_M_nextFree (fun K S hK hS => ?_)
    iterate 30 (all_goals (first
      | (refine And.intro (by omega) ?_)
      | (refine And.intro (fun hb => absurd hb (by omega)) (fun hb => ?_))
      | (refine And.intro (fun hb => ?_) (fun hb => absurd hb (by omega)))
      | (refine And.intro (fun hb => ?_) (fun hb => ?_))
      | (intro hb)
      | (conv => whnf)))
    exact hQ0 W w1 w2 w3
  have loop : ∀ (jj : Nat) (W : am_V) (D : Int) (x5 x6 : Option AV), (∀ a, a ≠ 93 → W a = V a) → (∀ j, ¬ (p ≤ j ∧ j < p + n) → W 93 j = V 93 j) → nf_I g0 (fun i => W 93 (p + i)) n D → 10000000000 - o_val (fun i => W 93 (p + i)) n.toNat < jj → am_Sem G (d + 1) 88 V T Q 24 [some (vR 86), some (vI p), some (vI n), some (vI 1), some (vI D), x5, x6] [] W (am_RF sh) T 0 0 := by
    intro jj
    induction jj with
    | zero =>
      intro W D x5 x6 w1 w2 w3 w4
      have := o_val_10 (g := fun i => W 93 (p + i)) (by omega) (fun j a b => rng W w3.1 j a b)
      omega
    | succ jj ih =>
      intro W D x5 x6 w1 w2 w3 w4
      have w3' := w3
      obtain ⟨i1, i2, i3, i4⟩ := w3'
      have hD : D = -1000000 ∨ (3 ≤ D ∧ D < n) := i4.elim (fun z => Or.inl z.1) (fun z => Or.inr ⟨z.1, z.2.1⟩)
      by_cases hd : D = -1000000
      · have nc : ¬ m_Cr (fun i => W 93 (p + i)) n := i4.elim (fun z => z.2) (fun z => absurd z.1 (by omega))
        clear i4
        subst hd
        refine am_run 400 mt_M_nextFree ok_M_nextFree (fun K S hK hS => ?_)
        iterate 30 (all_goals (first
          | (refine And.intro (by omega) ?_)
          | (refine And.intro (fun hb => absurd hb (by omega)) (fun hb => ?_))
          | (refine And.intro (fun hb => ?_) (fun hb => absurd hb (by omega)))
          | (refine And.intro (fun hb => ?_) (fun hb => ?_))
          | (intro hb)
          | (conv => whnf)))
        exact hQ1 W w1 w2 i1 nc i2 i3
      have hD : 3 ≤ D ∧ D < n := by omega
      clear i4
      have inner : ∀ (jk : Nat) (k m : Int) (U : am_V), 0 ≤ k → k + jk = n → (∀ a, a ≠ 93 → U a = V a) → (∀ j, ¬ (p ≤ j ∧ j < p + n) → U 93 j = V 93 j) → nf_J (fun i => W 93 (p + i)) (fun i => U 93 (p + i)) n D k m → am_Sem G (d + 1) 88 V T Q 37 [some (vR 86), some (vI p), some (vI n), some (vI 1), some (vI D), some (vI m), some (vI k)] [] U (am_RF sh) T 0 0 := by
        intro jk
        induction jk with
        | zero =>
          intro k m U k0 kn u1 u2 u3
          obtain rfl : k = n := by omega
          obtain ⟨q1, q2, q3, q4, q5⟩ := u3
          refine am_run 400 mt_M_nextFree ok_M_nextFree (fun K S hK hS => ?_)
          iterate 30 (all_goals (first
            | (refine And.intro (by omega) ?_)
            | (refine And.intro (fun hb => absurd hb (by omega)) (fun hb => ?_))
            | (refine And.intro (fun hb => ?_) (fun hb => absurd hb (by omega)))
            | (refine And.intro (fun hb => ?_) (fun hb => ?_))
            | (intro hb)
            | (conv => whnf)))
          refine hK (s_M_next h0 h1.1 h2 (fun i a b => by have := rng U q1 i a b; omega) (fun X y y0 y1 y2 y3 x1 x2 x3 x4 => ?_) (fun x1 => ?_))
          · have yD : y ≤ D := by
              by_cases z : y ≤ D
              · exact z
              · exfalso
                obtain ⟨i, b0, b1, b2⟩ := y2
                have := q4 y (by omega) y1 i b0 b1
                omega
            obtain ⟨r1, r2, r3⟩ := nx_least (h := fun i => X 93 (p + i)) q1 y0 y1 y2 y3 (fun j a b => x2 (p + j) (by omega)) x3 (fun j a b => x4 j a b)
            have rw1 : o_lt (fun i => W 93 (p + i)) (fun i => X 93 (p + i)) k := ⟨y, by omega, fun j a b => by
              show W 93 (p + j) = X 93 (p + j)
              rw [x2 (p + j) (by omega)]; exact (q3 j a (by omega)).symm, by
              show W 93 (p + y) < X 93 (p + y)
              have q : U 93 (p + y) = W 93 (p + y) := q3 y (by omega) yD
              omega⟩
            have vl := o_val_lt k.toNat (fun j a b => rng W i1 j a (by omega)) (fun j a b => rng X r1 j a (by omega)) (by rw [show ((k.toNat : Nat) : Int) = k by omega]; exact rw1)
            have ls : ∀ f, m_rgs f k → ¬ m_Cr f k → o_lt g0 f k → ¬ o_lt f (fun i => X 93 (p + i)) k := fun f f1 f2 f3 => r3 f f1 (nf_jump w3 hD.1 q3 f1 f2 f3)
            iterate 30 (all_goals (first
              | (refine And.intro (by omega) ?_)
              | (refine And.intro (fun hb => absurd hb (by omega)) (fun hb => ?_))
              | (refine And.intro (fun hb => ?_) (fun hb => absurd hb (by omega)))
              | (refine And.intro (fun hb => ?_) (fun hb => ?_))
              | (intro hb)
              | (conv => whnf)))
            refine hK (s_M_crossedAt h0 (by omega) h2 (rn3 X r1) (fun r hr => ?_))
            have fr1 : ∀ a, a ≠ 93 → X a = V a := fun a ha => by rw [x1 a ha, u1 a ha]
            have fr2 : ∀ j, ¬ (p ≤ j ∧ j < p + k) → X 93 j = V 93 j := fun j hj => by rw [x2 j (by omega), u2 j hj]
            have hi : nf_I g0 (fun i => X 93 (p + i)) k r := ⟨r1, o_lt_trans i2 rw1, ls, hr.elim Or.inl (fun z => Or.inr ⟨z.1, z.2.1, z.2.2.1⟩)⟩
            have nx := fun x5 x6 => ih X r x5 x6 fr1 fr2 hi (by omega)
            clear hr
            iterate 30 (all_goals (first
              | (refine And.intro (by omega) ?_)
              | (refine And.intro (fun hb => absurd hb (by omega)) (fun hb => ?_))
              | (refine And.intro (fun hb => ?_) (fun hb => absurd hb (by omega)))
              | (refine And.intro (fun hb => ?_) (fun hb => ?_))
              | (intro hb)
              | (conv => whnf)))
            exact hS (nx _ _)
          · have no : ∀ f, m_rgs f k → ¬ m_Cr f k → ¬ o_lt g0 f k := fun f f1 f2 f3 => nx_none q1 x1 f1 (nf_jump w3 hD.1 q3 f1 f2 f3)
            iterate 30 (all_goals (first
              | (refine And.intro (by omega) ?_)
              | (refine And.intro (fun hb => absurd hb (by omega)) (fun hb => ?_))
              | (refine And.intro (fun hb => ?_) (fun hb => absurd hb (by omega)))
              | (refine And.intro (fun hb => ?_) (fun hb => ?_))
              | (intro hb)
              | (conv => whnf)))
            exact hS (fin0 U 0 _ _ u1 u2 no)
        | succ jk ihk =>
          intro k m U k0 kn u1 u2 u3
          have q2 := u3.2.1
          have m0 : 0 ≤ m := q2.1
          have m9 : m ≤ 9 := by
            rcases q2.2.2 with e | ⟨i, i0, i1', i2'⟩
            · omega
            · have i2' : U 93 (p + i) = m := i2'
              have q : 0 ≤ U 93 (p + i) ∧ U 93 (p + i) ≤ i := m_rgs_lt u3.1 i0 i1'
              omega
          have ek : U 93 (p + k) = W 93 (p + k) := u3.2.2.2.2 k (by omega) (by omega)
          have rk := rng W i1 k k0 (by omega)
          have st := fun (U' : am_V) (v : Int) => nf_J_S (U' := fun i => U' 93 (p + i)) (v := v) u3 i1 hD.1 k0 (by omega)
          clear q2
          by_cases c : k ≤ D
          · have s1 := st U (W 93 (p + k)) (by rw [if_pos c]) ek (fun j _ => rfl)
            by_cases c2 : m < W 93 (p + k)
            · rw [if_pos c2] at s1
              have nx := ihk (k + 1) _ U (by omega) (by omega) u1 u2 s1
              rw [← ek] at nx
              refine am_run 400 mt_M_nextFree ok_M_nextFree (fun K S hK hS => ?_)
              iterate 30 (all_goals (first
                | (refine And.intro (by omega) ?_)
                | (refine And.intro (fun hb => absurd hb (by omega)) (fun hb => ?_))
                | (refine And.intro (fun hb => ?_) (fun hb => absurd hb (by omega)))
                | (refine And.intro (fun hb => ?_) (fun hb => ?_))
                | (intro hb)
                | (conv => whnf)))
              exact hS nx
            · rw [if_neg c2] at s1
              have nx := ihk (k + 1) _ U (by omega) (by omega) u1 u2 s1
              refine am_run 400 mt_M_nextFree ok_M_nextFree (fun K S hK hS => ?_)
              iterate 30 (all_goals (first
                | (refine And.intro (by omega) ?_)
                | (refine And.intro (fun hb => absurd hb (by omega)) (fun hb => ?_))
                | (refine And.intro (fun hb => ?_) (fun hb => absurd hb (by omega)))
                | (refine And.intro (fun hb => ?_) (fun hb => ?_))
                | (intro hb)
                | (conv => whnf)))
              exact hS nx
          · have a1 : am_up U 93 (p + k) (m + 1) 93 (p + k) = m + 1 := by rw [am_up_at, if_pos rfl]
            have s1 := st (am_up U 93 (p + k) (m + 1)) (m + 1) (by rw [if_neg c]) a1 (fun j hj => by
              show am_up U 93 (p + k) (m + 1) 93 (p + j) = U 93 (p + j)
              rw [am_up_at, if_neg (by omega)])
            rw [if_pos (by omega)] at s1
            have nx := ihk (k + 1) _ (am_up U 93 (p + k) (m + 1)) (by omega) (by omega) (fun a ha => by rw [am_up_ne ha, u1 a ha]) (fun j hj => by rw [am_up_at, if_neg (by omega), u2 j hj]) s1
            refine am_run 400 mt_M_nextFree ok_M_nextFree (fun K S hK hS => ?_)
            iterate 30 (all_goals (first
              | (refine And.intro (by omega) ?_)
              | (refine And.intro (by decide) ?_)
              | (refine And.intro (fun hb => absurd hb (by omega)) (fun hb => ?_))
              | (refine And.intro (fun hb => ?_) (fun hb => absurd hb (by omega)))
              | (refine And.intro (fun hb => ?_) (fun hb => ?_))
              | (intro hb)
              | (simp only [a1])
              | (conv => whnf)))
            exact hS nx
      have st0 := inner n.toNat 0 0 W (by omega) (by omega) w1 w2 ⟨fun j a b => by omega, ⟨Int.le_refl _, fun j a b => by omega, Or.inl rfl⟩, fun j _ _ => rfl, fun j a b => by omega, fun j _ _ => rfl⟩
      refine am_run 400 mt_M_nextFree ok_M_nextFree (fun K S hK hS => ?_)
      iterate 30 (all_goals (first
        | (refine And.intro (by omega) ?_)
        | (refine And.intro (fun hb => absurd hb (by omega)) (fun hb => ?_))
        | (refine And.intro (fun hb => ?_) (fun hb => absurd hb (by omega)))
        | (refine And.intro (fun hb => ?_) (fun hb => ?_))
        | (intro hb)
        | (conv => whnf)))
      exact hS st0
  refine am_enter mt_M_nextFree ok_M_nextFree rfl ?_
  have hr' : m_rgs (fun i => V 93 (p + i)) n := by rw [hg0] at hr; exact hr
  refine am_run 400 mt_M_nextFree ok_M_nextFree (fun K S hK hS => ?_)
  iterate 30 (all_goals (first
    | (refine And.intro (by omega) ?_)
    | (refine And.intro (fun hb => absurd hb (by omega)) (fun hb => ?_))
    | (refine And.intro (fun hb => ?_) (fun hb => absurd hb (by omega)))
    | (refine And.intro (fun hb => ?_) (fun hb => ?_))
    | (intro hb)
    | (conv => whnf)))
  refine hK (s_M_next h0 h1.1 h2 (fun i a b => by have := rng V hr' i a b; omega) (fun X y y0 y1 y2 y3 x1 x2 x3 x4 => ?_) (fun x1 => ?_))
  · rw [← hg0] at y2 y3
    have gE : ∀ j, V 93 (p + j) = g0 j := fun j => by rw [hg0]
    obtain ⟨r1, r2, r3⟩ := nx_least (h := fun i => X 93 (p + i)) hr y0 y1 y2 y3 (fun j a b => by
      show X 93 (p + j) = g0 j
      rw [x2 (p + j) (by omega), gE]) (by
      show X 93 (p + y) = g0 y + 1
      rw [x3, gE]) (fun j a b => x4 j a b)
    iterate 30 (all_goals (first
      | (refine And.intro (by omega) ?_)
      | (refine And.intro (fun hb => absurd hb (by omega)) (fun hb => ?_))
      | (refine And.intro (fun hb => ?_) (fun hb => absurd hb (by omega)))
      | (refine And.intro (fun hb => ?_) (fun hb => ?_))
      | (intro hb)
      | (conv => whnf)))
    refine hK (s_M_crossedAt h0 (by omega) h2 (rn3 X r1) (fun r hr => ?_))
    have hi : nf_I g0 (fun i => X 93 (p + i)) n r := ⟨r1, r2, fun f f1 _ f3 => r3 f f1 f3, hr.elim Or.inl (fun z => Or.inr ⟨z.1, z.2.1, z.2.2.1⟩)⟩
    have vb := o_val_10 (g := fun i => X 93 (p + i)) (by omega) (fun j a b => rng X r1 j a b)
    have nx := fun x5 x6 => loop 10000000001 X r x5 x6 x1 (fun j hj => x2 j (by omega)) hi (by omega)
    clear hr
    iterate 30 (all_goals (first
      | (refine And.intro (by omega) ?_)
      | (refine And.intro (fun hb => absurd hb (by omega)) (fun hb => ?_))
      | (refine And.intro (fun hb => ?_) (fun hb => absurd hb (by omega)))
      | (refine And.intro (fun hb => ?_) (fun hb => ?_))
      | (intro hb)
      | (conv => whnf)))
    exact hS (nx _ _)
  · rw [← hg0] at x1
    have no : ∀ f, m_rgs f n → ¬ m_Cr f n → ¬ o_lt g0 f n := fun f f1 _ => nx_none hr x1 f1
    iterate 30 (all_goals (first
      | (refine And.intro (by omega) ?_)
      | (refine And.intro (fun hb => absurd hb (by omega)) (fun hb => ?_))
      | (refine And.intro (fun hb => ?_) (fun hb => absurd hb (by omega)))
      | (refine And.intro (fun hb => ?_) (fun hb => ?_))
      | (intro hb)
      | (conv => whnf)))
    exact hS (fin0 V 0 _ _ (fun _ _ => rfl) (fun _ _ => rfl) no)
