/-! the join: what is together in it. M: what is together in both complements -/
theorem m_clq_sub1 {g : Int → Int} {n i j k : Int} (h0 : -1 ≤ i) (h1 : i ≤ j) (h2 : j ≤ k) (h3 : k < n) (a : m_cl g n i k) (b : m_cl g n i j) : m_cl g n j k := by
  intro x y c1 c2 c3 c4 c5 e
  by_cases q : i < y ∧ y ≤ j
  · exact b y x q.1 q.2 (by omega) (by omega) (by omega) e.symm
  · exact a x y (by omega) c2 c3 c4 (by omega) e
theorem m_clq_sub2 {g : Int → Int} {n i j k : Int} (h0 : -1 ≤ i) (h1 : i ≤ j) (h2 : j ≤ k) (h3 : k < n) (a : m_cl g n i k) (b : m_cl g n j k) : m_cl g n i j := by
  intro x y c1 c2 c3 c4 c5 e
  by_cases q : j < y ∧ y ≤ k
  · exact b y x q.1 q.2 (by omega) (by omega) (by omega) e.symm
  · exact a x y c1 (by omega) c3 c4 (by omega) e
theorem m_krq_trans {g : Int → Int} {n x y z : Int} (hx : -1 ≤ x ∧ x < n) (hy : -1 ≤ y ∧ y < n) (hz : -1 ≤ z ∧ z < n) (h : m_kr g n x y) (h' : m_kr g n y z) : m_kr g n x z := by
  rcases h with ⟨a, b⟩ | ⟨a, b⟩ <;> rcases h' with ⟨c, e⟩ | ⟨c, e⟩
  · exact Or.inl ⟨by omega, m_cl_trans a c b e⟩
  · by_cases q : x ≤ z
    · exact Or.inl ⟨q, m_clq_sub2 hx.1 q c hy.2 b e⟩
    · exact Or.inr ⟨by omega, m_clq_sub2 hz.1 (by omega) a hy.2 e b⟩
  · by_cases q : x ≤ z
    · exact Or.inl ⟨q, m_clq_sub1 hy.1 a q hz.2 e b⟩
    · exact Or.inr ⟨by omega, m_clq_sub1 hy.1 c (by omega) hx.2 b e⟩
  · exact Or.inr ⟨by omega, m_cl_trans c a e b⟩
/-- what lies round is as closed as what lies between -/
theorem m_cl_round {g : Int → Int} {n k : Int} : m_cl g n (-1) k → m_cl g n k (n - 1) := fun h x y a b c e f q => by
  exact h y x (by omega) (by omega) (by omega) (by omega) (by omega) q.symm
theorem m_cl_round' {g : Int → Int} {n k : Int} (hk : k < n) : m_cl g n k (n - 1) → m_cl g n (-1) k := fun h x y a b c e f q => by
  exact h y x (by omega) (by omega) (by omega) (by omega) (by omega) q.symm
theorem m_kr_round {g : Int → Int} {n k : Int} (hk : 0 ≤ k ∧ k < n) : m_kr g n (n - 1) k ↔ m_kr g n (-1) k := by
  constructor
  · rintro (⟨a, b⟩ | ⟨a, b⟩)
    · refine Or.inl ⟨by omega, ?_⟩
      rw [show k = n - 1 by omega]
      exact m_cl_round' (by omega) (m_cl_refl g n (n - 1))
    · exact Or.inl ⟨by omega, m_cl_round' hk.2 b⟩
  · rintro (⟨a, b⟩ | ⟨a, b⟩)
    · exact Or.inr ⟨by omega, m_cl_round b⟩
    · omega
/-- the class's row -/
theorem jn_turn {g : Int → Int} {n i j : Int} (hi : 0 ≤ i ∧ i < n) (hj : 0 ≤ j ∧ j < n) : m_kr g n (if i + (n - 1) < n then i + (n - 1) else i + (n - 1) - n) (if j + (n - 1) < n then j + (n - 1) else j + (n - 1) - n) ↔ m_kr g n (i - 1) (j - 1) := by
  by_cases a : i = 0
  · by_cases b : j = 0
    · subst a; subst b
      exact ⟨fun _ => m_kr_refl g n _, fun _ => m_kr_refl g n _⟩
    · subst a
      rw [if_pos (by omega), if_neg (by omega), show (0 : Int) + (n - 1) = n - 1 by omega, show j + (n - 1) - n = j - 1 by omega, show (0 : Int) - 1 = -1 by omega]
      exact m_kr_round (by omega)
  · by_cases b : j = 0
    · subst b
      rw [if_neg (by omega), if_pos (by omega), show (0 : Int) + (n - 1) = n - 1 by omega, show i + (n - 1) - n = i - 1 by omega, show (0 : Int) - 1 = -1 by omega]
      have := m_kr_round (g := g) (n := n) (k := i - 1) (by omega)
      exact ⟨fun h => m_kr_symm (this.mp (m_kr_symm h)), fun h => m_kr_symm (this.mpr (m_kr_symm h))⟩
    · rw [if_neg (by omega), if_neg (by omega), show i + (n - 1) - n = i - 1 by omega, show j + (n - 1) - n = j - 1 by omega]
/-- M is the meet of the complements of A and B -/
def jm (A B M : Int → Int) (n : Int) : Prop := ∀ u v, 0 ≤ u → u < n → 0 ≤ v → v < n → (M u = M v ↔ m_kr A n u v ∧ m_kr B n u v)
abbrev jn (M : Int → Int) (n x y : Int) : Prop := m_kr M n (x - 1) (y - 1)
theorem jn_trans {M : Int → Int} {n x y z : Int} (hx : 0 ≤ x ∧ x < n) (hy : 0 ≤ y ∧ y < n) (hz : 0 ≤ z ∧ z < n) (h : jn M n x y) (h' : jn M n y z) : jn M n x z := m_krq_trans (by omega) (by omega) (by omega) h h'
theorem jn_in {A M : Int → Int} {n x y : Int} (hM : ∀ u v, 0 ≤ u → u < n → 0 ≤ v → v < n → M u = M v → m_kr A n u v) (hx : 0 ≤ x) (hxy : x < y) (hy : y < n) (e : A x = A y) : jn M n x y := by
  refine Or.inl ⟨by omega, fun u v u1 u2 v1 v2 v3 q => ?_⟩
  rcases hM u v (by omega) (by omega) v1 v2 q with ⟨a, b⟩ | ⟨a, b⟩
  · exact b y x (by omega) (by omega) hx (by omega) (by omega) e.symm
  · exact b x y (by omega) (by omega) (by omega) hy (by omega) e
theorem jn_free {M : Int → Int} {n i j l r : Int} (h0 : 0 ≤ i) (h1 : i < j) (h2 : j < l) (h3 : l < r) (h4 : r < n) (a : jn M n i l) (b : jn M n j r) : jn M n i j := by
  have a' : m_cl M n (i - 1) (l - 1) := a.elim (fun z => z.2) (fun z => by omega)
  have b' : m_cl M n (j - 1) (r - 1) := b.elim (fun z => z.2) (fun z => by omega)
  have c : m_cl M n (j - 1) (l - 1) := fun u v u1 u2 v1 v2 v3 q => by
    by_cases z : v ≤ j - 1
    · exact b' u v u1 (by omega) v1 v2 (by omega) q
    · exact a' u v (by omega) u2 v1 v2 (by omega) q
  exact jn_trans (y := l) (by omega) (by omega) (by omega) a (m_kr_symm (Or.inl ⟨by omega, c⟩))
theorem m_kr_fine {A t : Int → Int} {n u v : Int} (hu : 0 ≤ u ∧ u < n) (hv : 0 ≤ v ∧ v < n) (h : ∀ x y, 0 ≤ x → x < n → 0 ≤ y → y < n → A x = A y → t x = t y) (k : m_kr t n u v) : m_kr A n u v := by
  rcases k with ⟨a, b⟩ | ⟨a, b⟩
  · exact Or.inl ⟨a, fun x y c1 c2 c3 c4 c5 q => b x y c1 c2 c3 c4 c5 (h x y (by omega) (by omega) c3 c4 q)⟩
  · exact Or.inr ⟨a, fun x y c1 c2 c3 c4 c5 q => b x y c1 c2 c3 c4 c5 (h x y (by omega) (by omega) c3 c4 q)⟩
theorem jn_least0 {t : Int → Int} {n : Int} (hF : ¬ m_Cr t n) : ∀ (jj : Nat) (x y : Int), y - x ≤ jj → 0 ≤ x → x < y → y < n → (∀ u v, x ≤ u → u < y → 0 ≤ v → v < n → (v < x ∨ y ≤ v) → ¬ m_kr t n u v) → t x = t y := by
  intro jj
  induction jj with
  | zero => intro x y a1 a2 a3; omega
  | succ jj ih =>
    intro x y a1 a2 a3 a4 c
    obtain ⟨w, hw⟩ := ob_C_ex (g := t) (n := n) (x := y - 1) (by omega)
    have kw := ob_C_kr hF hw
    obtain ⟨-, h0, h1, -⟩ := hw
    rw [if_pos (by omega), show y - 1 + 1 = y by omega] at h1
    have wr : x ≤ w ∧ w < y := by
      by_cases z : x ≤ w ∧ w < y
      · exact z
      · exact absurd kw (c (y - 1) w (by omega) (by omega) h0.1 h0.2 (by omega))
    by_cases q : w = x
    · rw [← q]; exact h1
    · rw [← h1]
      refine ih x w (by omega) a2 (by omega) (by omega) (fun u v u1 u2 v1 v2 v3 k => ?_)
      by_cases z : v < x ∨ y ≤ v
      · exact c u v u1 (by omega) v1 v2 z k
      · rcases k with ⟨k1, k2⟩ | ⟨k1, k2⟩
        · exact k2 w y (by omega) (by omega) (by omega) a4 (by omega) h1
        · omega
theorem jn_least {A B M t : Int → Int} {n x y : Int} (hM : jm A B M n) (hF : ¬ m_Cr t n) (hA : ∀ x y, 0 ≤ x → x < n → 0 ≤ y → y < n → A x = A y → t x = t y) (hB : ∀ x y, 0 ≤ x → x < n → 0 ≤ y → y < n → B x = B y → t x = t y) (hx : 0 ≤ x ∧ x < n) (hy : 0 ≤ y ∧ y < n) (h : jn M n x y) : t x = t y := by
  have key : ∀ x y, 0 ≤ x → x < y → y < n → m_cl M n (x - 1) (y - 1) → t x = t y := fun x y a1 a2 a3 c => jn_least0 hF (y - x).toNat x y (by omega) a1 a2 a3 (fun u v u1 u2 v1 v2 v3 k =>
    c u v (by omega) (by omega) v1 v2 (by omega) ((hM u v (by omega) (by omega) v1 v2).mpr ⟨m_kr_fine (by omega) (by omega) hA k, m_kr_fine (by omega) (by omega) hB k⟩))
  by_cases q : x = y
  · rw [q]
  · rcases h with ⟨a, b⟩ | ⟨a, b⟩
    · exact key x y hx.1 (by omega) hy.2 b
    · exact (key y x hy.1 (by omega) hx.2 b).symm
/-! blocks that are merged -/
theorem m_cg_mg {g h : Int → Int} {b : Int} : ∀ n : Nat, (∀ i : Int, 0 ≤ i → i < n → h i = b → g i = b) → m_cg h b n ≤ m_cg g b n
  | 0, _ => Int.le_refl _
  | n + 1, H => by
    have := m_cg_mg n (fun i a c => H i a (by omega))
    rw [m_cg, m_cg]
    by_cases q : h n = b
    · rw [if_pos q, if_pos (H n (by omega) (by omega) q)]; omega
    · rw [if_neg q]; split <;> omega
theorem m_cg_ml {g h : Int → Int} {b : Int} : ∀ n : Nat, (∀ i : Int, 0 ≤ i → i < n → h i = b → g i = b) → ∀ k : Int, 0 ≤ k → k < n → g k = b → h k ≠ b → m_cg h b n < m_cg g b n
  | 0, _, k, a, c, _, _ => by omega
  | n + 1, H, k, a, c, e, f => by
    rw [m_cg, m_cg]
    by_cases q : k = n
    · subst q
      have := m_cg_mg n (fun i a c => H i a (by omega))
      rw [if_neg f, if_pos e]; omega
    · have := m_cg_ml n (fun i a c => H i a (by omega)) k a (by omega) e f
      by_cases q : h n = b
      · rw [if_pos q, if_pos (H n (by omega) (by omega) q)]; omega
      · rw [if_neg q]; split <;> omega
def jt (M t : Int → Int) (n : Int) : Prop := (∀ x, 0 ≤ x → x < n → (0 ≤ t x ∧ t x < n) ∧ t (t x) = t x) ∧ ∀ x y, 0 ≤ x → x < n → 0 ≤ y → y < n → t x = t y → jn M n x y
abbrev jl (t : Int → Int) (n : Int) : Int := m_cg (fun k => t k - k) 0 n.toNat
theorem jt_mix {M t t' : Int → Int} {n x y : Int} (h : jt M t n) (hx : 0 ≤ x ∧ x < n) (hy : 0 ≤ y ∧ y < n) (hj : jn M n x y) (ne : t x ≠ t y) (e : ∀ j, 0 ≤ j → j < n → t' j = if t j = t y then t x else t j) : jt M t' n ∧ jl t' n < jl t n := by
  obtain ⟨h1, h2⟩ := h
  have e1 : ∀ j, 0 ≤ j → j < n → t j = t y → t' j = t x := fun j a b c => by rw [e j a b, if_pos c]
  have e2 : ∀ j, 0 ≤ j → j < n → t j ≠ t y → t' j = t j := fun j a b c => by rw [e j a b, if_neg c]
  have tx := h1 x hx.1 hx.2
  have ty := h1 y hy.1 hy.2
  have txx : t' (t x) = t x := by rw [e2 (t x) tx.1.1 tx.1.2 (by rw [tx.2]; exact ne)]; exact tx.2
  refine ⟨⟨fun z z0 z1 => ?_, fun u v u0 u1 v0 v1 q => ?_⟩, ?_⟩
  · have tz := h1 z z0 z1
    by_cases c : t z = t y
    · rw [e1 z z0 z1 c]; exact ⟨tx.1, txx⟩
    · rw [e2 z z0 z1 c]; exact ⟨tz.1, by rw [e2 (t z) tz.1.1 tz.1.2 (by rw [tz.2]; exact c)]; exact tz.2⟩
  · by_cases c : t u = t y <;> by_cases c' : t v = t y
    · exact h2 u v u0 u1 v0 v1 (c.trans c'.symm)
    · rw [e1 u u0 u1 c, e2 v v0 v1 c'] at q
      exact jn_trans ⟨u0, u1⟩ hy ⟨v0, v1⟩ (h2 u y u0 u1 hy.1 hy.2 c) (jn_trans hy hx ⟨v0, v1⟩ (m_kr_symm hj) (h2 x v hx.1 hx.2 v0 v1 q))
    · rw [e2 u u0 u1 c, e1 v v0 v1 c'] at q
      exact jn_trans ⟨u0, u1⟩ hx ⟨v0, v1⟩ (h2 u x u0 u1 hx.1 hx.2 q) (jn_trans hx hy ⟨v0, v1⟩ hj (h2 y v hy.1 hy.2 v0 v1 c'.symm))
    · rw [e2 u u0 u1 c, e2 v v0 v1 c'] at q
      exact h2 u v u0 u1 v0 v1 q
  · refine m_cg_ml n.toNat (fun i i0 i1 q => ?_) (t y) ty.1.1 (by omega) (by show t (t y) - t y = 0; rw [ty.2]; omega) (by
      show t' (t y) - t y ≠ 0
      rw [e1 (t y) ty.1.1 ty.1.2 ty.2]; omega)
    have q : t' i - i = 0 := q
    show t i - i = 0
    by_cases c : t i = t y
    · exfalso
      rw [e1 i i0 (by omega) c] at q
      have z : i = t x := by omega
      rw [z, tx.2] at c
      exact ne c
    · rw [e2 i i0 (by omega) c] at q
      exact q
theorem jt_cross {M t : Int → Int} {n x y : Int} (h : jt M t n) (hx : 0 ≤ x ∧ x < n) (hy : 0 ≤ y ∧ y < n) (c : m_xg t n (t x) (t y)) : jn M n x y := by
  have key : ∀ x y, (0 ≤ x ∧ x < n) → (0 ≤ y ∧ y < n) → m_c4 t n (t x) (t y) → jn M n x y := fun x y hx hy c => by
    obtain ⟨i, j, l, r, a1, a2, a3, a4, a5, b1, b2, b3, b4⟩ := c
    have c1 := h.2 i l a1 (by omega) (by omega) (by omega) (b1.trans b3.symm)
    have c2 := h.2 j r (by omega) (by omega) (by omega) a5 (b2.trans b4.symm)
    have c3 := jn_free a1 a2 a3 a4 a5 c1 c2
    exact jn_trans hx (y := i) (by omega) hy (h.2 x i hx.1 hx.2 a1 (by omega) b1.symm) (jn_trans (y := j) (by omega) (by omega) hy c3 (h.2 j y (by omega) (by omega) hy.1 hy.2 b2))
  rcases c with c | c
  · exact key x y hx hy c
  · exact m_kr_symm (key y x hy hx c)
/-- nothing more to merge -/
theorem jt_done {A B M t : Int → Int} {n : Int} (hM : jm A B M n) (h : jt M t n) (s : ∀ x y, 0 ≤ x → x < y → y < n → (A x = A y ∨ B x = B y ∨ m_xg t n (t x) (t y)) → t x = t y) {x y : Int} (hx : 0 ≤ x ∧ x < n) (hy : 0 ≤ y ∧ y < n) : t x = t y ↔ jn M n x y := by
  have sw : ∀ (A' : Int → Int), (∀ x y, 0 ≤ x → x < y → y < n → A' x = A' y → t x = t y) → ∀ x y, 0 ≤ x → x < n → 0 ≤ y → y < n → A' x = A' y → t x = t y := fun A' H x y x0 x1 y0 y1 e => by
    rcases Int.lt_trichotomy x y with q | q | q
    · exact H x y x0 q y1 e
    · rw [q]
    · exact (H y x y0 q x1 e.symm).symm
  refine ⟨h.2 x y hx.1 hx.2 hy.1 hy.2, jn_least hM (fun c => ?_) (sw A (fun x y a b c e => s x y a b c (Or.inl e))) (sw B (fun x y a b c e => s x y a b c (Or.inr (Or.inl e)))) hx hy⟩
  obtain ⟨a, b, c, d, a1, a2, a3, a4, a5, e1, e2, e3⟩ := c
  have := s a b a1 a2 (by omega) (Or.inr (Or.inr (Or.inl ⟨a, b, c, d, a1, a2, a3, a4, a5, rfl, rfl, e3.symm, e1.symm⟩)))
  exact e2 (by rw [← e3, this, e1])
