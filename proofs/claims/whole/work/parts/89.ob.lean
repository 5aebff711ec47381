/-! rings of a way that goes round: how they are labelled -/
def ob_fn (C : Int → Int → Prop) (n : Int) : Prop := (∀ x y, C x y → (0 ≤ x ∧ x < n) ∧ 0 ≤ y ∧ y < n) ∧ (∀ x y y', C x y → C x y' → y = y') ∧ (∀ x x' y, C x y → C x' y → x = x')
def ob_eqv (C E : Int → Int → Prop) : Prop := (∀ x, E x x) ∧ (∀ x y, E x y → E y x) ∧ (∀ x y z, E x y → E y z → E x z) ∧ ∀ x y, C x y → E x y
def ob_out (C : Int → Int → Prop) (n : Int) (L : Int → Int) (k r : Int) : Prop := (0 ≤ r ∧ r ≤ k) ∧ (∀ x, 0 ≤ x → x < n → L x = -1 ∨ (0 ≤ L x ∧ L x < r)) ∧ (∀ x y, C x y → L y = L x) ∧ (∀ x, 0 ≤ x → x < k → L x ≠ -1) ∧ (∀ b, 0 ≤ b → b < r → ∃ x, 0 ≤ x ∧ x < k ∧ L x = b) ∧ ∀ E, ob_eqv C E → ∀ x y, 0 ≤ x → x < n → 0 ≤ y → y < n → L x = L y → L x ≠ -1 → E x y
def ob_in (C : Int → Int → Prop) (n : Int) (L : Int → Int) (k r at_ z : Int) (M : Int → Int) : Prop := (0 ≤ at_ ∧ at_ < n) ∧ (∀ x, 0 ≤ x → x < n → M x = L x ∨ (L x = -1 ∧ M x = r)) ∧ (∀ x y, C x y → M x = r → y = at_ ∨ M y = r) ∧ (∀ x y, C x y → M y = r → y = k ∨ (M x = r ∧ x ≠ z)) ∧ ((at_ = k ∧ ∀ x, 0 ≤ x → x < n → M x = L x) ∨ (M k = r ∧ M z = r ∧ C z at_)) ∧ ∀ E, ob_eqv C E → E k at_ ∧ ∀ x, 0 ≤ x → x < n → M x = r → E k x
theorem ob_begin {C : Int → Int → Prop} {n k r : Int} {L : Int → Int} (hf : ob_fn C n) (o : ob_out C n L k r) (hk : 0 ≤ k ∧ k < n) : ob_in C n L k r k k L := by
  obtain ⟨o0, o1, o2, o3, o4, o5⟩ := o
  have no : ∀ x, 0 ≤ x → x < n → L x ≠ r := fun x a b => by have := o1 x a b; omega
  exact ⟨hk, fun x _ _ => Or.inl rfl, fun x y c e => absurd e (no x (hf.1 x y c).1.1 (hf.1 x y c).1.2), fun x y c e => absurd e (no y (hf.1 x y c).2.1 (hf.1 x y c).2.2), Or.inl ⟨rfl, fun x _ _ => rfl⟩, fun E hE => ⟨hE.1 k, fun x a b e => absurd e (no x a b)⟩⟩
theorem ob_step {C : Int → Int → Prop} {n k r at_ z y' : Int} {L M M' : Int → Int} (hf : ob_fn C n) (hr : 0 ≤ r) (i : ob_in C n L k r at_ z M) (hm : M at_ = -1) (hc : C at_ y') (e : ∀ j, M' j = if j = at_ then r else M j) : ob_in C n L k r y' at_ M' := by
  obtain ⟨i0, i1, i2, i3, i4, i6⟩ := i
  have ea : M' at_ = r := by rw [e, if_pos rfl]
  have en : ∀ j, j ≠ at_ → M' j = M j := fun j h => by rw [e, if_neg h]
  have er : ∀ j, M j = r → M' j = r ∧ j ≠ at_ := fun j h => by
    have : j ≠ at_ := fun q => by rw [q] at h; omega
    exact ⟨by rw [en j this]; exact h, this⟩
  refine ⟨(hf.1 _ _ hc).2, fun x a b => ?_, fun x y c h => ?_, fun x y c h => ?_, Or.inr ⟨?_, ea, hc⟩, fun E hE => ?_⟩
  · by_cases q : x = at_
    · subst q
      have := i1 x a b
      exact Or.inr ⟨by omega, ea⟩
    · rw [en x q]; exact i1 x a b
  · by_cases q : x = at_
    · subst q
      exact Or.inl (hf.2.1 _ _ _ c hc)
    · rw [en x q] at h
      rcases i2 x y c h with w | w
      · exact Or.inr (by rw [w]; exact ea)
      · exact Or.inr (er y w).1
  · by_cases q : y = at_
    · subst q
      rcases i4 with ⟨w, -⟩ | ⟨w1, w2, w3⟩
      · exact Or.inl w
      · have := hf.2.2 _ _ _ c w3
        subst this
        exact Or.inr (er x w2)
    · rw [en y q] at h
      rcases i3 x y c h with w | w
      · exact Or.inl w
      · exact Or.inr (er x w.1)
  · rcases i4 with ⟨w, -⟩ | ⟨w, -⟩
    · rw [← w]; exact ea
    · exact (er k w).1
  · obtain ⟨w1, w2⟩ := i6 E hE
    refine ⟨hE.2.2.1 _ _ _ w1 (hE.2.2.2 _ _ hc), fun x a b h => ?_⟩
    by_cases q : x = at_
    · rw [q]; exact w1
    · rw [en x q] at h
      exact w2 x a b h
theorem ob_end {C : Int → Int → Prop} {n k r at_ z : Int} {L M : Int → Int} (hf : ob_fn C n) (o : ob_out C n L k r) (hk : 0 ≤ k ∧ k < n) (hL : L k = -1) (i : ob_in C n L k r at_ z M) (hm : M at_ ≠ -1) : ob_out C n M (k + 1) (r + 1) := by
  obtain ⟨o0, o1, o2, o3, o4, o5⟩ := o
  obtain ⟨i0, i1, i2, i3, i4, i6⟩ := i
  rcases i4 with ⟨w, w'⟩ | ⟨w1, w2, w3⟩
  · exfalso
    have := w' k hk.1 hk.2
    rw [w] at hm
    omega
  · have old : ∀ x, 0 ≤ x → x < n → M x ≠ r → M x = L x := fun x a b h => by
      rcases i1 x a b with q | q
      · exact q
      · exact absurd q.2 h
    have hz := (hf.1 _ _ w3).1
    have Lz : L z = -1 := by
      have a := i1 z hz.1 hz.2
      have b := o1 z hz.1 hz.2
      omega
    have eat : at_ = k := by
      by_cases q : M at_ = r
      · rcases i3 _ _ w3 q with h | h
        · exact h
        · exact absurd rfl h.2
      · have a := old at_ i0.1 i0.2 q
        have b := o2 _ _ w3
        omega
    refine ⟨by omega, fun x a b => ?_, fun x y c => ?_, fun x a b => ?_, fun b h0 h1 => ?_, fun E hE x y a1 a2 b1 b2 h h' => ?_⟩
    · have h1 := i1 x a b
      have h2 := o1 x a b
      omega
    · have cr := hf.1 _ _ c
      by_cases q : M x = r
      · rcases i2 x y c q with h | h
        · rw [h, eat, w1, q]
        · rw [h, q]
      · by_cases q2 : M y = r
        · exfalso
          rcases i3 x y c q2 with h | h
          · rw [h, ← eat] at c
            have := hf.2.2 _ _ _ c w3
            rw [this] at q
            exact q w2
          · exact q h.1
        · rw [old x cr.1.1 cr.1.2 q, old y cr.2.1 cr.2.2 q2]
          exact o2 x y c
    · by_cases q : x = k
      · rw [q, w1]; omega
      · have h1 := o3 x a (by omega)
        have h2 := i1 x a (by omega)
        omega
    · by_cases q : b = r
      · exact ⟨k, hk.1, by omega, by rw [w1]; exact q.symm⟩
      · obtain ⟨x, x0, x1, x2⟩ := o4 b h0 (by omega)
        refine ⟨x, x0, by omega, ?_⟩
        have := i1 x x0 (by omega)
        omega
    · by_cases q : M x = r
      · have e1 := (i6 E hE).2 x a1 a2 q
        have e2 := (i6 E hE).2 y b1 b2 (by rw [← h]; exact q)
        exact hE.2.2.1 _ _ _ (hE.2.1 _ _ e1) e2
      · rw [old x a1 a2 q] at h h'
        rw [old y b1 b2 (by rw [← h, ← old x a1 a2 q]; exact q)] at h
        exact o5 E hE x y a1 a2 b1 b2 h h'
theorem ob_skip {C : Int → Int → Prop} {n k r : Int} {L : Int → Int} (o : ob_out C n L k r) (hL : L k ≠ -1) : ob_out C n L (k + 1) r := by
  obtain ⟨o0, o1, o2, o3, o4, o5⟩ := o
  refine ⟨by omega, o1, o2, fun x a b => ?_, fun b h0 h1 => ?_, o5⟩
  · by_cases q : x = k
    · rw [q]; exact hL
    · exact o3 x a (by omega)
  · obtain ⟨x, x0, x1, x2⟩ := o4 b h0 h1
    exact ⟨x, x0, by omega, x2⟩
theorem ob_zero {C : Int → Int → Prop} {n : Int} {L : Int → Int} (hf : ob_fn C n) (h : ∀ x, 0 ≤ x → x < n → L x = -1) : ob_out C n L 0 0 :=
  ⟨by omega, fun x a b => Or.inl (h x a b), fun x y c => by rw [h x (hf.1 x y c).1.1 (hf.1 x y c).1.2, h y (hf.1 x y c).2.1 (hf.1 x y c).2.2], fun x a b => absurd b (by omega), fun b a c => absurd c (by omega), fun E _ x y a b _ _ _ q => absurd (h x a b) q⟩
/-- fewer are left when one is changed -/
theorem m_cg_up {g h : Int → Int} {b a v : Int} (h0 : 0 ≤ a) (ha : g a = b) (hv : v ≠ b) (e : ∀ j, h j = if j = a then v else g j) : ∀ n : Nat, m_cg h b n = if a < n then m_cg g b n - 1 else m_cg g b n
  | 0 => by rw [if_neg (by omega)]; rfl
  | n + 1 => by
    rw [m_cg, m_cg, m_cg_up h0 ha hv e n, e n]
    by_cases q : a < n
    · rw [if_pos q, if_neg (show ¬ (n : Int) = a by omega), if_pos (show a < ((n + 1 : Nat) : Int) by omega)]
      split <;> omega
    · rw [if_neg q]
      by_cases q2 : (n : Int) = a
      · rw [if_pos q2, if_neg hv, if_pos (show a < ((n + 1 : Nat) : Int) by omega), q2, if_pos ha]; omega
      · rw [if_neg q2, if_neg (show ¬ a < ((n + 1 : Nat) : Int) by omega)]
/-- how many rings -/
theorem ob_pig : ∀ (m : Nat) (r : Int) (f : Int → Int), (∀ b, 0 ≤ b → b < r → 0 ≤ f b ∧ f b < m) → (∀ b b', 0 ≤ b → b < r → 0 ≤ b' → b' < r → f b = f b' → b = b') → r ≤ m
  | 0, r, f, h1, h2 => by
    by_cases q : 0 < r
    · have := h1 0 (by omega) q; omega
    · omega
  | m + 1, r, f, h1, h2 => by
    by_cases q : 0 < r
    · have := ob_pig m (r - 1) (fun b => if f b = m then f (r - 1) else f b) (fun b a1 a2 => by
        have z1 := h1 b a1 (by omega)
        have z2 := h1 (r - 1) (by omega) (by omega)
        have z3 : f b ≠ f (r - 1) := fun z => by have := h2 _ _ a1 (by omega) (by omega) (by omega) z; omega
        show 0 ≤ (if f b = m then f (r - 1) else f b) ∧ (if f b = m then f (r - 1) else f b) < m
        by_cases z : f b = m
        · rw [if_pos z]; omega
        · rw [if_neg z]; omega) (fun b b' a1 a2 a3 a4 e => by
        have e : (if f b = m then f (r - 1) else f b) = (if f b' = m then f (r - 1) else f b') := e
        by_cases z : f b = m
        · by_cases z' : f b' = m
          · exact h2 _ _ a1 (by omega) a3 (by omega) (by omega)
          · rw [if_pos z, if_neg z'] at e
            have := h2 _ _ (by omega) (by omega) a3 (by omega) e
            omega
        · by_cases z' : f b' = m
          · rw [if_neg z, if_pos z'] at e
            have := h2 _ _ a1 (by omega) (by omega) (by omega) e
            omega
          · rw [if_neg z, if_neg z'] at e
            exact h2 _ _ a1 (by omega) a3 (by omega) e)
      omega
    · omega
