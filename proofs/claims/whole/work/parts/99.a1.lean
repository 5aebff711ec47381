/-! ask, the reference -/
def rk (V : am_V) (k n b : Int) : Prop := (0 ≤ k ∧ k < 10) ∧ V 91 k = n ∧ (1 ≤ n ∧ n ≤ 10) ∧ (∀ j, 0 ≤ j → j < n → 0 ≤ V 92 (10 * k + j) ∧ V 92 (10 * k + j) < 10) ∧ m_nb (fun j => V 92 (10 * k + j)) n b ∧ (0 ≤ V 90 k ∧ V 90 k ≤ 4)
theorem rk_eq {k n b : Int} {V V' : am_V} (h : rk V k n b) (e0 : V' 90 = V 90) (e1 : V' 91 = V 91) (e2 : V' 92 = V 92) : rk V' k n b := by
  unfold rk
  rw [e0, e1, e2]
  exact h
theorem rT_a {l : List Int} {V V' : am_V} (h : rT l V V') : V' 90 = V 90 ∧ V' 91 = V 91 ∧ V' 92 = V 92 := ⟨h.2.2.2.1 90 (by decide) (by decide) (by decide) (by decide), h.2.2.2.1 91 (by decide) (by decide) (by decide) (by decide), h.2.2.2.1 92 (by decide) (by decide) (by decide) (by decide)⟩
theorem rT_rk {k n b : Int} {l : List Int} {V V' : am_V} (h : rk V k n b) (t : rT l V V') : rk V' k n b := rk_eq h (rT_a t).1 (rT_a t).2.1 (rT_a t).2.2
theorem rT_nil {V V' : am_V} (h : ∀ a, a ≠ 93 → a ≠ 97 → V' a = V a) : rT [] V V' := tl_nil (by decide) h
theorem s_M_blocksAt' {G : am_G} {d : Nat} {sh : Int → Option Nat} {V : am_V} {T : Nat} {Q : Option AV → am_V → am_T → Nat → Prop} {k n b : Int} (h : rk V k n b) (hQ : ∀ V', rT [] V V' → Q (some (vI b)) V' (am_RF sh) T) : am_Calls G (d + 2) 101 [vR 86, vI k] V (am_RF sh) T Q :=
  s_M_blocksAt h.1 h.2.1 h.2.2.1 h.2.2.2.1 (fun V' r w1 w2 => by
    have := m_nb_uniq w2 h.2.2.2.2.1
    subst this
    exact hQ V' (rT_nil (fun a z _ => w1 a z)))
theorem s_M_handlesOf {G : am_G} {d : Nat} {sh : Int → Option Nat} {V : am_V} {T : Nat} {Q : Option AV → am_V → am_T → Nat → Prop} {k n b r : Int} {P L : Int → Int} (h : rk V k n b) (hP : m_P (fun j => V 92 (10 * k + j)) n P) (o : ob_out (ob_C (fun j => V 92 (10 * k + j)) n) n L n r) (hb : 0 ≤ r ∧ r ≤ n / 2 + 1) (hQ : ∀ V', rT [] V V' → Q (some (vI ((n / 2 + 1 - r) / 2))) V' (am_RF sh) T) : am_Calls G (d + 2) 116 [vR 86, vI k] V (am_RF sh) T Q := by
  obtain ⟨hk, e91, hn, hr, hnb, -⟩ := h
  refine am_enter mt_M_handlesOf ok_M_handlesOf rfl ?_
  refine am_run 400 mt_M_handlesOf ok_M_handlesOf (fun K S hK hS => ?_)
  iterate 30 (all_goals (first
    | (refine And.intro (by omega) ?_)
    | (refine And.intro (fun hb => absurd hb (by omega)) (fun hb => ?_))
    | (refine And.intro (fun hb => ?_) (fun hb => absurd hb (by omega)))
    | (refine And.intro (fun hb => ?_) (fun hb => ?_))
    | (intro hb)
    | (conv => whnf)))
  refine hK (s_M_load (n := n) hk (by omega) e91 (by omega) (fun W w1 w2 w3 => ?_))
  have w2' : ∀ j, 0 ≤ j → j < n → V 92 (10 * k + j) = W 93 (0 + j) := fun j j0 j1 => (w2 j j0 j1).symm
  have f91 : W 91 k = n := by rw [w1 91 (by decide)]; exact e91
  iterate 30 (all_goals (first
    | (refine And.intro (by omega) ?_)
    | (refine And.intro (by decide) ?_)
    | (refine And.intro (fun hb => absurd hb (by omega)) (fun hb => ?_))
    | (refine And.intro (fun hb => ?_) (fun hb => absurd hb (by omega)))
    | (refine And.intro (fun hb => ?_) (fun hb => ?_))
    | (intro hb)
    | (simp only [f91])
    | (conv => whnf)))
  refine hK (s_M_handlesBy (P := P) (L := L) (r := r) hn (fun i z0 z1 => by rw [← w2' i z0 z1]; exact hr i z0 z1) (m_P_eq hP w2') (ob_out_eq w2' o) hb (fun V' v1 => ?_))
  have q := hQ V' (rT_nil (fun a z z' => by rw [v1 a z', w1 a z]))
  iterate 30 (all_goals (first
    | (refine And.intro (by omega) ?_)
    | (refine And.intro (fun hb => absurd hb (by omega)) (fun hb => ?_))
    | (refine And.intro (fun hb => ?_) (fun hb => absurd hb (by omega)))
    | (refine And.intro (fun hb => ?_) (fun hb => ?_))
    | (intro hb)
    | (conv => whnf)))
  exact q
theorem s_M_plainMark {G : am_G} {d : Nat} {sh : Int → Option Nat} {V : am_V} {T : Nat} {Q : Option AV → am_V → am_T → Nat → Prop} {k n b : Int} (h : rk V k n b) (hc : 0 ≤ V 86 12 ∧ V 86 12 < 10) (hQ : ∀ V' l v, rT l V V' → ((V 90 k = 1 ∨ V 90 k = 2 ∨ V 90 k = 3) ∧ l = [21, 20] ∧ v = b + 100) ∨ (¬ (V 90 k = 1 ∨ V 90 k = 2 ∨ V 90 k = 3) ∧ l = [20] ∧ v = b) → Q (some (vI v)) V' (am_RF sh) T) : am_Calls G (d + 3) 104 [vR 86, vI k] V (am_RF sh) T Q := by
  have hk := h.1
  have k0 := h.2.2.2.2.2
  refine am_enter mt_M_plainMark ok_M_plainMark rfl ?_
  refine am_run 400 mt_M_plainMark ok_M_plainMark (fun K S hK hS => ?_)
  iterate 30 (all_goals (first
    | (refine And.intro (by omega) ?_)
    | (refine And.intro (fun hb => absurd hb (by omega)) (fun hb => ?_))
    | (refine And.intro (fun hb => ?_) (fun hb => absurd hb (by omega)))
    | (refine And.intro (fun hb => ?_) (fun hb => ?_))
    | (intro hb)
    | (conv => whnf)))
  refine hK (s_M_isOf (by omega) (by omega) (fun r1 hr1 => ?_))
  by_cases kf : V 90 k = 1 ∨ V 90 k = 2 ∨ V 90 k = 3
  · obtain rfl : r1 = 1 := by omega
    iterate 30 (all_goals (first
      | (refine And.intro (by omega) ?_)
      | (refine And.intro (fun hb => absurd hb (by omega)) (fun hb => ?_))
      | (refine And.intro (fun hb => ?_) (fun hb => absurd hb (by omega)))
      | (refine And.intro (fun hb => ?_) (fun hb => ?_))
      | (intro hb)
      | (conv => whnf)))
    refine hK (s_M_began' (by omega) (fun W w => ?_))
    have c1 : W 86 12 = V 86 12 + 1 := w.1
    iterate 30 (all_goals (first
      | (refine And.intro (by omega) ?_)
      | (refine And.intro (fun hb => absurd hb (by omega)) (fun hb => ?_))
      | (refine And.intro (fun hb => ?_) (fun hb => absurd hb (by omega)))
      | (refine And.intro (fun hb => ?_) (fun hb => ?_))
      | (intro hb)
      | (conv => whnf)))
    refine hK (s_M_began' (by omega) (fun U u => ?_))
    have t2 := tl_trans hc.1 w u
    iterate 30 (all_goals (first
      | (refine And.intro (by omega) ?_)
      | (refine And.intro (fun hb => absurd hb (by omega)) (fun hb => ?_))
      | (refine And.intro (fun hb => ?_) (fun hb => absurd hb (by omega)))
      | (refine And.intro (fun hb => ?_) (fun hb => ?_))
      | (intro hb)
      | (conv => whnf)))
    refine hK (s_M_blocksAt' (rT_rk h t2) (fun X x => ?_))
    have t3 := tl_trans hc.1 t2 x
    have e90 : X 90 k = V 90 k := by rw [(rT_a t3).1]
    iterate 30 (all_goals (first
      | (refine And.intro (by omega) ?_)
      | (refine And.intro (by decide) ?_)
      | (refine And.intro (fun hb => absurd hb (by omega)) (fun hb => ?_))
      | (refine And.intro (fun hb => ?_) (fun hb => absurd hb (by omega)))
      | (refine And.intro (fun hb => ?_) (fun hb => ?_))
      | (intro hb)
      | (simp only [e90])
      | (conv => whnf)))
    refine hK (s_M_isOf (by omega) (by omega) (fun r2 hr2 => ?_))
    obtain rfl : r2 = 1 := by omega
    have q := hQ X _ _ t3 (Or.inl ⟨kf, rfl, rfl⟩)
    iterate 30 (all_goals (first
      | (refine And.intro (by omega) ?_)
      | (refine And.intro (fun hb => absurd hb (by omega)) (fun hb => ?_))
      | (refine And.intro (fun hb => ?_) (fun hb => absurd hb (by omega)))
      | (refine And.intro (fun hb => ?_) (fun hb => ?_))
      | (intro hb)
      | (conv => whnf)))
    exact q
  · obtain rfl : r1 = 0 := by omega
    iterate 30 (all_goals (first
      | (refine And.intro (by omega) ?_)
      | (refine And.intro (fun hb => absurd hb (by omega)) (fun hb => ?_))
      | (refine And.intro (fun hb => ?_) (fun hb => absurd hb (by omega)))
      | (refine And.intro (fun hb => ?_) (fun hb => ?_))
      | (intro hb)
      | (conv => whnf)))
    refine hK (s_M_began' (by omega) (fun W w => ?_))
    iterate 30 (all_goals (first
      | (refine And.intro (by omega) ?_)
      | (refine And.intro (fun hb => absurd hb (by omega)) (fun hb => ?_))
      | (refine And.intro (fun hb => ?_) (fun hb => absurd hb (by omega)))
      | (refine And.intro (fun hb => ?_) (fun hb => ?_))
      | (intro hb)
      | (conv => whnf)))
    refine hK (s_M_blocksAt' (rT_rk h w) (fun X x => ?_))
    have t3 := tl_trans hc.1 w x
    have e90 : X 90 k = V 90 k := by rw [(rT_a t3).1]
    iterate 30 (all_goals (first
      | (refine And.intro (by omega) ?_)
      | (refine And.intro (by decide) ?_)
      | (refine And.intro (fun hb => absurd hb (by omega)) (fun hb => ?_))
      | (refine And.intro (fun hb => ?_) (fun hb => absurd hb (by omega)))
      | (refine And.intro (fun hb => ?_) (fun hb => ?_))
      | (intro hb)
      | (simp only [e90])
      | (conv => whnf)))
    refine hK (s_M_isOf (by omega) (by omega) (fun r2 hr2 => ?_))
    obtain rfl : r2 = 0 := by omega
    have q := hQ X _ b t3 (Or.inr ⟨kf, rfl, rfl⟩)
    iterate 30 (all_goals (first
      | (refine And.intro (by omega) ?_)
      | (refine And.intro (fun hb => absurd hb (by omega)) (fun hb => ?_))
      | (refine And.intro (fun hb => ?_) (fun hb => absurd hb (by omega)))
      | (refine And.intro (fun hb => ?_) (fun hb => ?_))
      | (intro hb)
      | (conv => whnf)))
    first | exact q | (rw [Int.add_zero]; exact q)
/-- what the reference is to answer -/
theorem s_M_sized {G : am_G} {d : Nat} {sh : Int → Option Nat} {V : am_V} {T : Nat} {Q : Option AV → am_V → am_T → Nat → Prop} {k n b v : Int} {l : List Int} {g : Int → Int} (h : rk V k n b) (hg : ∀ j, 0 ≤ j → j < n → g j = V 92 (10 * k + j)) (hp : V 90 k = 4 → m_prs g n) (hc : 0 ≤ V 86 12 ∧ V 86 12 < 4) (hv : as_I (V 90 k) 0 n b g l v) (hQ : ∀ V', rT l V V' → Q (some (vI v)) V' (am_RF sh) T) : am_Calls G (d + 4) 105 [vR 86, vI k] V (am_RF sh) T Q := by
  have hk := h.1
  have e91 := h.2.1
  have k0 := h.2.2.2.2.2
  have go1 : ∀ W l1, rT l1 V W → W 91 k = n := fun W l1 t => by rw [(rT_a t).2.1]; exact e91
  rcases hv with ⟨-, hv⟩ | ⟨z, -⟩
  rotate_left
  · omega
  rcases hv with ⟨kd, el, ev⟩ | ⟨kd, el, ev⟩ | ⟨kd, el, ev⟩ | ⟨kd, el, ev⟩ | ⟨kd, el, r, L, o, r0, r1, ev⟩
  · subst el; subst ev
    refine am_enter mt_M_sized ok_M_sized rfl ?_
    refine am_run 400 mt_M_sized ok_M_sized (fun K S hK hS => ?_)
    iterate 30 (all_goals (first
      | (refine And.intro (by omega) ?_)
      | (refine And.intro (by decide) ?_)
      | (refine And.intro (fun hb => absurd hb (by omega)) (fun hb => ?_))
      | (refine And.intro (fun hb => ?_) (fun hb => absurd hb (by omega)))
      | (refine And.intro (fun hb => ?_) (fun hb => ?_))
      | (intro hb)
      | (simp only [kd])
      | (conv => whnf)))
    refine hK (s_M_isOf (by omega) (by omega) (fun r1 hr1 => ?_))
    obtain rfl : r1 = 0 := by omega
    iterate 30 (all_goals (first
      | (refine And.intro (by omega) ?_)
      | (refine And.intro (fun hb => absurd hb (by omega)) (fun hb => ?_))
      | (refine And.intro (fun hb => ?_) (fun hb => absurd hb (by omega)))
      | (refine And.intro (fun hb => ?_) (fun hb => ?_))
      | (intro hb)
      | (conv => whnf)))
    refine hK (s_M_began' (by omega) (fun W w => ?_))
    have f1 := go1 W _ w
    iterate 30 (all_goals (first
      | (refine And.intro (by omega) ?_)
      | (refine And.intro (by decide) ?_)
      | (refine And.intro (fun hb => absurd hb (by omega)) (fun hb => ?_))
      | (refine And.intro (fun hb => ?_) (fun hb => absurd hb (by omega)))
      | (refine And.intro (fun hb => ?_) (fun hb => ?_))
      | (intro hb)
      | (simp only [f1])
      | (conv => whnf)))
    refine hK (s_M_isOf (by omega) (by omega) (fun r2 hr2 => ?_))
    obtain rfl : r2 = 0 := by omega
    have q := hQ W w
    iterate 30 (all_goals (first
      | (refine And.intro (by omega) ?_)
      | (refine And.intro (fun hb => absurd hb (by omega)) (fun hb => ?_))
      | (refine And.intro (fun hb => ?_) (fun hb => absurd hb (by omega)))
      | (refine And.intro (fun hb => ?_) (fun hb => ?_))
      | (intro hb)
      | (conv => whnf)))
    first | exact q | (rw [Int.add_zero]; exact q)
  · subst el; subst ev
    refine am_enter mt_M_sized ok_M_sized rfl ?_
    refine am_run 400 mt_M_sized ok_M_sized (fun K S hK hS => ?_)
    iterate 30 (all_goals (first
      | (refine And.intro (by omega) ?_)
      | (refine And.intro (by decide) ?_)
      | (refine And.intro (fun hb => absurd hb (by omega)) (fun hb => ?_))
      | (refine And.intro (fun hb => ?_) (fun hb => absurd hb (by omega)))
      | (refine And.intro (fun hb => ?_) (fun hb => ?_))
      | (intro hb)
      | (simp only [kd])
      | (conv => whnf)))
    refine hK (s_M_isOf (by omega) (by omega) (fun r1 hr1 => ?_))
    obtain rfl : r1 = 1 := by omega
    iterate 30 (all_goals (first
      | (refine And.intro (by omega) ?_)
      | (refine And.intro (fun hb => absurd hb (by omega)) (fun hb => ?_))
      | (refine And.intro (fun hb => ?_) (fun hb => absurd hb (by omega)))
      | (refine And.intro (fun hb => ?_) (fun hb => ?_))
      | (intro hb)
      | (conv => whnf)))
    refine hK (s_M_began' (by omega) (fun W w => ?_))
    have c1 : W 86 12 = V 86 12 + 1 := w.1
    iterate 30 (all_goals (first
      | (refine And.intro (by omega) ?_)
      | (refine And.intro (fun hb => absurd hb (by omega)) (fun hb => ?_))
      | (refine And.intro (fun hb => ?_) (fun hb => absurd hb (by omega)))
      | (refine And.intro (fun hb => ?_) (fun hb => ?_))
      | (intro hb)
      | (conv => whnf)))
    refine hK (s_M_began' (by omega) (fun U u => ?_))
    have t2 := tl_trans hc.1 w u
    have f1 := go1 U _ t2
    iterate 30 (all_goals (first
      | (refine And.intro (by omega) ?_)
      | (refine And.intro (by decide) ?_)
      | (refine And.intro (fun hb => absurd hb (by omega)) (fun hb => ?_))
      | (refine And.intro (fun hb => ?_) (fun hb => absurd hb (by omega)))
      | (refine And.intro (fun hb => ?_) (fun hb => ?_))
      | (intro hb)
      | (simp only [f1])
      | (conv => whnf)))
    refine hK (s_M_isOf (by omega) (by omega) (fun r2 hr2 => ?_))
    obtain rfl : r2 = 1 := by omega
    iterate 30 (all_goals (first
      | (refine And.intro (by omega) ?_)
      | (refine And.intro (fun hb => absurd hb (by omega)) (fun hb => ?_))
      | (refine And.intro (fun hb => ?_) (fun hb => absurd hb (by omega)))
      | (refine And.intro (fun hb => ?_) (fun hb => ?_))
      | (intro hb)
      | (conv => whnf)))
    refine hK (s_M_blocksAt' (rT_rk h t2) (fun X x => ?_))
    have q := hQ X (tl_trans hc.1 t2 x)
    iterate 30 (all_goals (first
      | (refine And.intro (by omega) ?_)
      | (refine And.intro (fun hb => absurd hb (by omega)) (fun hb => ?_))
      | (refine And.intro (fun hb => ?_) (fun hb => absurd hb (by omega)))
      | (refine And.intro (fun hb => ?_) (fun hb => ?_))
      | (intro hb)
      | (conv => whnf)))
    exact q
  · subst el; subst ev
    refine am_enter mt_M_sized ok_M_sized rfl ?_
    refine am_run 400 mt_M_sized ok_M_sized (fun K S hK hS => ?_)
    iterate 30 (all_goals (first
      | (refine And.intro (by omega) ?_)
      | (refine And.intro (by decide) ?_)
      | (refine And.intro (fun hb => absurd hb (by omega)) (fun hb => ?_))
      | (refine And.intro (fun hb => ?_) (fun hb => absurd hb (by omega)))
      | (refine And.intro (fun hb => ?_) (fun hb => ?_))
      | (intro hb)
      | (simp only [kd])
      | (conv => whnf)))
    refine hK (s_M_began' (by omega) (fun W0 w0 => ?_))
    have c0 : W0 86 12 = V 86 12 + 1 := w0.1
    iterate 30 (all_goals (first
      | (refine And.intro (by omega) ?_)
      | (refine And.intro (fun hb => absurd hb (by omega)) (fun hb => ?_))
      | (refine And.intro (fun hb => ?_) (fun hb => absurd hb (by omega)))
      | (refine And.intro (fun hb => ?_) (fun hb => ?_))
      | (intro hb)
      | (conv => whnf)))
    refine hK (s_M_isOf (by omega) (by omega) (fun r1 hr1 => ?_))
    obtain rfl : r1 = 1 := by omega
    iterate 30 (all_goals (first
      | (refine And.intro (by omega) ?_)
      | (refine And.intro (fun hb => absurd hb (by omega)) (fun hb => ?_))
      | (refine And.intro (fun hb => ?_) (fun hb => absurd hb (by omega)))
      | (refine And.intro (fun hb => ?_) (fun hb => ?_))
      | (intro hb)
      | (conv => whnf)))
    refine hK (s_M_began' (by omega) (fun W w => ?_))
    have c1 : W 86 12 = W0 86 12 + 1 := w.1
    iterate 30 (all_goals (first
      | (refine And.intro (by omega) ?_)
      | (refine And.intro (fun hb => absurd hb (by omega)) (fun hb => ?_))
      | (refine And.intro (fun hb => ?_) (fun hb => absurd hb (by omega)))
      | (refine And.intro (fun hb => ?_) (fun hb => ?_))
      | (intro hb)
      | (conv => whnf)))
    refine hK (s_M_began' (by omega) (fun U u => ?_))
    have t2 := tl_trans hc.1 (tl_trans hc.1 w0 w) u
    have f1 := go1 U _ t2
    iterate 30 (all_goals (first
      | (refine And.intro (by omega) ?_)
      | (refine And.intro (by decide) ?_)
      | (refine And.intro (fun hb => absurd hb (by omega)) (fun hb => ?_))
      | (refine And.intro (fun hb => ?_) (fun hb => absurd hb (by omega)))
      | (refine And.intro (fun hb => ?_) (fun hb => ?_))
      | (intro hb)
      | (simp only [f1])
      | (conv => whnf)))
    refine hK (s_M_isOf (by omega) (by omega) (fun r2 hr2 => ?_))
    obtain rfl : r2 = 1 := by omega
    iterate 30 (all_goals (first
      | (refine And.intro (by omega) ?_)
      | (refine And.intro (fun hb => absurd hb (by omega)) (fun hb => ?_))
      | (refine And.intro (fun hb => ?_) (fun hb => absurd hb (by omega)))
      | (refine And.intro (fun hb => ?_) (fun hb => ?_))
      | (intro hb)
      | (conv => whnf)))
    refine hK (s_M_blocksAt' (rT_rk h t2) (fun X x => ?_))
    have q := hQ X (tl_trans hc.1 t2 x)
    iterate 30 (all_goals (first
      | (refine And.intro (by omega) ?_)
      | (refine And.intro (fun hb => absurd hb (by omega)) (fun hb => ?_))
      | (refine And.intro (fun hb => ?_) (fun hb => absurd hb (by omega)))
      | (refine And.intro (fun hb => ?_) (fun hb => ?_))
      | (intro hb)
      | (conv => whnf)))
    exact q
  · subst el; subst ev
    refine am_enter mt_M_sized ok_M_sized rfl ?_
    refine am_run 400 mt_M_sized ok_M_sized (fun K S hK hS => ?_)
    iterate 30 (all_goals (first
      | (refine And.intro (by omega) ?_)
      | (refine And.intro (by decide) ?_)
      | (refine And.intro (fun hb => absurd hb (by omega)) (fun hb => ?_))
      | (refine And.intro (fun hb => ?_) (fun hb => absurd hb (by omega)))
      | (refine And.intro (fun hb => ?_) (fun hb => ?_))
      | (intro hb)
      | (simp only [kd])
      | (conv => whnf)))
    refine hK (s_M_began' (by omega) (fun W0 w0 => ?_))
    have c0 : W0 86 12 = V 86 12 + 1 := w0.1
    iterate 30 (all_goals (first
      | (refine And.intro (by omega) ?_)
      | (refine And.intro (fun hb => absurd hb (by omega)) (fun hb => ?_))
      | (refine And.intro (fun hb => ?_) (fun hb => absurd hb (by omega)))
      | (refine And.intro (fun hb => ?_) (fun hb => ?_))
      | (intro hb)
      | (conv => whnf)))
    refine hK (s_M_isOf (by omega) (by omega) (fun r1 hr1 => ?_))
    obtain rfl : r1 = 1 := by omega
    iterate 30 (all_goals (first
      | (refine And.intro (by omega) ?_)
      | (refine And.intro (fun hb => absurd hb (by omega)) (fun hb => ?_))
      | (refine And.intro (fun hb => ?_) (fun hb => absurd hb (by omega)))
      | (refine And.intro (fun hb => ?_) (fun hb => ?_))
      | (intro hb)
      | (conv => whnf)))
    refine hK (s_M_began' (by omega) (fun W w => ?_))
    have c1 : W 86 12 = W0 86 12 + 1 := w.1
    iterate 30 (all_goals (first
      | (refine And.intro (by omega) ?_)
      | (refine And.intro (fun hb => absurd hb (by omega)) (fun hb => ?_))
      | (refine And.intro (fun hb => ?_) (fun hb => absurd hb (by omega)))
      | (refine And.intro (fun hb => ?_) (fun hb => ?_))
      | (intro hb)
      | (conv => whnf)))
    refine hK (s_M_began' (by omega) (fun U u => ?_))
    have c2 : U 86 12 = W 86 12 + 1 := u.1
    have t2 := tl_trans hc.1 (tl_trans hc.1 w0 w) u
    have f1 := go1 U _ t2
    iterate 30 (all_goals (first
      | (refine And.intro (by omega) ?_)
      | (refine And.intro (by decide) ?_)
      | (refine And.intro (fun hb => absurd hb (by omega)) (fun hb => ?_))
      | (refine And.intro (fun hb => ?_) (fun hb => absurd hb (by omega)))
      | (refine And.intro (fun hb => ?_) (fun hb => ?_))
      | (intro hb)
      | (simp only [f1])
      | (conv => whnf)))
    refine hK (s_M_isOf (by omega) (by omega) (fun r2 hr2 => ?_))
    obtain rfl : r2 = 1 := by omega
    iterate 30 (all_goals (first
      | (refine And.intro (by omega) ?_)
      | (refine And.intro (fun hb => absurd hb (by omega)) (fun hb => ?_))
      | (refine And.intro (fun hb => ?_) (fun hb => absurd hb (by omega)))
      | (refine And.intro (fun hb => ?_) (fun hb => ?_))
      | (intro hb)
      | (conv => whnf)))
    refine hK (s_M_blocksAt' (rT_rk h t2) (fun X x => ?_))
    have c3 : X 86 12 = U 86 12 + 0 := x.1
    have t3 := tl_trans hc.1 t2 x
    have e90 : X 90 k = V 90 k := by rw [(rT_a t3).1]
    iterate 30 (all_goals (first
      | (refine And.intro (by omega) ?_)
      | (refine And.intro (fun hb => absurd hb (by omega)) (fun hb => ?_))
      | (refine And.intro (fun hb => ?_) (fun hb => absurd hb (by omega)))
      | (refine And.intro (fun hb => ?_) (fun hb => ?_))
      | (intro hb)
      | (conv => whnf)))
    refine hK (s_M_plainMark (rT_rk h t3) (by omega) (fun Y l v y hy => ?_))
    rw [e90] at hy
    rcases hy with ⟨-, el, ev⟩ | ⟨hy, -⟩
    · subst el; subst ev
      have q := hQ Y (tl_trans hc.1 t3 y)
      iterate 30 (all_goals (first
        | (refine And.intro (by omega) ?_)
        | (refine And.intro (fun hb => absurd hb (by omega)) (fun hb => ?_))
        | (refine And.intro (fun hb => ?_) (fun hb => absurd hb (by omega)))
        | (refine And.intro (fun hb => ?_) (fun hb => ?_))
        | (intro hb)
        | (conv => whnf)))
      exact q
    · omega
  · subst el; subst ev
    obtain ⟨P, hP⟩ := m_P_ex (hp kd)
    refine am_enter mt_M_sized ok_M_sized rfl ?_
    refine am_run 400 mt_M_sized ok_M_sized (fun K S hK hS => ?_)
    iterate 30 (all_goals (first
      | (refine And.intro (by omega) ?_)
      | (refine And.intro (by decide) ?_)
      | (refine And.intro (fun hb => absurd hb (by omega)) (fun hb => ?_))
      | (refine And.intro (fun hb => ?_) (fun hb => absurd hb (by omega)))
      | (refine And.intro (fun hb => ?_) (fun hb => ?_))
      | (intro hb)
      | (simp only [kd])
      | (conv => whnf)))
    refine hK (s_M_began' (by omega) (fun W0 w0 => ?_))
    have c0 : W0 86 12 = V 86 12 + 1 := w0.1
    iterate 30 (all_goals (first
      | (refine And.intro (by omega) ?_)
      | (refine And.intro (fun hb => absurd hb (by omega)) (fun hb => ?_))
      | (refine And.intro (fun hb => ?_) (fun hb => absurd hb (by omega)))
      | (refine And.intro (fun hb => ?_) (fun hb => ?_))
      | (intro hb)
      | (conv => whnf)))
    refine hK (s_M_isOf (by omega) (by omega) (fun r1 hr1 => ?_))
    obtain rfl : r1 = 0 := by omega
    iterate 30 (all_goals (first
      | (refine And.intro (by omega) ?_)
      | (refine And.intro (fun hb => absurd hb (by omega)) (fun hb => ?_))
      | (refine And.intro (fun hb => ?_) (fun hb => absurd hb (by omega)))
      | (refine And.intro (fun hb => ?_) (fun hb => ?_))
      | (intro hb)
      | (conv => whnf)))
    refine hK (s_M_began' (by omega) (fun W w => ?_))
    have t2 := tl_trans hc.1 w0 w
    have f1 := go1 W _ t2
    have f2 := (rT_a t2).2.2
    iterate 30 (all_goals (first
      | (refine And.intro (by omega) ?_)
      | (refine And.intro (by decide) ?_)
      | (refine And.intro (fun hb => absurd hb (by omega)) (fun hb => ?_))
      | (refine And.intro (fun hb => ?_) (fun hb => absurd hb (by omega)))
      | (refine And.intro (fun hb => ?_) (fun hb => ?_))
      | (intro hb)
      | (simp only [f1])
      | (conv => whnf)))
    refine hK (s_M_isOf (by omega) (by omega) (fun r2 hr2 => ?_))
    obtain rfl : r2 = 0 := by omega
    iterate 30 (all_goals (first
      | (refine And.intro (by omega) ?_)
      | (refine And.intro (fun hb => absurd hb (by omega)) (fun hb => ?_))
      | (refine And.intro (fun hb => ?_) (fun hb => absurd hb (by omega)))
      | (refine And.intro (fun hb => ?_) (fun hb => ?_))
      | (intro hb)
      | (conv => whnf)))
    refine hK (s_M_handlesOf (P := P) (L := L) (r := r) (rT_rk h t2) (by rw [f2]; exact m_P_eq hP hg) (by rw [f2]; exact ob_out_eq hg o) ⟨r0, by omega⟩ (fun X x => ?_))
    have q := hQ X (tl_trans hc.1 t2 x)
    iterate 30 (all_goals (first
      | (refine And.intro (by omega) ?_)
      | (refine And.intro (fun hb => absurd hb (by omega)) (fun hb => ?_))
      | (refine And.intro (fun hb => ?_) (fun hb => absurd hb (by omega)))
      | (refine And.intro (fun hb => ?_) (fun hb => ?_))
      | (intro hb)
      | (conv => whnf)))
    first | exact q | (rw [Int.add_zero]; exact q)
theorem s_M_marked {G : am_G} {d : Nat} {sh : Int → Option Nat} {V : am_V} {T : Nat} {Q : Option AV → am_V → am_T → Nat → Prop} {k n b v : Int} {l : List Int} {g : Int → Int} (h : rk V k n b) (hg : ∀ j, 0 ≤ j → j < n → g j = V 92 (10 * k + j)) (hp : V 90 k = 4 → m_prs g n) (hc : V 86 12 = 0) (hv : as_I (V 90 k) 1 n b g l v) (hQ : ∀ V', rT l V V' → Q (some (vI v)) V' (am_RF sh) T) : am_Calls G (d + 5) 106 [vR 86, vI k] V (am_RF sh) T Q := by
  have hk := h.1
  have k0 := h.2.2.2.2.2
  rcases hv with ⟨z, -⟩ | ⟨-, hv⟩
  · omega
  rcases hv with ⟨kd, el, ev⟩ | ⟨kd, el, ev⟩ | ⟨kd, el, r, L, o, r0, r1, ev⟩
  · subst el; subst ev
    refine am_enter mt_M_marked ok_M_marked rfl ?_
    refine am_run 400 mt_M_marked ok_M_marked (fun K S hK hS => ?_)
    iterate 30 (all_goals (first
      | (refine And.intro (by omega) ?_)
      | (refine And.intro (by decide) ?_)
      | (refine And.intro (fun hb => absurd hb (by omega)) (fun hb => ?_))
      | (refine And.intro (fun hb => ?_) (fun hb => absurd hb (by omega)))
      | (refine And.intro (fun hb => ?_) (fun hb => ?_))
      | (intro hb)
      | (simp only [kd])
      | (conv => whnf)))
    refine hK (s_M_plainMark h (by omega) (fun Y l v y hy => ?_))
    rcases hy with ⟨hy, -⟩ | ⟨-, el, ev⟩
    · omega
    · subst el; subst ev
      have q := hQ Y y
      iterate 30 (all_goals (first
        | (refine And.intro (by omega) ?_)
        | (refine And.intro (fun hb => absurd hb (by omega)) (fun hb => ?_))
        | (refine And.intro (fun hb => ?_) (fun hb => absurd hb (by omega)))
        | (refine And.intro (fun hb => ?_) (fun hb => ?_))
        | (intro hb)
        | (conv => whnf)))
      exact q
  · subst el; subst ev
    refine am_enter mt_M_marked ok_M_marked rfl ?_
    refine am_run 400 mt_M_marked ok_M_marked (fun K S hK hS => ?_)
    iterate 30 (all_goals (first
      | (refine And.intro (by omega) ?_)
      | (refine And.intro (fun hb => absurd hb (by omega)) (fun hb => ?_))
      | (refine And.intro (fun hb => ?_) (fun hb => absurd hb (by omega)))
      | (refine And.intro (fun hb => ?_) (fun hb => ?_))
      | (intro hb)
      | (conv => whnf)))
    refine hK (s_M_plainMark h (by omega) (fun Y l v y hy => ?_))
    rcases hy with ⟨-, el, ev⟩ | ⟨hy, -⟩
    · subst el; subst ev
      have q := hQ Y y
      iterate 30 (all_goals (first
        | (refine And.intro (by omega) ?_)
        | (refine And.intro (fun hb => absurd hb (by omega)) (fun hb => ?_))
        | (refine And.intro (fun hb => ?_) (fun hb => absurd hb (by omega)))
        | (refine And.intro (fun hb => ?_) (fun hb => ?_))
        | (intro hb)
        | (conv => whnf)))
      exact q
    · omega
  · subst el; subst ev
    refine am_enter mt_M_marked ok_M_marked rfl ?_
    refine am_run 400 mt_M_marked ok_M_marked (fun K S hK hS => ?_)
    iterate 30 (all_goals (first
      | (refine And.intro (by omega) ?_)
      | (refine And.intro (by decide) ?_)
      | (refine And.intro (fun hb => absurd hb (by omega)) (fun hb => ?_))
      | (refine And.intro (fun hb => ?_) (fun hb => absurd hb (by omega)))
      | (refine And.intro (fun hb => ?_) (fun hb => ?_))
      | (intro hb)
      | (simp only [kd])
      | (conv => whnf)))
    refine hK (s_M_began' (by omega) (fun W0 w0 => ?_))
    have c0 : W0 86 12 = V 86 12 + 1 := w0.1
    iterate 30 (all_goals (first
      | (refine And.intro (by omega) ?_)
      | (refine And.intro (fun hb => absurd hb (by omega)) (fun hb => ?_))
      | (refine And.intro (fun hb => ?_) (fun hb => absurd hb (by omega)))
      | (refine And.intro (fun hb => ?_) (fun hb => ?_))
      | (intro hb)
      | (conv => whnf)))
    refine hK (s_M_began' (by omega) (fun W w => ?_))
    have c1 : W 86 12 = W0 86 12 + 1 := w.1
    have t2 := tl_trans (by omega) w0 w
    iterate 30 (all_goals (first
      | (refine And.intro (by omega) ?_)
      | (refine And.intro (fun hb => absurd hb (by omega)) (fun hb => ?_))
      | (refine And.intro (fun hb => ?_) (fun hb => absurd hb (by omega)))
      | (refine And.intro (fun hb => ?_) (fun hb => ?_))
      | (intro hb)
      | (conv => whnf)))
    refine hK (s_M_blocksAt' (rT_rk h t2) (fun X x => ?_))
    have c3 : X 86 12 = W 86 12 + 0 := x.1
    have t3 := tl_trans (by omega) t2 x
    have e90 : X 90 k = V 90 k := by rw [(rT_a t3).1]
    have e92 := (rT_a t3).2.2
    iterate 30 (all_goals (first
      | (refine And.intro (by omega) ?_)
      | (refine And.intro (fun hb => absurd hb (by omega)) (fun hb => ?_))
      | (refine And.intro (fun hb => ?_) (fun hb => absurd hb (by omega)))
      | (refine And.intro (fun hb => ?_) (fun hb => ?_))
      | (intro hb)
      | (conv => whnf)))
    refine hK (s_M_sized (g := g) (l := [14, 10]) (v := n * ((n / 2 + 1 - r) / 2)) (rT_rk h t3) (by rw [e92]; exact hg) (by rw [e90]; exact hp) (by omega) (by rw [e90]; exact Or.inl ⟨rfl, Or.inr (Or.inr (Or.inr (Or.inr ⟨kd, rfl, r, L, o, r0, r1, rfl⟩)))⟩) (fun Y y => ?_))
    have q := hQ Y (tl_trans (by omega) t3 y)
    iterate 30 (all_goals (first
      | (refine And.intro (by omega) ?_)
      | (refine And.intro (fun hb => absurd hb (by omega)) (fun hb => ?_))
      | (refine And.intro (fun hb => ?_) (fun hb => absurd hb (by omega)))
      | (refine And.intro (fun hb => ?_) (fun hb => ?_))
      | (intro hb)
      | (conv => whnf)))
    exact q
