/-! the stack of a free row -/
theorem m_rgs_dn {g : Int → Int} {n : Int} (h : m_rgs g n) : ∀ (jj : Nat) (k v : Int), k < jj → 0 ≤ k → k < n → 0 ≤ v → v < g k → ∃ j, 0 ≤ j ∧ j < k ∧ g j = v := by
  intro jj
  induction jj with
  | zero => intro k v a b; omega
  | succ jj ih =>
    intro k v a b c d e
    obtain ⟨h1, h2⟩ := h k b c
    rcases h2 with h2 | ⟨j, j0, j1, j2⟩
    · omega
    · by_cases q : v = g j
      · exact ⟨j, j0, j1, q.symm⟩
      · obtain ⟨i, i0, i1, i2⟩ := ih j v (by omega) j0 (by omega) d (by omega)
        exact ⟨i, i0, by omega, i2⟩
/-- block b is shut: one of its points lies between two points of another block -/
def o_sh (g : Int → Int) (k b : Int) : Prop := ∃ u v w, 0 ≤ u ∧ u < v ∧ v < w ∧ w < k ∧ g u = g w ∧ g v = b ∧ g u ≠ b
def o_St (g : Int → Int) (k : Int) (S : List Int) (f : Int) : Prop := 0 ≤ k ∧ m_rgs g k ∧ ¬ m_Cr g k ∧ m_nb g k f ∧ o_inc S f ∧ (∀ x, x ∈ S → (∃ j, 0 ≤ j ∧ j < k ∧ g j = x) ∧ ¬ o_sh g k x) ∧ ∀ j, 0 ≤ j → j < k → g j ∈ S ∨ o_sh g k (g j)
theorem o_St0 (g : Int → Int) : o_St g 0 [] 0 := by
  refine ⟨Int.le_refl _, fun k a b => by omega, ?_, ⟨Int.le_refl _, fun i a b => by omega, Or.inl rfl⟩, List.pairwise_singleton _ _, fun x hx => (List.not_mem_nil hx).elim, fun j a b => by omega⟩
  rintro ⟨a, b, c, d, h0, h1, h2, h3, h4, -⟩
  omega
theorem o_getD_mem {S : List Int} {t : Nat} (h : t < S.length) : S.getD t 0 ∈ S := by
  rw [List.getD_eq_getElem?_getD, List.getElem?_eq_getElem h]
  exact List.getElem_mem h
theorem o_mem_getD {S : List Int} {x : Int} (h : x ∈ S) : ∃ t, t < S.length ∧ S.getD t 0 = x := by
  obtain ⟨t, ht, e⟩ := List.getElem_of_mem h
  refine ⟨t, ht, ?_⟩
  rw [List.getD_eq_getElem?_getD, List.getElem?_eq_getElem ht]
  exact e
theorem o_ex_lt {S : List Int} {f : Int} {t : Nat} (h : t < S.length) : (S ++ [f]).getD t 0 = S.getD t 0 := by
  rw [List.getD_eq_getElem?_getD, List.getD_eq_getElem?_getD, List.getElem?_append_left h]
theorem o_ex_eq {S : List Int} {f : Int} : (S ++ [f]).getD S.length 0 = f := by
  rw [List.getD_eq_getElem?_getD, List.getElem?_append_right (Nat.le_refl _), Nat.sub_self]
  rfl
theorem o_take_mem {S : List Int} {f : Int} {t : Nat} {x : Int} (ht : t ≤ S.length) (h : x ∈ (S ++ [f]).take (t + 1)) : ∃ i, i ≤ t ∧ (S ++ [f]).getD i 0 = x := by
  obtain ⟨i, hi, e⟩ := o_mem_getD h
  rw [o_tk ht] at hi
  refine ⟨i, by omega, ?_⟩
  rw [← e, List.getD_eq_getElem?_getD, List.getD_eq_getElem?_getD, List.getElem?_take, if_pos hi]
theorem o_mem_take {S : List Int} {f : Int} {t i : Nat} (ht : t ≤ S.length) (h : i ≤ t) : (S ++ [f]).getD i 0 ∈ (S ++ [f]).take (t + 1) := by
  have := o_getD_mem (S := (S ++ [f]).take (t + 1)) (t := i) (by rw [o_tk ht]; omega)
  rw [List.getD_eq_getElem?_getD, List.getElem?_take, if_pos (by omega), ← List.getD_eq_getElem?_getD] at this
  exact this
theorem o_step {g : Int → Int} {k : Int} {S : List Int} {f : Int} {t : Nat} (h : o_St g k S f) (ht : t ≤ S.length) (e : g k = (S ++ [f]).getD t 0) : o_St g (k + 1) ((S ++ [f]).take (t + 1)) (if t < S.length then f else f + 1) := by
  obtain ⟨h0, h1, h2, h3, h4, h5, h6⟩ := h
  have hf : ∀ j, 0 ≤ j → j < k → g j < f := h3.2.1
  have hgk : (t < S.length ∧ g k ∈ S) ∨ (t = S.length ∧ g k = f) := by
    by_cases q : t < S.length
    · left
      rw [e, o_ex_lt q]
      exact ⟨q, o_getD_mem q⟩
    · right
      have q : t = S.length := by omega
      rw [e, q, o_ex_eq]
      exact ⟨rfl, rfl⟩
  have h0' : 0 ≤ f := h3.1
  have rgk : 0 ≤ g k ∧ (g k = 0 ∨ ∃ j, 0 ≤ j ∧ j < k ∧ g j = g k - 1) := by
    rcases hgk with ⟨-, c⟩ | ⟨-, c⟩
    · obtain ⟨⟨j, j0, j1, j2⟩, -⟩ := h5 _ c
      obtain ⟨a, b⟩ := h1 j j0 j1
      rw [← j2]
      refine ⟨a, b.elim Or.inl (fun ⟨i, i0, i1, i2⟩ => Or.inr ⟨i, i0, by omega, i2⟩)⟩
    · rw [c]
      refine ⟨h0', ?_⟩
      rcases h3.2.2 with q | ⟨i, i0, i1, i2⟩
      · exact Or.inl q
      · exact Or.inr ⟨i, i0, i1, by omega⟩
  have rg1 : m_rgs g (k + 1) := fun j a b => by
    by_cases q : j = k
    · subst q; exact rgk
    · exact h1 j a (by omega)
  have nsk : ¬ o_sh g k (g k) := by
    rcases hgk with ⟨-, c⟩ | ⟨-, c⟩
    · exact (h5 _ c).2
    · rintro ⟨u, v, w, a1, a2, a3, a4, a5, a6, a7⟩
      have := hf v (by omega) (by omega)
      omega
  refine ⟨by omega, rg1, ?_, ?_, o_inc_S h4, fun x hx => ?_, fun j a b => ?_⟩
  · rintro ⟨a, b, c, d, a0, a1, a2, a3, a4, a5, a6, a7⟩
    by_cases q : d = k
    · subst q
      exact nsk ⟨a, b, c, a0, a1, a2, a3, a7, a5, by rw [a7]; exact a6⟩
    · exact h2 ⟨a, b, c, d, a0, a1, a2, a3, by omega, a5, a6, a7⟩
  · rcases hgk with ⟨q, c⟩ | ⟨q, c⟩
    · rw [if_pos q]
      obtain ⟨⟨j, j0, j1, j2⟩, -⟩ := h5 _ c
      refine ⟨h0', fun i a b => ?_, Or.inr ?_⟩
      · by_cases z : i = k
        · rw [z, ← j2]; exact hf j j0 j1
        · exact hf i a (by omega)
      · rcases h3.2.2 with z | ⟨i, i0, i1, i2⟩
        · have := hf j j0 j1
          have := (h1 j j0 j1).1
          omega
        · exact ⟨i, i0, by omega, i2⟩
    · rw [if_neg (by omega)]
      refine ⟨by omega, fun i a b => ?_, Or.inr ⟨k, h0, by omega, by rw [c]⟩⟩
      by_cases z : i = k
      · rw [z, c]; omega
      · have := hf i a (by omega); omega
  · obtain ⟨i, hi, ei⟩ := o_take_mem ht hx
    by_cases q : i = t
    · rw [q, ← e] at ei
      refine ⟨⟨k, h0, by omega, ei⟩, ?_⟩
      rintro ⟨u, v, w, a1, a2, a3, a4, a5, a6, a7⟩
      by_cases z : w = k
      · subst z
        exact a7 (a5.trans ei)
      · exact nsk ⟨u, v, w, a1, a2, a3, by omega, a5, a6.trans ei.symm, by rw [ei]; exact a7⟩
    · have hlt := o_inc_lt h4 (show i < t by omega) ht
      rw [← e, ei] at hlt
      rw [o_ex_lt (by omega)] at ei
      have hxS : x ∈ S := by rw [← ei]; exact o_getD_mem (by omega)
      obtain ⟨⟨j, j0, j1, j2⟩, ns⟩ := h5 x hxS
      refine ⟨⟨j, j0, by omega, j2⟩, ?_⟩
      rintro ⟨u, v, w, a1, a2, a3, a4, a5, a6, a7⟩
      by_cases z : w = k
      · subst z
        rcases hgk with ⟨z1, z2⟩ | ⟨z1, z2⟩
        · have x0 : 0 ≤ x := by rw [← j2]; exact (h1 j j0 j1).1
          obtain ⟨u0, b0, b1, b2⟩ := m_rgs_dn h1 (u + 1).toNat u x (by omega) a1 (by omega) x0 (by rw [a5]; exact hlt)
          exact nsk ⟨u0, u, v, b0, b1, a2, a3, b2.trans a6.symm, a5, by rw [b2, ← a5]; exact fun z => a7 z.symm⟩
        · have := hf u a1 (by omega)
          omega
      · exact ns ⟨u, v, w, a1, a2, a3, by omega, a5, a6, a7⟩
  · by_cases q : j = k
    · subst q
      left
      rw [e]
      exact o_mem_take ht (Nat.le_refl _)
    · rcases h6 j a (by omega) with c | ⟨u, v, w, a1, a2, a3, a4, a5, a6, a7⟩
      · obtain ⟨i, hi, ei⟩ := o_mem_getD c
        by_cases z : i ≤ t
        · left
          rw [← ei, ← o_ex_lt (f := f) hi]
          exact o_mem_take ht z
        · right
          have hlt := o_inc_lt h4 (show t < i by omega) (by omega)
          rw [← e, o_ex_lt hi, ei] at hlt
          obtain ⟨u, b0, b1, b2⟩ := m_rgs_dn h1 (j + 1).toNat j (g k) (by omega) a (by omega) rgk.1 hlt
          exact ⟨u, j, k, b0, b1, by omega, by omega, b2, rfl, by omega⟩
      · exact Or.inr ⟨u, v, w, a1, a2, a3, by omega, a5, a6, a7⟩
/-- a free row's next point is in the stack or new -/
theorem o_next {g : Int → Int} {k : Int} {S : List Int} {f : Int} (h : o_St g k S f) (hr : m_rgs g (k + 1)) (hc : ¬ m_Cr g (k + 1)) : ∃ t, t ≤ S.length ∧ g k = (S ++ [f]).getD t 0 := by
  obtain ⟨h0, h1, h2, h3, h4, h5, h6⟩ := h
  by_cases q : ∃ j, 0 ≤ j ∧ j < k ∧ g j = g k
  · obtain ⟨j, j0, j1, j2⟩ := q
    rcases h6 j j0 j1 with c | ⟨u, v, w, a1, a2, a3, a4, a5, a6, a7⟩
    · obtain ⟨t, ht, e⟩ := o_mem_getD c
      exact ⟨t, by omega, by rw [o_ex_lt ht, e, j2]⟩
    · exact absurd ⟨u, v, w, k, a1, a2, a3, a4, by omega, a6.trans j2, by rw [← a5, ← j2]; exact a7, a5⟩ hc
  · refine ⟨S.length, Nat.le_refl _, ?_⟩
    rw [o_ex_eq]
    obtain ⟨a, b⟩ := hr k h0 (by omega)
    have hf : ∀ j, 0 ≤ j → j < k → g j < f := h3.2.1
    rcases Int.lt_trichotomy (g k) f with c | c | c
    · exfalso
      rcases h3.2.2 with z | ⟨i, i0, i1, i2⟩
      · have := h3.1; omega
      · by_cases w : g i = g k
        · exact q ⟨i, i0, i1, w⟩
        · obtain ⟨j, j0, j1, j2⟩ := m_rgs_dn h1 (i + 1).toNat i (g k) (by omega) i0 i1 a (by omega)
          exact q ⟨j, j0, by omega, j2⟩
    · exact c
    · exfalso
      have := h3.1
      rcases b with b | ⟨j, j0, j1, j2⟩
      · omega
      · have := hf j j0 j1; omega
theorem m_rgs_sub {g : Int → Int} {n m : Int} (h : m_rgs g n) (hm : m ≤ n) : m_rgs g m := fun k a b => h k a (by omega)
theorem m_Cr_sub {g : Int → Int} {n m : Int} (h : ¬ m_Cr g n) (hm : m ≤ n) : ¬ m_Cr g m := by
  rintro ⟨a, b, c, d, a0, a1, a2, a3, a4, a5⟩
  exact h ⟨a, b, c, d, a0, a1, a2, a3, by omega, a5⟩
theorem o_mem : ∀ (l : Nat) (g : Int → Int) (k : Int) (S : List Int) (f : Int), o_St g k S f → m_rgs g (k + l) → ¬ m_Cr g (k + l) → o_tl g k l ∈ o_cp l S f
  | 0, g, k, S, f, _, _, _ => List.mem_singleton.mpr rfl
  | l + 1, g, k, S, f, h, hr, hc => by
    obtain ⟨t, ht, e⟩ := o_next h (m_rgs_sub hr (by omega)) (m_Cr_sub hc (by omega))
    have ih := o_mem l g (k + 1) _ _ (o_step h ht e) (m_rgs_sub hr (by omega)) (m_Cr_sub hc (by omega))
    rw [o_cp_S, List.mem_flatMap]
    refine ⟨t, List.mem_range.mpr (by omega), ?_⟩
    unfold o_br
    rw [List.mem_map]
    exact ⟨_, ih, by rw [o_tl, e]⟩
theorem o_snd : ∀ (l : Nat) (g : Int → Int) (k : Int) (S : List Int) (f : Int), o_St g k S f → o_tl g k l ∈ o_cp l S f → m_rgs g (k + l) ∧ ¬ m_Cr g (k + l)
  | 0, g, k, S, f, h, _ => by
    rw [show k + ((0 : Nat) : Int) = k by omega]
    exact ⟨h.2.1, h.2.2.1⟩
  | l + 1, g, k, S, f, h, hm => by
    rw [o_cp_S, List.mem_flatMap] at hm
    obtain ⟨t, ht, hm⟩ := hm
    have ht := List.mem_range.mp ht
    unfold o_br at hm
    rw [List.mem_map] at hm
    obtain ⟨r, hr, e⟩ := hm
    rw [o_tl] at e
    injection e with e1 e2
    rw [e2] at hr
    have := o_snd l g (k + 1) _ _ (o_step h (by omega) e1.symm) hr
    rw [show k + 1 + (l : Int) = k + ((l + 1 : Nat) : Int) by omega] at this
    exact this
/-! all free rows of n points -/
abbrev o_L (n : Int) : List (List Int) := o_cp n.toNat [] 0
/-- g is the row at place i -/
def o_is (g : Int → Int) (n : Int) (i : Int) : Prop := 0 ≤ i ∧ (o_L n)[i.toNat]? = some (o_tl g 0 n.toNat)
theorem o_is_ex {g : Int → Int} {n : Int} (hn : 0 ≤ n) (hr : m_rgs g n) (hc : ¬ m_Cr g n) : ∃ i, o_is g n i := by
  have h := o_mem n.toNat g 0 [] 0 (o_St0 g) (by rw [show (0 : Int) + (n.toNat : Int) = n by omega]; exact hr) (by rw [show (0 : Int) + (n.toNat : Int) = n by omega]; exact hc)
  obtain ⟨t, ht⟩ := List.getElem?_of_mem h
  exact ⟨t, by omega, by rw [show (t : Int).toNat = t by omega]; exact ht⟩
theorem o_is_fr {g : Int → Int} {n i : Int} (hn : 0 ≤ n) (h : o_is g n i) : m_rgs g n ∧ ¬ m_Cr g n := by
  have := o_snd n.toNat g 0 [] 0 (o_St0 g) (List.mem_of_getElem? h.2)
  rw [show (0 : Int) + (n.toNat : Int) = n by omega] at this
  exact this
theorem o_is_lt {g : Int → Int} {n i : Int} (h : o_is g n i) : 0 ≤ i ∧ i < k_ways n.toNat 0 := by
  have h1 : ((o_cp n.toNat [] 0).length : Int) = k_ways n.toNat 0 := o_len n.toNat [] 0
  have h2 : i.toNat < (o_cp n.toNat [] 0).length := (List.getElem?_eq_some_iff.mp h.2).1
  have := h.1
  omega
def o_fn (r : List Int) (i : Int) : Int := r.getD i.toNat 0
theorem o_fn_tl {r : List Int} {n : Nat} (h : r.length = n) : o_tl (o_fn r) 0 n = r := by
  subst h
  refine o_tl_eq r 0 (fun i hi => ?_)
  unfold o_fn
  rw [show (0 + (i : Int)).toNat = i by omega]
theorem o_is_all {n i : Int} (h0 : 0 ≤ i) (h1 : i < k_ways n.toNat 0) : ∃ g, o_is g n i := by
  have hl := o_len n.toNat [] 0
  rw [show ([] : List Int).length = 0 from rfl] at hl
  have hi : i.toNat < (o_L n).length := by show i.toNat < (o_cp n.toNat [] 0).length; omega
  refine ⟨o_fn (o_L n)[i.toNat], h0, ?_⟩
  rw [o_fn_tl (o_cp_len _ _ _ _ (List.getElem_mem hi)), List.getElem?_eq_getElem hi]
theorem o_is_ord {g h : Int → Int} {n i j : Int} (hn : 0 ≤ n) (hg : o_is g n i) (hh : o_is h n j) (hij : i < j) : o_lt g h n := by
  have hs := o_sorted n.toNat [] 0 (List.pairwise_singleton _ _)
  obtain ⟨g0, g1⟩ := hg
  obtain ⟨h0, h1⟩ := hh
  obtain ⟨g2, g3⟩ := List.getElem?_eq_some_iff.mp g1
  obtain ⟨h2, h3⟩ := List.getElem?_eq_some_iff.mp h1
  have := List.pairwise_iff_getElem.mp hs i.toNat j.toNat g2 h2 (by omega)
  rw [o_lt_iff hn, ← g3, ← h3]
  exact this
theorem o_lt_irr {g : Int → Int} {n : Int} : ¬ o_lt g g n := by
  rintro ⟨k, -, -, a⟩
  omega
theorem o_lt_asym {g h : Int → Int} {n : Int} (a : o_lt g h n) : ¬ o_lt h g n := fun b => o_lt_irr (o_lt_trans a b)
theorem o_is_eq {g h : Int → Int} {n i : Int} (hn : 0 ≤ n) (hg : o_is g n i) (hh : o_is h n i) : ∀ k, 0 ≤ k → k < n → g k = h k := fun k a b => by
  have e : o_tl g 0 n.toNat = o_tl h 0 n.toNat := by
    have := hg.2.symm.trans hh.2
    injection this
  have h1 := o_tl_get g n.toNat 0 k.toNat (by omega)
  have h2 := o_tl_get h n.toNat 0 k.toNat (by omega)
  rw [show (0 : Int) + (k.toNat : Int) = k by omega] at h1 h2
  rw [← h1, ← h2, e]
theorem o_is_same {g h : Int → Int} {n i : Int} (hg : o_is g n i) (e : ∀ k, 0 ≤ k → k < n → g k = h k) : o_is h n i := by
  refine ⟨hg.1, ?_⟩
  rw [← o_tl_same (g := g) n.toNat 0 (fun j a b => e j a (by omega))]
  exact hg.2
theorem o_lt_same {g g' h h' : Int → Int} {n : Int} (e1 : ∀ k, 0 ≤ k → k < n → g k = g' k) (e2 : ∀ k, 0 ≤ k → k < n → h k = h' k) (a : o_lt g h n) : o_lt g' h' n := by
  obtain ⟨k, a1, a2, a3⟩ := a
  exact ⟨k, a1, fun j c d => by rw [← e1 j c (by omega), ← e2 j c (by omega)]; exact a2 j c d, by rw [← e1 k a1.1 a1.2, ← e2 k a1.1 a1.2]; exact a3⟩
/-- the next free one: what nextFree finds -/
theorem o_is_next {g h : Int → Int} {n i : Int} (hn : 0 ≤ n) (hg : o_is g n i) (h1 : m_rgs h n) (h2 : ¬ m_Cr h n) (h3 : o_lt g h n) (h4 : ∀ f, m_rgs f n → ¬ m_Cr f n → o_lt g f n → ¬ o_lt f h n) : o_is h n (i + 1) := by
  obtain ⟨j, hj⟩ := o_is_ex hn h1 h2
  rcases Int.lt_trichotomy j (i + 1) with c | c | c
  · exfalso
    by_cases e : j = i
    · subst e
      exact o_lt_irr (o_lt_same (fun _ _ _ => rfl) (o_is_eq hn hj hg) h3)
    · exact o_lt_asym h3 (o_is_ord hn hj hg (by omega))
  · rw [← c]; exact hj
  · exfalso
    have := o_is_lt hj
    have := hg.1
    obtain ⟨f, hf⟩ := o_is_all (n := n) (i := i + 1) (by omega) (by omega)
    obtain ⟨f1, f2⟩ := o_is_fr hn hf
    exact h4 f f1 f2 (o_is_ord hn hg hf (by omega)) (o_is_ord hn hf hj c)
theorem o_is_last {g : Int → Int} {n i : Int} (hn : 0 ≤ n) (hg : o_is g n i) (h4 : ∀ f, m_rgs f n → ¬ m_Cr f n → ¬ o_lt g f n) : i + 1 = k_ways n.toNat 0 := by
  have := o_is_lt hg
  by_cases e : i + 1 = k_ways n.toNat 0
  · exact e
  · exfalso
    obtain ⟨f, hf⟩ := o_is_all (n := n) (i := i + 1) (by omega) (by omega)
    obtain ⟨f1, f2⟩ := o_is_fr hn hf
    exact h4 f f1 f2 (o_is_ord hn hg hf (by omega))
/-- the row of zeros is the first -/
theorem o_is_zero {g : Int → Int} {n : Int} (hn : 1 ≤ n) (h : ∀ k, 0 ≤ k → k < n → g k = 0) : o_is g n 0 := by
  have r : m_rgs g n := fun k a b => ⟨by rw [h k a b]; omega, Or.inl (h k a b)⟩
  have c : ¬ m_Cr g n := by
    rintro ⟨a, b, c, d, a0, a1, a2, a3, a4, a5, a6, a7⟩
    exact a6 (by rw [h c (by omega) (by omega), h d (by omega) (by omega)])
  obtain ⟨i, hi⟩ := o_is_ex (by omega) r c
  by_cases e : i = 0
  · rw [← e]; exact hi
  · exfalso
    have := o_is_lt hi
    obtain ⟨f, hf⟩ := o_is_all (n := n) (i := 0) (by omega) (by omega)
    obtain ⟨k, a1, a2, a3⟩ := o_is_ord (by omega) hf hi (by omega)
    have := ((o_is_fr (by omega) hf).1 k a1.1 a1.2).1
    rw [h k a1.1 a1.2] at a3
    omega
