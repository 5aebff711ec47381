/-! free rows in their order, as lists: all ways to go on from a stack S of open blocks, f the next new number -/
def o_cp : Nat → List Int → Int → List (List Int)
  | 0, _, _ => [[]]
  | l + 1, S, f => (List.range (S.length + 1)).flatMap (fun t => (o_cp l ((S ++ [f]).take (t + 1)) (if t < S.length then f else f + 1)).map (fun r => (S ++ [f]).getD t 0 :: r))
def o_br (l : Nat) (S : List Int) (f : Int) (t : Nat) : List (List Int) := (o_cp l ((S ++ [f]).take (t + 1)) (if t < S.length then f else f + 1)).map (fun r => (S ++ [f]).getD t 0 :: r)
theorem o_cp_S (l : Nat) (S : List Int) (f : Int) : o_cp (l + 1) S f = (List.range (S.length + 1)).flatMap (o_br l S f) := rfl
/-- the ways of the first m branches -/
def o_W (l m : Nat) : Int := (List.range m).foldl (fun s t => s + k_ways l (t + 1)) 0
theorem o_W_S (l m : Nat) : o_W l (m + 1) = o_W l m + k_ways l (m + 1) := by
  unfold o_W
  rw [List.range_succ, List.foldl_append]
  rfl
theorem k_ways_S (l o : Nat) : k_ways (l + 1) o = o_W l (o + 1) := rfl
theorem o_tk {S : List Int} {f : Int} {t : Nat} (h : t ≤ S.length) : ((S ++ [f]).take (t + 1)).length = t + 1 := by
  rw [List.length_take, List.length_append]
  show min (t + 1) (S.length + 1) = t + 1
  omega
theorem o_len : ∀ (l : Nat) (S : List Int) (f : Int), ((o_cp l S f).length : Int) = k_ways l S.length
  | 0, S, f => rfl
  | l + 1, S, f => by
    have br : ∀ t, t ≤ S.length → ((o_br l S f t).length : Int) = k_ways l (t + 1) := fun t ht => by
      unfold o_br
      rw [List.length_map, o_len l, o_tk ht]
    have key : ∀ m, m ≤ S.length + 1 → (((List.range m).flatMap (o_br l S f)).length : Int) = o_W l m := by
      intro m
      induction m with
      | zero => intro _; rfl
      | succ m ih =>
        intro hm
        rw [List.range_succ, List.flatMap_append, List.length_append, o_W_S, ← ih (by omega), ← br m (by omega)]
        show (((_ + (List.flatMap (o_br l S f) [m]).length : Nat)) : Int) = _
        rw [show List.flatMap (o_br l S f) [m] = o_br l S f m by simp]
        omega
    rw [o_cp_S, k_ways_S]
    exact key _ (Nat.le_refl _)
theorem o_br_len {l : Nat} {S : List Int} {f : Int} {t : Nat} (ht : t ≤ S.length) : ((o_br l S f t).length : Int) = k_ways l (t + 1) := by
  unfold o_br
  rw [List.length_map, o_len l, o_tk ht]
theorem o_ahead {l : Nat} {S : List Int} {f : Int} : ∀ m, m ≤ S.length + 1 → (((List.range m).flatMap (o_br l S f)).length : Int) = o_W l m := by
  intro m
  induction m with
  | zero => intro _; rfl
  | succ m ih =>
    intro hm
    rw [List.range_succ, List.flatMap_append, List.length_append, o_W_S, ← ih (by omega), ← o_br_len (l := l) (S := S) (f := f) (t := m) (by omega)]
    rw [show List.flatMap (o_br l S f) [m] = o_br l S f m by simp]
    omega
theorem o_split {α : Type} (F : Nat → List α) : ∀ m t, t < m → ∃ B, (List.range m).flatMap F = (List.range t).flatMap F ++ (F t ++ B) := by
  intro m
  induction m with
  | zero => intro t h; omega
  | succ m ih =>
    intro t h
    have e : (List.range (m + 1)).flatMap F = (List.range m).flatMap F ++ F m := by
      rw [List.range_succ, List.flatMap_append]
      simp
    by_cases q : t = m
    · subst q
      exact ⟨[], by rw [e, List.append_nil]⟩
    · obtain ⟨B, hB⟩ := ih t (by omega)
      exact ⟨B ++ F m, by rw [e, hB, List.append_assoc, List.append_assoc]⟩
/-- the place j of branch t -/
theorem o_at {l : Nat} {S : List Int} {f : Int} {t j : Nat} (ht : t ≤ S.length) (hj : (j : Int) < k_ways l (t + 1)) : (o_cp (l + 1) S f)[((o_W l t).toNat + j)]? = (o_br l S f t)[j]? := by
  obtain ⟨B, hB⟩ := o_split (o_br l S f) (S.length + 1) t (by omega)
  have h1 := o_ahead (l := l) (S := S) (f := f) t (by omega)
  have h2 := o_br_len (l := l) (S := S) (f := f) ht
  rw [o_cp_S, hB, List.getElem?_append_right (by omega), List.getElem?_append_left (by omega)]
  congr 1
  omega
theorem o_W_nn (l : Nat) : ∀ m, 0 ≤ o_W l m
  | 0 => Int.le_refl _
  | m + 1 => by
    have := o_W_nn l m
    have h := o_br_len (l := l) (S := List.replicate m 0) (f := 0) (t := m) (by rw [List.length_replicate]; exact Nat.le_refl _)
    rw [o_W_S, ← h]
    omega
theorem k_ways_pos (l o : Nat) : 0 ≤ k_ways l o := by
  have h := o_len l (List.replicate o 0) 0
  rw [List.length_replicate] at h
  omega
/-- an element of the list stands in a branch -/
theorem o_inbr {l : Nat} {S : List Int} {f : Int} {j : Nat} {R : List Int} (h : (o_cp (l + 1) S f)[j]? = some R) : ∃ t j', t ≤ S.length ∧ (j : Int) = o_W l t + (j' : Nat) ∧ (j' : Int) < k_ways l (t + 1) ∧ (o_br l S f t)[j']? = some R := by
  have key : ∀ m, m ≤ S.length + 1 → (j : Int) < o_W l m → ∃ t j', t < m ∧ (j : Int) = o_W l t + ((j' : Nat) : Int) ∧ (j' : Int) < k_ways l (t + 1) := by
    intro m
    induction m with
    | zero => intro _ h; exact absurd h (by show ¬ (j : Int) < 0; omega)
    | succ m ih =>
      intro hm h
      by_cases q : (j : Int) < o_W l m
      · obtain ⟨t, j', a, b⟩ := ih (by omega) q
        exact ⟨t, j', by omega, b⟩
      · rw [o_W_S] at h
        have := o_W_nn l m
        exact ⟨m, ((j : Int) - o_W l m).toNat, by omega, by omega, by omega⟩
  have hj : j < (o_cp (l + 1) S f).length := by
    rw [List.getElem?_eq_some_iff] at h
    exact h.1
  have hl := o_len (l + 1) S f
  rw [k_ways_S] at hl
  obtain ⟨t, j', a, b, c⟩ := key _ (Nat.le_refl _) (by omega)
  have hw := o_W_nn l t
  refine ⟨t, j', by omega, b, c, ?_⟩
  rw [← o_at (by omega) c, show (o_W l t).toNat + j' = j by omega]
  exact h
theorem o_br_some {l : Nat} {S : List Int} {f : Int} {t j : Nat} {R : List Int} (h : (o_br l S f t)[j]? = some R) : ∃ r, R = (S ++ [f]).getD t 0 :: r ∧ (o_cp l ((S ++ [f]).take (t + 1)) (if t < S.length then f else f + 1))[j]? = some r := by
  unfold o_br at h
  rw [List.getElem?_map] at h
  cases q : (o_cp l ((S ++ [f]).take (t + 1)) (if t < S.length then f else f + 1))[j]? with
  | none => rw [q] at h; cases h
  | some r =>
    rw [q] at h
    cases h
    exact ⟨r, rfl, rfl⟩
/-- rising stacks -/
abbrev o_inc (S : List Int) (f : Int) : Prop := (S ++ [f]).Pairwise (· < ·)
theorem o_inc_S {S : List Int} {f : Int} {t : Nat} (h : o_inc S f) : o_inc ((S ++ [f]).take (t + 1)) (if t < S.length then f else f + 1) := by
  have h' := List.pairwise_append.mp h
  by_cases q : t < S.length
  · rw [if_pos q]
    have e : (S ++ [f]).take (t + 1) = S.take (t + 1) := by
      rw [List.take_append_of_le_length (by omega)]
    rw [e]
    exact h.sublist (List.Sublist.append (List.take_sublist _ _) (List.Sublist.refl _))
  · rw [if_neg q]
    have e : (S ++ [f]).take (t + 1) = S ++ [f] := by
      rw [List.take_of_length_le]
      rw [List.length_append]
      show S.length + 1 ≤ t + 1
      omega
    rw [e]
    refine List.pairwise_append.mpr ⟨h, List.pairwise_singleton _ _, fun x hx y hy => ?_⟩
    obtain rfl := List.mem_singleton.mp hy
    rcases List.mem_append.mp hx with c | c
    · have := h'.2.2 x c f List.mem_cons_self
      omega
    · obtain rfl := List.mem_singleton.mp c
      omega
theorem o_inc_lt {S : List Int} {f : Int} (h : o_inc S f) {i j : Nat} (hij : i < j) (hj : j ≤ S.length) : (S ++ [f]).getD i 0 < (S ++ [f]).getD j 0 := by
  have hl : (S ++ [f]).length = S.length + 1 := by rw [List.length_append]; rfl
  have := List.pairwise_iff_getElem.mp h i j (by omega) (by omega) hij
  rw [List.getD_eq_getElem?_getD, List.getD_eq_getElem?_getD, List.getElem?_eq_getElem (by omega), List.getElem?_eq_getElem (by omega)]
  exact this
theorem o_cp_len : ∀ (l : Nat) (S : List Int) (f : Int) (r : List Int), r ∈ o_cp l S f → r.length = l
  | 0, S, f, r, h => by
    have : r = [] := List.mem_singleton.mp h
    rw [this]; rfl
  | l + 1, S, f, r, h => by
    rw [o_cp_S, List.mem_flatMap] at h
    obtain ⟨t, -, h⟩ := h
    unfold o_br at h
    rw [List.mem_map] at h
    obtain ⟨r', h1, rfl⟩ := h
    rw [List.length_cons, o_cp_len l _ _ r' h1]
/-! the order of rows -/
def o_ll : List Int → List Int → Prop
  | x :: xs, y :: ys => x < y ∨ (x = y ∧ o_ll xs ys)
  | _, _ => False
theorem o_ll_irr : ∀ xs, ¬ o_ll xs xs
  | [], h => h
  | x :: xs, h => by
    rcases h with h | h
    · omega
    · exact o_ll_irr xs h.2
theorem o_ll_asym : ∀ xs ys, o_ll xs ys → ¬ o_ll ys xs
  | [], _, h, _ => h
  | x :: xs, [], h, _ => h
  | x :: xs, y :: ys, h, h' => by
    rcases h with h | h <;> rcases h' with h' | h'
    · omega
    · omega
    · omega
    · exact o_ll_asym xs ys h.2 h'.2
theorem o_sorted : ∀ (l : Nat) (S : List Int) (f : Int), o_inc S f → (o_cp l S f).Pairwise o_ll
  | 0, S, f, _ => List.pairwise_singleton _ _
  | l + 1, S, f, h => by
    rw [o_cp_S, List.pairwise_flatMap]
    refine ⟨fun t ht => ?_, ?_⟩
    · unfold o_br
      rw [List.pairwise_map]
      exact (o_sorted l _ _ (o_inc_S h)).imp (fun q => Or.inr ⟨rfl, q⟩)
    · refine List.Pairwise.imp_of_mem ?_ List.pairwise_lt_range
      intro a b ha hb hab x hx y hy
      have hb := List.mem_range.mp hb
      unfold o_br at hx hy
      rw [List.mem_map] at hx hy
      obtain ⟨r, -, rfl⟩ := hx
      obtain ⟨r', -, rfl⟩ := hy
      exact Or.inl (o_inc_lt h hab (by omega))
/-- the row of a function -/
def o_tl (g : Int → Int) : Int → Nat → List Int
  | _, 0 => []
  | k, l + 1 => g k :: o_tl g (k + 1) l
theorem o_tl_len (g : Int → Int) : ∀ (l : Nat) (k : Int), (o_tl g k l).length = l
  | 0, _ => rfl
  | l + 1, k => by rw [o_tl, List.length_cons, o_tl_len g l]
theorem o_tl_eq {g : Int → Int} : ∀ (r : List Int) (k : Int), (∀ i : Nat, i < r.length → g (k + i) = r.getD i 0) → o_tl g k r.length = r
  | [], k, _ => rfl
  | x :: r, k, h => by
    have h0 : g (k + (0 : Nat)) = x := h 0 (by rw [List.length_cons]; omega)
    rw [List.length_cons, o_tl, o_tl_eq r (k + 1) (fun i hi => ?_), show k = k + (0 : Nat) by omega, h0]
    have := h (i + 1) (by rw [List.length_cons]; omega)
    rw [show k + 1 + (i : Int) = k + ((i + 1 : Nat) : Int) by omega, this]
    rfl
theorem o_tl_get (g : Int → Int) : ∀ (l : Nat) (k : Int) (i : Nat), i < l → (o_tl g k l).getD i 0 = g (k + i)
  | 0, _, _, h => by omega
  | l + 1, k, 0, _ => by
    rw [show k + ((0 : Nat) : Int) = k by omega]; rfl
  | l + 1, k, i + 1, h => by
    have := o_tl_get g l (k + 1) i (by omega)
    rw [show k + ((i + 1 : Nat) : Int) = k + 1 + (i : Int) by omega, ← this]
    rfl
theorem o_tl_same {g h : Int → Int} : ∀ (l : Nat) (k : Int), (∀ j, k ≤ j → j < k + l → g j = h j) → o_tl g k l = o_tl h k l
  | 0, _, _ => rfl
  | l + 1, k, e => by
    rw [o_tl, o_tl, e k (by omega) (by omega), o_tl_same l (k + 1) (fun j a b => e j (by omega) (by omega))]
/-- g comes ahead of h -/
def o_lt (g h : Int → Int) (n : Int) : Prop := ∃ k, (0 ≤ k ∧ k < n) ∧ (∀ j, 0 ≤ j → j < k → g j = h j) ∧ g k < h k
theorem o_ll_iff {g h : Int → Int} : ∀ (l : Nat) (k : Int), o_ll (o_tl g k l) (o_tl h k l) ↔ ∃ m, (k ≤ m ∧ m < k + l) ∧ (∀ j, k ≤ j → j < m → g j = h j) ∧ g m < h m
  | 0, k => ⟨fun q => q.elim, fun ⟨m, a, _⟩ => by omega⟩
  | l + 1, k => by
    have ih := o_ll_iff (g := g) (h := h) l (k + 1)
    constructor
    · rintro (q | ⟨q1, q2⟩)
      · exact ⟨k, by omega, fun j a b => by omega, q⟩
      · obtain ⟨m, a, b, c⟩ := ih.mp q2
        refine ⟨m, by omega, fun j a' b' => ?_, c⟩
        by_cases e : j = k
        · rw [e]; exact q1
        · exact b j (by omega) b'
    · rintro ⟨m, a, b, c⟩
      by_cases e : m = k
      · subst e
        exact Or.inl c
      · exact Or.inr ⟨b k (by omega) (by omega), ih.mpr ⟨m, by omega, fun j a' b' => b j (by omega) b', c⟩⟩
theorem o_lt_iff {g h : Int → Int} {n : Int} (hn : 0 ≤ n) : o_lt g h n ↔ o_ll (o_tl g 0 n.toNat) (o_tl h 0 n.toNat) := by
  rw [o_ll_iff]
  constructor
  · rintro ⟨k, a, b, c⟩
    exact ⟨k, by omega, b, c⟩
  · rintro ⟨k, a, b, c⟩
    exact ⟨k, by omega, b, c⟩
theorem o_lt_trans {f g h : Int → Int} {n : Int} (a : o_lt f g n) (b : o_lt g h n) : o_lt f h n := by
  obtain ⟨k, a1, a2, a3⟩ := a
  obtain ⟨m, b1, b2, b3⟩ := b
  by_cases q : k < m
  · exact ⟨k, a1, fun j c d => (a2 j c d).trans (b2 j c (by omega)), by rw [← b2 k a1.1 q]; exact a3⟩
  · by_cases q2 : k = m
    · subst q2
      exact ⟨k, a1, fun j c d => (a2 j c d).trans (b2 j c d), by omega⟩
    · exact ⟨m, b1, fun j c d => (a2 j c (by omega)).trans (b2 j c d), by rw [a2 m b1.1 (by omega)]; exact b3⟩
