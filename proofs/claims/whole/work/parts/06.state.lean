/-! the abstract memory and the heap -/
def am_TT (c : Nat) : u_T := match c with
  | 0 => TX0
  | 1 => TX1
  | 2 => TX2
  | 3 => TX3
  | 4 => TX4
  | _ => TX5
def am_NN (c : Nat) : Nat := match c with
  | 0 => 3
  | 1 => 2
  | 2 => 2
  | 3 => 5
  | 4 => 18
  | _ => 24
def am_RR (c : Nat) : String := match c with
  | 0 => RX0
  | 1 => RX1
  | 2 => RX2
  | 3 => RX3
  | 4 => RX4
  | _ => RX5
def am_ty (c : Nat) : Nat → FieldType := match c with
  | 0 => tyX0
  | 1 => tyX1
  | 2 => tyX2
  | 3 => tyX3
  | 4 => tyX4
  | _ => tyX5
abbrev am_cls : List vw_C := [(RX0, TX0, 3), (RX1, TX1, 2), (RX2, TX2, 2), (RX3, TX3, 5), (RX4, TX4, 18), (RX5, TX5, 24)]
theorem am_cls_at : ∀ c, c < 6 → am_cls[c]? = some (am_RR c, am_TT c, am_NN c)
  | 0, _ => rfl
  | 1, _ => rfl
  | 2, _ => rfl
  | 3, _ => rfl
  | 4, _ => rfl
  | 5, _ => rfl
  | n + 6, h => absurd h (by omega)
theorem am_nm : ∀ c, c < 6 → ∀ a, a < am_NN c → ∀ b, b < am_NN c → a ≠ b → (am_TT c a).2.1 ≠ (am_TT c b).2.1
  | 0, _ => nmX0
  | 1, _ => nmX1
  | 2, _ => nmX2
  | 3, _ => nmX3
  | 4, _ => nmX4
  | 5, _ => nmX5
  | n + 6, h => absurd h (by omega)
theorem am_tyok : ∀ c, c < 6 → ∀ k, k < am_NN c → parseFieldDescriptor (am_TT c k).2.2.1 = some (am_ty c k)
  | 0, _ => tyX0_ok
  | 1, _ => tyX1_ok
  | 2, _ => tyX2_ok
  | 3, _ => tyX3_ok
  | 4, _ => tyX4_ok
  | 5, _ => tyX5_ok
  | n + 6, h => absurd h (by omega)
/-- a field's kind: 0 int, 1 long, 2 boolean, 3 a reference -/
def am_fk (c k : Nat) : Nat := match am_ty c k with
  | .int => 0
  | .long => 1
  | .boolean => 2
  | .object _ => 3
  | .array _ => 3
  | _ => 9
/-- the launch, the classes' numbers, where the new cells begin, where the script and the two constant rows lie, the array classes' numbers -/
abbrev am_G : Type := Launch × va_G × Nat × (Nat → Nat) × (Nat → ClassId)
abbrev am_G.l (G : am_G) : Launch := G.1
abbrev am_G.D (G : am_G) : va_G := G.2.1
abbrev am_G.b (G : am_G) : Nat := G.2.2.1
abbrev am_G.ex (G : am_G) : Nat → Nat := G.2.2.2.1
abbrev am_G.cy (G : am_G) : Nat → ClassId := G.2.2.2.2
abbrev am_tys (G : am_G) : List (ClassId × FieldType) := [(am_G.cy G 0, .int), (am_G.cy G 1, .long), (am_G.cy G 2, .boolean), (am_G.cy G 3, .array .long), (am_G.cy G 4, .array .int), (am_G.cy G 5, .object RX3)]
def am_ad (G : am_G) (a : Nat) : Nat := if a < 3 then am_G.ex G a else am_G.b G + (a - 3)
def am_cv (G : am_G) : AV → Value
  | .inl z => .int (Int32.ofInt z)
  | .inr (.inl z) => .long (Int64.ofInt z)
  | .inr (.inr none) => .null
  | .inr (.inr (some (.inl a))) => .ref (am_ad G a)
  | .inr (.inr (some (.inr (a, i)))) => .ref (am_ad G a + 1 + i.toNat)
def am_fv (G : am_G) (V : am_V) (R : am_T) (c a j : Nat) : Value := match am_fk c j with
  | 0 => .int (Int32.ofInt (V a j))
  | 1 => .long (Int64.ofInt (V a j))
  | 2 => .int (Int32.ofInt (V a j))
  | _ => va_rf ((R a j).map (am_ad G))
def am_e (G : am_G) (V : am_V) (R : am_T) (a : Nat) : va_E := match am_lay a with
  | (0, n, _, _) => .inl (am_G.cy G 0, n, .inl (fun j => Int32.ofInt (V a j)))
  | (1, n, _, _) => .inl (am_G.cy G 1, n, .inr (.inl (fun j => Int64.ofInt (V a j))))
  | (2, n, _, _) => .inl (am_G.cy G 2, n, .inl (fun j => Int32.ofInt (V a j)))
  | (3, n, _, _) => .inl (am_G.cy G 3, n, .inr (.inr (.inr (.inr (fun j => if j < n then some (am_ad G a + 1 + j) else none)))))
  | (4, n, _, _) => .inl (am_G.cy G 4, n, .inr (.inr (.inr (.inr (fun j => if j < n then some (am_ad G a + 1 + j) else none)))))
  | (5, n, _, _) => .inl (am_G.cy G 5, n, .inr (.inr (.inr (.inr (fun j => (R a j).map (am_ad G))))))
  | (6, n, o, i) => .inl (am_G.cy G 1, n, .inr (.inl (fun j => if j < n then Int64.ofInt (V o (64 * (i : Int) + j)) else 0)))
  | (7, n, o, i) => .inl (am_G.cy G 0, n, .inl (fun j => if j < n then Int32.ofInt (V o (64 * (i : Int) + j)) else 0))
  | (k, n, _, _) => .inr (k - 10, (List.range n).map (am_fv G V R (k - 10) a))
def am_ws (G : am_G) (V : am_V) (R : am_T) (T : Nat) : va_W := (List.range (T - 3)).map (fun i => (am_G.b G + i, am_e G V R (i + 3)))
theorem am_ad_ge {G : am_G} {a : Nat} (h : 3 ≤ a) : am_ad G a = am_G.b G + (a - 3) := if_neg (by omega)
theorem am_ws_at {G : am_G} {V : am_V} {R : am_T} {T a : Nat} (h : 3 ≤ a) (ht : a < T) : (am_ws G V R T)[a - 3]? = some (am_ad G a, am_e G V R a) := by
  unfold am_ws
  rw [List.getElem?_map, List.getElem?_range (by omega), am_ad_ge h]
  show some (am_G.b G + (a - 3), am_e G V R (a - 3 + 3)) = _
  rw [show a - 3 + 3 = a by omega]
theorem am_ws_len {G : am_G} {V : am_V} {R : am_T} {T : Nat} : (am_ws G V R T).length = T - 3 := by simp [am_ws]
theorem am_ws_of {G : am_G} {V : am_V} {R : am_T} {T i : Nat} {q : Nat × va_E} (h : (am_ws G V R T)[i]? = some q) : i < T - 3 ∧ q = (am_G.b G + i, am_e G V R (i + 3)) := by
  have hl := (List.getElem?_eq_some_iff.mp h).1
  rw [am_ws_len] at hl
  unfold am_ws at h
  rw [List.getElem?_map, List.getElem?_range hl] at h
  exact ⟨hl, (Option.some.inj h).symm⟩
theorem am_ws_set {G : am_G} {V V' : am_V} {R R' : am_T} {T a : Nat} (h : 3 ≤ a) (ht : a < T) {x : va_E} (hx : am_e G V' R' a = x) (ho : ∀ b, b < T → b ≠ a → am_e G V' R' b = am_e G V R b) : (am_ws G V R T).set (a - 3) (am_ad G a, x) = am_ws G V' R' T := by
  apply List.ext_getElem?
  intro i
  by_cases hi : i < T - 3
  · by_cases e : i = a - 3
    · subst e
      rw [List.getElem?_set_self (by rw [am_ws_len]; omega), am_ws_at h ht, hx]
    · rw [List.getElem?_set_ne (fun q => e q.symm)]
      have h1 := am_ws_at (G := G) (V := V) (R := R) (T := T) (a := i + 3) (by omega) (by omega)
      have h2 := am_ws_at (G := G) (V := V') (R := R') (T := T) (a := i + 3) (by omega) (by omega)
      rw [show i + 3 - 3 = i by omega] at h1 h2
      rw [h1, h2, ho (i + 3) (by omega) (by omega)]
  · rw [List.getElem?_eq_none (by rw [List.length_set, am_ws_len]; omega), List.getElem?_eq_none (by rw [am_ws_len]; omega)]
theorem am_ws_push {G : am_G} {V V' : am_V} {R R' : am_T} {T : Nat} (h : 3 ≤ T) {x : va_E} (hx : am_e G V' R' T = x) (ho : ∀ b, b < T → am_e G V' R' b = am_e G V R b) : am_ws G V R T ++ [(am_ad G T, x)] = am_ws G V' R' (T + 1) := by
  apply List.ext_getElem?
  intro i
  rcases Nat.lt_trichotomy i (T - 3) with hi | hi | hi
  · rw [List.getElem?_append_left (by rw [am_ws_len]; exact hi)]
    have h1 := am_ws_at (G := G) (V := V) (R := R) (T := T) (a := i + 3) (by omega) (by omega)
    have h2 := am_ws_at (G := G) (V := V') (R := R') (T := T + 1) (a := i + 3) (by omega) (by omega)
    rw [show i + 3 - 3 = i by omega] at h1 h2
    rw [h1, h2, ho (i + 3) (by omega)]
  · have h2 := am_ws_at (G := G) (V := V') (R := R') (T := T + 1) (a := T) (by omega) (by omega)
    rw [List.getElem?_append_right (by rw [am_ws_len]; omega), am_ws_len, hi, h2, hx]
    simp
  · rw [List.getElem?_eq_none (by rw [List.length_append, am_ws_len]; simp; omega), List.getElem?_eq_none (by rw [am_ws_len]; omega)]
theorem am_D {G : am_G} {V : am_V} {R : am_T} {T : Nat} : va_D (fun q => am_G.b G ≤ q) (am_ws G V R T) := by
  refine ⟨fun i j x y hi hj hxy => ?_, fun k q hk => ?_⟩
  · obtain ⟨-, rfl⟩ := am_ws_of hi
    obtain ⟨-, rfl⟩ := am_ws_of hj
    have : am_G.b G + i = am_G.b G + j := hxy
    omega
  · obtain ⟨-, rfl⟩ := am_ws_of hk
    exact Nat.le_add_right _ _
/-- tables and their rows lie as they must -/
theorem am_grid : (List.range 107).all (fun a => (List.range 64).all (fun i => match am_lay a with
    | (3, n, w, _) => !decide (i < n) || (decide (am_lay (a + 1 + i) = (6, w, a, i)) && decide (w ≤ 64))
    | (4, n, w, _) => !decide (i < n) || (decide (am_lay (a + 1 + i) = (7, w, a, i)) && decide (w ≤ 64))
    | (k, n, o, j) => !(decide (k = 6) || decide (k = 7)) || (decide (a = o + 1 + j) && (decide ((am_lay o).1 = k - 3) && (decide ((am_lay o).2.2.1 = n) && decide (j < (am_lay o).2.1)))))) = true := by decide +kernel
theorem am_lay_hi {a : Nat} (h : 107 ≤ a) : am_lay a = (13, 5, 0, 0) ∨ am_lay a = (0, 10, 0, 0) := by
  unfold am_lay
  rw [Nat.ble_eq_true_of_le h]
  cases hb : Nat.beq ((a - 107) % 2) 0
  · exact Or.inr rfl
  · exact Or.inl rfl
theorem am_grid3 {a n w x : Nat} (h : am_lay a = (3, n, w, x)) {i : Nat} (hi : i < n) (h64 : n ≤ 64) : am_lay (a + 1 + i) = (6, w, a, i) ∧ w ≤ 64 := by
  have ha : a < 107 := by
    rcases Nat.lt_or_ge a 107 with q | q
    · exact q
    · rcases am_lay_hi q with r | r <;> rw [h] at r <;> cases r
  have h1 := List.all_eq_true.mp (List.all_eq_true.mp am_grid a (List.mem_range.mpr ha)) i (List.mem_range.mpr (by omega))
  rw [h] at h1
  simpa [hi] using h1
theorem am_grid4 {a n w x : Nat} (h : am_lay a = (4, n, w, x)) {i : Nat} (hi : i < n) (h64 : n ≤ 64) : am_lay (a + 1 + i) = (7, w, a, i) ∧ w ≤ 64 := by
  have ha : a < 107 := by
    rcases Nat.lt_or_ge a 107 with q | q
    · exact q
    · rcases am_lay_hi q with r | r <;> rw [h] at r <;> cases r
  have h1 := List.all_eq_true.mp (List.all_eq_true.mp am_grid a (List.mem_range.mpr ha)) i (List.mem_range.mpr (by omega))
  rw [h] at h1
  simpa [hi] using h1
theorem am_small : (List.range 107).all (fun a => decide ((am_lay a).2.1 < 3000) && (decide ((am_lay a).1 < 16) && (!decide ((am_lay a).1 = 3 ∨ (am_lay a).1 = 4) || decide ((am_lay a).2.1 ≤ 64)))) = true := by decide +kernel
theorem am_lay_len (a : Nat) : (am_lay a).2.1 < 3000 ∧ (am_lay a).1 < 16 ∧ ((am_lay a).1 = 3 ∨ (am_lay a).1 = 4 → (am_lay a).2.1 ≤ 64) := by
  rcases Nat.lt_or_ge a 107 with q | q
  · have h := List.all_eq_true.mp am_small a (List.mem_range.mpr q)
    simp only [Bool.and_eq_true, Bool.or_eq_true, Bool.not_eq_true', decide_eq_true_eq, decide_eq_false_iff_not] at h
    exact ⟨h.1, h.2.1, fun z => h.2.2.resolve_left (fun y => y z)⟩
  · rcases am_lay_hi q with r | r <;> rw [r] <;> exact ⟨by decide, by decide, by decide⟩
