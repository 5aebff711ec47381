/-! the law's start, against the machine's -/
def R_law : String := "FreePartsLaw"
def lw_P (b : Addr) (xs : List Int32) (args : Array Value) (s : State) : Prop := args = #[.ref b] ∧ s.IntsAt b xs ∧ xs.length ≤ 3073 ∧ (Jvm.Cond.and given_1 narrow_1).before args s = true
def lw_Q (_ : Array Value) (s : State) (o : Outcome) (t : State) : Prop := o = .returned (some (.int 1)) ∧ Framed s o t [] 600000 7302250
def w_V (xs : List Int32) : am_V := fun a j => if a = 0 then (if j = -1 then (xs.length : Int) else (xs.getD j.toNat 0).toInt) else if a = 1 then k_cat j else if a = 2 then k_wt j else 0
theorem w_32 (x : Int32) : am_in32 x.toInt := ⟨Int32.le_toInt x, by have := Int32.toInt_lt x; omega⟩
theorem w_arr {args : Array Value} {s : State} {ty : FieldType} (h : (Cond.arrayClass ty).before args s = true) (hty : ∀ C, ty ≠ .object C) : ∃ cA, ArrOfT s cA ty ∧ va_RA s cA ty := by
  obtain ⟨c, k, comp, h1, h2, h3⟩ := Cond.arrayClass_spec h
  refine ⟨c, fun n z => ⟨fun k h => (by cases h), k, h2, comp, h3⟩, ?_⟩
  cases ty with
  | object C => exact absurd rfl (hty C)
  | _ => exact h1
theorem w_ones : ∀ j : Fin 11, (Cond.eq (.elem (.static "FreeParts" "FREE_ONES" "[I") (.int (Int32.ofNat j))) (.int (Int32.ofInt (k_cat ((j : Nat) : Int))))) ∈ flatC (Jvm.Cond.and given_1 narrow_1) := by decide +kernel
theorem w_wts : ∀ j : Fin 11, (Cond.eq (.elem (.static "FreeParts" "WEIGHTS" "[I") (.int (Int32.ofNat j))) (.int (Int32.ofInt (k_wt ((j : Nat) : Int))))) ∈ flatC (Jvm.Cond.and given_1 narrow_1) := by decide +kernel
set_option maxHeartbeats 4000000 in
theorem w_K {l : Launch} {s : State} {b : Addr} {xs : List Int32} (hx : s.IntsAt b xs) (hbd : xs.length ≤ 3073) (hgv : (Jvm.Cond.and given_1 narrow_1).before #[Value.ref b] s = true) (hts : ∀ w ∈ lw_tbl, w.before #[Value.ref b] s = true) : ∃ G : am_G, am_G.l G = l ∧ am_G.b G = s.heap.size ∧ am_G.ex G 0 = b ∧ am_K G (w_V xs) s := by
  have hs := flat_of_before _ hgv
  have hA : ∀ a : Nat, a < s.heap.size → ¬ (fun q : Nat => s.heap.size ≤ q) a := fun a h => Nat.not_le.mpr h
  have inW : ∀ c, c < 6 → ∀ w ∈ u_ws (am_RR c) (am_TT c) (am_NN c), w ∈ lw_tbl := fun c hc w hw => (List.mem_filter.mp (am_inc c hc w hw)).1
  obtain ⟨c0, i0, k0⟩ := u_known (C := RX0) (T := TX0) (N := 3) (n := 3) hts (inW 0 (by decide)) (hts (.instantiable RX0 3) (by decide +kernel))
  obtain ⟨c1, i1, k1⟩ := u_known (C := RX1) (T := TX1) (N := 2) (n := 2) hts (inW 1 (by decide)) (hts (.instantiable RX1 2) (by decide +kernel))
  obtain ⟨c2, i2, k2⟩ := u_known (C := RX2) (T := TX2) (N := 2) (n := 2) hts (inW 2 (by decide)) (hts (.instantiable RX2 2) (by decide +kernel))
  obtain ⟨c3, i3, k3⟩ := u_known (C := RX3) (T := TX3) (N := 5) (n := 5) hts (inW 3 (by decide)) (hts (.instantiable RX3 5) (by decide +kernel))
  obtain ⟨c4, i4, k4⟩ := u_known (C := RX4) (T := TX4) (N := 18) (n := 18) hts (inW 4 (by decide)) (hts (.instantiable RX4 18) (by decide +kernel))
  obtain ⟨c5, i5, k5⟩ := u_known (C := RX5) (T := TX5) (N := 24) (n := 24) hts (inW 5 (by decide)) (hts (.instantiable RX5 24) (by decide +kernel))
  obtain ⟨a0, r00, r01⟩ := w_arr (hts (.arrayClass .int) (by decide +kernel)) (fun C h => by cases h)
  obtain ⟨a1, r10, r11⟩ := w_arr (hts (.arrayClass .long) (by decide +kernel)) (fun C h => by cases h)
  obtain ⟨a2, r20, r21⟩ := w_arr (hts (.arrayClass .boolean) (by decide +kernel)) (fun C h => by cases h)
  have o3 := hts (.arrayOver (.array .long)) (by decide +kernel)
  have o4 := hts (.arrayOver (.array .int)) (by decide +kernel)
  have o5 := hts (.arrayOver (.object RX3)) (by decide +kernel)
  obtain ⟨p3, a3, q3, -, -, f3, g3, n3⟩ := Jvm.Stand.arrayOver_specB o3
  obtain ⟨p4, a4, q4, -, -, f4, g4, n4⟩ := Jvm.Stand.arrayOver_specB o4
  obtain ⟨p5, a5, q5, m5, -, f5, g5, n5⟩ := Cond.arrayOver_spec o5
  have r30 : ArrOfT s a3 (.array .long) := fun n z => ⟨fun k h => (by cases h), q3, f3, p3, g3⟩
  have r40 : ArrOfT s a4 (.array .int) := fun n z => ⟨fun k h => (by cases h), q4, f4, p4, g4⟩
  have r50 : ArrOfT s a5 (.object RX3) := fun n z => ⟨fun k h => (by cases h), q5, f5, p5, g5⟩
  have v1 : ∀ j : Nat, Int32.ofInt (w_V xs 1 (j : Int)) = Int32.ofInt (k_cat (j : Int)) := fun j => rfl
  have v2 : ∀ j : Nat, Int32.ofInt (w_V xs 2 (j : Int)) = Int32.ofInt (k_wt (j : Int)) := fun j => rfl
  obtain ⟨t1, e1, T1⟩ := va_Tof (args := #[Value.ref b]) (s := s) (tm := .static "FreeParts" "FREE_ONES" "[I") (ty := .int) (N := 11) (f := fun j => .int (Int32.ofInt (w_V xs 1 j))) (A := fun q : Nat => s.heap.size ≤ q) (by decide) (hs _ (by decide +kernel)) (va_eqt (z := 11) (hs _ (by decide +kernel))) (fun j hj => va_eqt (hs _ (w_ones ⟨j, hj⟩))) hA
  obtain ⟨t2, e2, T2⟩ := va_Tof (args := #[Value.ref b]) (s := s) (tm := .static "FreeParts" "WEIGHTS" "[I") (ty := .int) (N := 11) (f := fun j => .int (Int32.ofInt (w_V xs 2 j))) (A := fun q : Nat => s.heap.size ≤ q) (by decide) (hs _ (by decide +kernel)) (va_eqt (z := 11) (hs _ (by decide +kernel))) (fun j hj => va_eqt (hs _ (w_wts ⟨j, hj⟩))) hA
  have Z1 := va_Zof (A := fun q : Nat => s.heap.size ≤ q) (hts (.laysStatic "FreeParts" "FREE_ONES" "[I") (by decide +kernel)) (hts (.initialized "FreeParts") (by decide +kernel)) e1 hA
  have Z2 := va_Zof (A := fun q : Nat => s.heap.size ≤ q) (hts (.laysStatic "FreeParts" "WEIGHTS" "[I") (by decide +kernel)) (hts (.initialized "FreeParts") (by decide +kernel)) e2 hA
  obtain ⟨scr, harrAt, hlist, hof, hsmall⟩ := hx
  obtain ⟨hcb, hkn, -, -⟩ := State.arrayAt?_spec harrAt
  have hsz : scr.slots.size = xs.length := by rw [← Array.length_toList, hlist, List.length_map]
  have hval : ∀ j : Nat, j < xs.length → scr.slots[j]? = some (.int (xs.getD j 0)) := fun j hj => by
    rw [← Array.getElem?_toList, hlist]
    simp [hj]
  have hbl : b < s.heap.size := (Array.getElem?_eq_some_iff.mp hcb).1
  have T0 : va_T .int b xs.length (fun j => .int (Int32.ofInt (w_V xs 0 (j : Int)))) (fun q : Nat => s.heap.size ≤ q) s s.heap := by
    refine ⟨scr, hcb, hof, hkn, by omega, by rw [hsz], fun j hj => ?_, hA b hbl⟩
    rw [hval j hj]
    have : w_V xs 0 (j : Int) = (xs.getD j 0).toInt := by
      unfold w_V
      rw [if_pos rfl, if_neg (by omega), show (j : Int).toNat = j by omega]
    show some (Value.int (xs.getD j 0)) = some (Value.int (Int32.ofInt (w_V xs 0 (j : Int))))
    rw [this, Int32.ofInt_toInt]
  have eL : w_V xs 0 (-1) = (xs.length : Int) := rfl
  refine ⟨(l, (fun k => if k = 0 then c0 else if k = 1 then c1 else if k = 2 then c2 else if k = 3 then c3 else if k = 4 then c4 else c5, fun k => if k = 0 then i0 else if k = 1 then i1 else if k = 2 then i2 else if k = 3 then i3 else if k = 4 then i4 else i5), s.heap.size, fun k => if k = 0 then b else if k = 1 then t1 else t2, fun k => if k = 0 then a0 else if k = 1 then a1 else if k = 2 then a2 else if k = 3 then a3 else if k = 4 then a4 else a5), rfl, rfl, rfl, ⟨fun c q hq => ?_, fun k q hq => ?_⟩, o5, o3, o4, Z1, Z2, ?_, ?_, T1, T2⟩
  · match c, hq with
    | 0, hq => cases hq; exact k0
    | 1, hq => cases hq; exact k1
    | 2, hq => cases hq; exact k2
    | 3, hq => cases hq; exact k3
    | 4, hq => cases hq; exact k4
    | 5, hq => cases hq; exact k5
    | c + 6, hq => simp [am_cls] at hq
  · match k, hq with
    | 0, hq => cases hq; exact ⟨r00, r01⟩
    | 1, hq => cases hq; exact ⟨r10, r11⟩
    | 2, hq => cases hq; exact ⟨r20, r21⟩
    | 3, hq => cases hq; exact ⟨r30, n3⟩
    | 4, hq => cases hq; exact ⟨r40, n4⟩
    | 5, hq => cases hq; exact ⟨r50, q5, p5, f5, g5, m5, n5⟩
    | k + 6, hq => simp [am_tys] at hq
  · rw [eL]; omega
  · rw [eL, show ((xs.length : Nat) : Int).toNat = xs.length by omega]
    exact T0
