/-! THE ABSTRACT MACHINE: values are integers and cell numbers; memory is one function for numbers, one for references; am_wp is what must hold at a place of the code so that it comes to its end. -/
abbrev am_Ref : Type := Option (Nat ⊕ (Nat × Int))
abbrev AV : Type := Int ⊕ (Int ⊕ am_Ref)
abbrev CI : Type := Bool × Nat × Instr × Nat × Int × List Nat
abbrev AMem : Type := (Nat → Int → Int) × (Nat → Int → Option Nat) × Nat
abbrev am_L : Type := List (Option AV)
abbrev vI (z : Int) : AV := .inl z
abbrev vJ (z : Int) : AV := .inr (.inl z)
abbrev vR (a : Nat) : AV := .inr (.inr (some (.inl a)))
abbrev vW (a : Nat) (i : Int) : AV := .inr (.inr (some (.inr (a, i))))
abbrev vN : AV := .inr (.inr none)
abbrev am_in32 (z : Int) : Prop := -2147483648 ≤ z ∧ z ≤ 2147483647
abbrev am_in64 (z : Int) : Prop := -9223372036854775808 ≤ z ∧ z ≤ 9223372036854775807
/-- one number, one reference is changed -/
def am_up (V : Nat → Int → Int) (a : Nat) (k x : Int) : Nat → Int → Int := fun b j => if b = a then (if j = k then x else V b j) else V b j
def am_upR (R : Nat → Int → Option Nat) (a : Nat) (k : Int) (x : Option Nat) : Nat → Int → Option Nat := fun b j => if b = a then (if j = k then x else R b j) else R b j
def am_zero (V : Nat → Int → Int) (a : Nat) : Nat → Int → Int := fun b j => if b = a then 0 else V b j
def am_zeroR (R : Nat → Int → Option Nat) (a : Nat) : Nat → Int → Option Nat := fun b j => if b = a then none else R b j
def am_zeroRn (R : Nat → Int → Option Nat) (a n : Nat) : Nat → Int → Option Nat := fun b j => if a ≤ b ∧ b < a + n then none else R b j
def am_cpy (V : Nat → Int → Int) (a : Nat) (sp : Int) (b : Nat) (dp n : Int) : Nat → Int → Int := fun x j => if x = b then (if dp ≤ j ∧ j < dp + n then V a (sp + (j - dp)) else V x j) else V x j
def am_at : List CI → Nat → List CI
  | [], _ => []
  | q :: l, t => match Nat.beq q.2.1 t with
    | true => q :: l
    | false => am_at l t
def am_go : List CI → List CI
  | [] => []
  | q :: l => (false, q.2) :: l
def am_cats : List AV → Nat
  | [] => 0
  | .inr (.inl _) :: l => 2 + am_cats l
  | _ :: l => 1 + am_cats l
def am_get : am_L → Nat → Option AV
  | [], _ => none
  | v :: _, 0 => v
  | _ :: l, n + 1 => am_get l n
def am_set : am_L → Nat → Option AV → am_L
  | [], _, _ => []
  | _ :: l, 0, x => x :: l
  | v :: l, n + 1, x => v :: am_set l n x
/-- a store: one slot; the second half of a long that stood here dies with it -/
def am_cut : am_L → Nat → am_L
  | l, 0 => l
  | l, n + 1 => match am_get l n with
    | some (.inr (.inl _)) => am_set l n none
    | _ => l
def am_st1 (l : am_L) (i : Nat) (v : AV) : am_L := am_set (am_cut l i) i (some v)
def am_st2 (l : am_L) (i : Nat) (v : AV) : am_L := am_set (am_set (am_cut l i) i (some v)) (i + 1) none
def am_br (c : ClassFile.Cond) (a b : Int) (X Y : Prop) : Prop := match c with
  | .eq => (a = b → X) ∧ (¬ a = b → Y)
  | .ne => (¬ a = b → X) ∧ (a = b → Y)
  | .lt => (a < b → X) ∧ (b ≤ a → Y)
  | .ge => (b ≤ a → X) ∧ (a < b → Y)
  | .gt => (b < a → X) ∧ (a ≤ b → Y)
  | .le => (a ≤ b → X) ∧ (b < a → Y)
def am_ldi (l : am_L) (i : Nat) (k : AV → Prop) : Prop := match am_get l i with
  | some (.inl z) => k (.inl z)
  | _ => False
def am_ldl (l : am_L) (i : Nat) (k : AV → Prop) : Prop := match am_get l i with
  | some (.inr (.inl z)) => k (.inr (.inl z))
  | _ => False
def am_ldr (l : am_L) (i : Nat) (k : AV → Prop) : Prop := match am_get l i with
  | some (.inr (.inr r)) => k (.inr (.inr r))
  | _ => False
def am_pi (st : List AV) (k : Int → List AV → Prop) : Prop := match st with
  | .inl b :: r => k b r
  | _ => False
def am_pl (st : List AV) (k : Int → List AV → Prop) : Prop := match st with
  | .inr (.inl b) :: r => k b r
  | _ => False
def am_pr (st : List AV) (k : am_Ref → List AV → Prop) : Prop := match st with
  | .inr (.inr b) :: r => k b r
  | _ => False
def am_if (b : Bool) (P : Prop) : Prop := match b with
  | true => P
  | false => False
def am_push (r : Option AV) (st : List AV) : List AV := match r with
  | some v => v :: st
  | none => st
def am_nth : List Nat → Nat → Nat
  | [], _ => 0
  | a :: _, 0 => a
  | _ :: l, n + 1 => am_nth l n
def am_nthZ : List Nat → Int → Nat → Nat
  | [], _, d => d
  | a :: l, z, d => match decide (z = 0) with
    | true => a
    | false => am_nthZ l (z - 1) d
abbrev am_V : Type := Nat → Int → Int
abbrev am_T : Type := Nat → Int → Option Nat
/-- what stands at a cell: its kind (0 ints, 1 longs, 2 booleans, 3 a table of longs, 4 of ints, 5 Things, 6 and 7 a row of a table, 10 + c an object of class c), how many places; a table: how wide; a row: of which table, which one -/
def am_layT : List (Nat × Nat × Nat × Nat) := [(0, 0, 0, 0), (0, 11, 0, 0), (0, 11, 0, 0), (14, 18, 0, 0), (3, 8, 40, 0), (6, 40, 4, 0), (6, 40, 4, 1), (6, 40, 4, 2), (6, 40, 4, 3), (6, 40, 4, 4), (6, 40, 4, 5), (6, 40, 4, 6), (6, 40, 4, 7), (0, 8, 0, 0), (0, 8, 0, 0), (5, 10, 0, 0), (11, 2, 0, 0), (4, 11, 11, 0), (7, 11, 17, 0), (7, 11, 17, 1), (7, 11, 17, 2), (7, 11, 17, 3), (7, 11, 17, 4), (7, 11, 17, 5), (7, 11, 17, 6), (7, 11, 17, 7), (7, 11, 17, 8), (7, 11, 17, 9), (7, 11, 17, 10), (0, 10, 0, 0), (0, 10, 0, 0), (0, 16, 0, 0), (3, 8, 9, 0), (6, 9, 32, 0), (6, 9, 32, 1), (6, 9, 32, 2), (6, 9, 32, 3), (6, 9, 32, 4), (6, 9, 32, 5), (6, 9, 32, 6), (6, 9, 32, 7), (0, 8, 0, 0), (1, 9, 0, 0), (1, 9, 0, 0), (3, 5, 5, 0), (6, 5, 44, 0), (6, 5, 44, 1), (6, 5, 44, 2), (6, 5, 44, 3), (6, 5, 44, 4), (3, 11, 6, 0), (6, 6, 50, 0), (6, 6, 50, 1), (6, 6, 50, 2), (6, 6, 50, 3), (6, 6, 50, 4), (6, 6, 50, 5), (6, 6, 50, 6), (6, 6, 50, 7), (6, 6, 50, 8), (6, 6, 50, 9), (6, 6, 50, 10), (1, 14, 0, 0), (10, 3, 0, 0), (12, 2, 0, 0), (3, 9, 9, 0), (6, 9, 65, 0), (6, 9, 65, 1), (6, 9, 65, 2), (6, 9, 65, 3), (6, 9, 65, 4), (6, 9, 65, 5), (6, 9, 65, 6), (6, 9, 65, 7), (6, 9, 65, 8), (12, 2, 0, 0), (3, 9, 9, 0), (6, 9, 76, 0), (6, 9, 76, 1), (6, 9, 76, 2), (6, 9, 76, 3), (6, 9, 76, 4), (6, 9, 76, 5), (6, 9, 76, 6), (6, 9, 76, 7), (6, 9, 76, 8), (15, 24, 0, 0), (0, 8, 0, 0), (0, 8, 0, 0), (1, 320, 0, 0), (0, 10, 0, 0), (0, 10, 0, 0), (0, 100, 0, 0), (0, 30, 0, 0), (0, 10, 0, 0), (0, 16, 0, 0), (0, 11, 0, 0), (2, 20, 0, 0), (0, 8, 0, 0), (1, 72, 0, 0), (1, 27, 0, 0), (1, 9, 0, 0), (1, 9, 0, 0), (1, 25, 0, 0), (1, 66, 0, 0), (1, 14, 0, 0), (1, 14, 0, 0)]
def am_layG : List (Nat × Nat × Nat × Nat) → Nat → Nat × Nat × Nat × Nat
  | [], _ => (9, 0, 0, 0)
  | q :: _, 0 => q
  | _ :: l, n + 1 => am_layG l n
def am_lay (a : Nat) : Nat × Nat × Nat × Nat := match Nat.ble 107 a with
  | true => (match Nat.beq ((a - 107) % 2) 0 with
    | true => (13, 5, 0, 0)
    | false => (0, 10, 0, 0))
  | false => am_layG am_layT a
def am_rsT : List (Nat × Nat × Nat) := [(3, 1, 4), (3, 2, 13), (3, 3, 14), (3, 4, 15), (3, 5, 16), (16, 0, 17), (16, 1, 29), (3, 6, 30), (3, 7, 31), (3, 9, 32), (3, 10, 41), (3, 12, 42), (3, 13, 43), (3, 14, 44), (3, 15, 50), (3, 16, 62), (3, 11, 63), (63, 1, 64), (64, 1, 65), (63, 2, 75), (75, 1, 76), (86, 3, 87), (86, 4, 88), (86, 5, 89), (86, 6, 90), (86, 7, 91), (86, 8, 92), (86, 9, 93), (86, 10, 94), (86, 11, 95), (86, 13, 96), (86, 14, 97), (86, 15, 98), (86, 16, 99), (86, 17, 100), (86, 18, 101), (86, 19, 102), (86, 20, 103), (86, 21, 104), (86, 22, 105), (86, 23, 106)]
def am_rsG : List (Nat × Nat × Nat) → Nat → Nat → Option Nat
  | [], _, _ => none
  | (x, y, b) :: l, a, k => match Nat.beq x a && Nat.beq y k with
    | true => some b
    | false => am_rsG l a k
/-- the references as the constructors leave them; sh: THE SHELF -/
def am_RF (sh : Int → Option Nat) : am_T := fun a k => match Nat.beq a 15 with
  | true => sh k
  | false => (match Nat.ble 107 a with
    | true => (match Nat.beq ((a - 107) % 2) 0 with
      | true => (match k with
        | 2 => some (a + 1)
        | _ => none)
      | false => none)
    | false => am_rsG am_rsT a k.toNat)
/-- a place in an array of ints (longs, booleans): the number, where it lies -/
def am_ix (ka kg : Nat) (V : am_V) (r : am_Ref) (i : Int) (k : Nat → Int → Prop) : Prop := match r with
  | some (.inl a) => (match am_lay a with
    | (kd, n, _, _) => am_if (Nat.beq kd ka) (match Nat.beq a 0 with
      | true => (0 ≤ i ∧ i < V 0 (-1)) ∧ k a i
      | false => (0 ≤ i ∧ i < (n : Int)) ∧ k a i))
  | some (.inr (a, q)) => (match am_lay a with
    | (kd, _, w, _) => am_if (Nat.beq kd kg) ((0 ≤ i ∧ i < (w : Int)) ∧ k a (64 * q + i)))
  | none => False
def am_sw : List Nat → Int → Int → (Nat → Prop) → Nat → Prop
  | [], _, _, k, d => k d
  | t :: l, z, lo, k, d => (z = lo → k t) ∧ (¬ z = lo → am_sw l z (lo + 1) k d)
def am_room (b c : Nat) (cc cs Bc Bs : Nat) (P : Prop) : Prop := match Nat.beq (b + c) 0 with
  | true => P
  | false => (cc + b ≤ Bc ∧ cs + c ≤ Bs) ∧ P
/-- a stretch of an array of longs: up to m -/
def am_seg (r : am_Ref) (m : Int) (k : Nat → Int → Prop) : Prop := match r with
  | some (.inl a) => (match am_lay a with
    | (kd, n, _, _) => am_if (Nat.beq kd 1) (m ≤ (n : Int) ∧ k a 0))
  | some (.inr (a, q)) => (match am_lay a with
    | (kd, _, w, _) => am_if (Nat.beq kd 3) (m ≤ (w : Int) ∧ k a (64 * q)))
  | none => False
/-- the kind that a field of a class holds -/
def am_fits (c k kd : Nat) : Bool := match c with
  | 0 => Nat.beq kd 12
  | 1 => (match k with
    | 0 => Nat.beq kd 4
    | _ => Nat.beq kd 0)
  | 2 => Nat.beq kd 3
  | 3 => Nat.beq kd 0
  | 4 => (match k with
    | 1 => Nat.beq kd 3
    | 4 => Nat.beq kd 5
    | 5 => Nat.beq kd 11
    | 9 => Nat.beq kd 3
    | 11 => Nat.beq kd 10
    | 12 => Nat.beq kd 1
    | 13 => Nat.beq kd 1
    | 14 => Nat.beq kd 3
    | 15 => Nat.beq kd 3
    | 16 => Nat.beq kd 1
    | _ => Nat.beq kd 0)
  | _ => (match k with
    | 5 => Nat.beq kd 1
    | 14 => Nat.beq kd 2
    | 16 => Nat.beq kd 1
    | 17 => Nat.beq kd 1
    | 18 => Nat.beq kd 1
    | 19 => Nat.beq kd 1
    | 20 => Nat.beq kd 1
    | 21 => Nat.beq kd 1
    | 22 => Nat.beq kd 1
    | 23 => Nat.beq kd 1
    | _ => Nat.beq kd 0)
def am_isr (c : Nat) (st : List AV) : Bool := match st with
  | .inr (.inr (some (.inl a))) :: _ => Nat.beq (am_lay a).1 (10 + c)
  | _ => false
/-- what must hold so that the code comes to an end with Qr, or to a loop's head with Qc; K: what calls do -/
def am_wp (C : List CI) (rb : Bool) (Bc Bs : Nat) (K : Nat → List AV → am_V → am_T → Nat → (Option AV → am_V → am_T → Nat → Prop) → Prop) (Qc : Nat → am_L → List AV → am_V → am_T → Nat → Nat → Nat → Prop) (Qr : Option AV → am_V → am_T → Nat → Prop) : Nat → List CI → am_L → List AV → am_V → am_T → Nat → Nat → Nat → Prop
  | 0, _, _, _, _, _, _, _, _ => False
  | _ + 1, [], _, _, _, _, _, _, _ => False
  | _ + 1, (true, pc, _) :: _, ls, st, V, R, T, cc, cs => Qc pc ls st V R T cc cs
  | n0 + 1, (false, _, ins, _, z, aux) :: cd, ls, st, V, R, T, cc, cs => match ins with
    | .iload_n i => am_ldi ls i.val (fun v => am_wp C rb Bc Bs K Qc Qr n0 cd ls (v :: st) V R T cc cs)
    | .iload i => am_ldi ls i (fun v => am_wp C rb Bc Bs K Qc Qr n0 cd ls (v :: st) V R T cc cs)
    | .lload_n i => am_ldl ls i.val (fun v => am_wp C rb Bc Bs K Qc Qr n0 cd ls (v :: st) V R T cc cs)
    | .lload i => am_ldl ls i (fun v => am_wp C rb Bc Bs K Qc Qr n0 cd ls (v :: st) V R T cc cs)
    | .aload_n i => am_ldr ls i.val (fun v => am_wp C rb Bc Bs K Qc Qr n0 cd ls (v :: st) V R T cc cs)
    | .aload i => am_ldr ls i (fun v => am_wp C rb Bc Bs K Qc Qr n0 cd ls (v :: st) V R T cc cs)
    | .istore_n i => am_pi st (fun b r => am_wp C rb Bc Bs K Qc Qr n0 cd (am_st1 ls i.val (.inl b)) r V R T cc cs)
    | .istore i => am_pi st (fun b r => am_wp C rb Bc Bs K Qc Qr n0 cd (am_st1 ls i (.inl b)) r V R T cc cs)
    | .lstore_n i => am_pl st (fun b r => am_wp C rb Bc Bs K Qc Qr n0 cd (am_st2 ls i.val (.inr (.inl b))) r V R T cc cs)
    | .lstore i => am_pl st (fun b r => am_wp C rb Bc Bs K Qc Qr n0 cd (am_st2 ls i (.inr (.inl b))) r V R T cc cs)
    | .astore_n i => am_pr st (fun b r => am_wp C rb Bc Bs K Qc Qr n0 cd (am_st1 ls i.val (.inr (.inr b))) r V R T cc cs)
    | .astore i => am_pr st (fun b r => am_wp C rb Bc Bs K Qc Qr n0 cd (am_st1 ls i (.inr (.inr b))) r V R T cc cs)
    | .iinc i x => am_ldi ls i (fun v => am_pi [v] (fun b _ => am_wp C rb Bc Bs K Qc Qr n0 cd (am_st1 ls i (.inl (b + x))) st V R T cc cs))
    | .iconst x => am_wp C rb Bc Bs K Qc Qr n0 cd ls (.inl x :: st) V R T cc cs
    | .bipush x => am_wp C rb Bc Bs K Qc Qr n0 cd ls (.inl x :: st) V R T cc cs
    | .sipush x => am_wp C rb Bc Bs K Qc Qr n0 cd ls (.inl x :: st) V R T cc cs
    | .lconst _ => am_wp C rb Bc Bs K Qc Qr n0 cd ls (.inr (.inl z) :: st) V R T cc cs
    | .ldc _ => am_wp C rb Bc Bs K Qc Qr n0 cd ls (.inl z :: st) V R T cc cs
    | .ldc_w _ => am_wp C rb Bc Bs K Qc Qr n0 cd ls (.inl z :: st) V R T cc cs
    | .ldc2_w _ => am_wp C rb Bc Bs K Qc Qr n0 cd ls (.inr (.inl z) :: st) V R T cc cs
    | .aconst_null => am_wp C rb Bc Bs K Qc Qr n0 cd ls (.inr (.inr none) :: st) V R T cc cs
    | .iadd => am_pi st (fun b r => am_pi r (fun a r => am_wp C rb Bc Bs K Qc Qr n0 cd ls (.inl (a + b) :: r) V R T cc cs))
    | .isub => am_pi st (fun b r => am_pi r (fun a r => am_wp C rb Bc Bs K Qc Qr n0 cd ls (.inl (a - b) :: r) V R T cc cs))
    | .imul => am_pi st (fun b r => am_pi r (fun a r => am_wp C rb Bc Bs K Qc Qr n0 cd ls (.inl (a * b) :: r) V R T cc cs))
    | .ineg => am_pi st (fun b r => am_wp C rb Bc Bs K Qc Qr n0 cd ls (.inl (-b) :: r) V R T cc cs)
    | .idiv => am_pi st (fun b r => am_pi r (fun a r => ((0 ≤ a ∧ a ≤ 2147483647) ∧ (0 < b ∧ b ≤ 2147483647)) ∧ am_wp C rb Bc Bs K Qc Qr n0 cd ls (.inl (a / b) :: r) V R T cc cs))
    | .irem => am_pi st (fun b r => am_pi r (fun a r => ((0 ≤ a ∧ a ≤ 2147483647) ∧ (0 < b ∧ b ≤ 2147483647)) ∧ am_wp C rb Bc Bs K Qc Qr n0 cd ls (.inl (a % b) :: r) V R T cc cs))
    | .iand => am_pi st (fun b r => am_pi r (fun a r => b = 31 ∧ am_wp C rb Bc Bs K Qc Qr n0 cd ls (.inl (a % 32) :: r) V R T cc cs))
    | .i2l => am_pi st (fun a r => am_in32 a ∧ am_wp C rb Bc Bs K Qc Qr n0 cd ls (.inr (.inl a) :: r) V R T cc cs)
    | .i2b => am_pi st (fun a r => am_wp C rb Bc Bs K Qc Qr n0 cd ls (.inl (Int.bmod a 256) :: r) V R T cc cs)
    | .l2i => am_pl st (fun a r => am_wp C rb Bc Bs K Qc Qr n0 cd ls (.inl (Int.bmod a 4294967296) :: r) V R T cc cs)
    | .ladd => am_pl st (fun b r => am_pl r (fun a r => am_wp C rb Bc Bs K Qc Qr n0 cd ls (.inr (.inl (a + b)) :: r) V R T cc cs))
    | .lsub => am_pl st (fun b r => am_pl r (fun a r => am_wp C rb Bc Bs K Qc Qr n0 cd ls (.inr (.inl (a - b)) :: r) V R T cc cs))
    | .lmul => am_pl st (fun b r => am_pl r (fun a r => am_wp C rb Bc Bs K Qc Qr n0 cd ls (.inr (.inl (a * b)) :: r) V R T cc cs))
    | .ldiv => am_pl st (fun b r => am_pl r (fun a r => ((0 ≤ a ∧ a ≤ 9223372036854775807) ∧ (0 < b ∧ b ≤ 9223372036854775807)) ∧ am_wp C rb Bc Bs K Qc Qr n0 cd ls (.inr (.inl (a / b)) :: r) V R T cc cs))
    | .lrem => am_pl st (fun b r => am_pl r (fun a r => (am_in64 a ∧ (0 < b ∧ b ≤ 9223372036854775807)) ∧ am_wp C rb Bc Bs K Qc Qr n0 cd ls (.inr (.inl (Int.tmod a b)) :: r) V R T cc cs))
    | .land => am_pl st (fun b r => am_pl r (fun a r => b = 4294967295 ∧ am_wp C rb Bc Bs K Qc Qr n0 cd ls (.inr (.inl (a % 4294967296)) :: r) V R T cc cs))
    | .lor => am_pl st (fun b r => am_pl r (fun a r => (a % 4294967296 = 0 ∧ (0 ≤ b ∧ b < 4294967296)) ∧ am_wp C rb Bc Bs K Qc Qr n0 cd ls (.inr (.inl (a + b)) :: r) V R T cc cs))
    | .lxor => am_pl st (fun b r => am_pl r (fun a r => (am_in64 a ∧ am_in64 b) ∧ (∀ x : Int, am_in64 x → (x < 0 ↔ ((a < 0 ∧ 0 ≤ b) ∨ (0 ≤ a ∧ b < 0))) → am_wp C rb Bc Bs K Qc Qr n0 cd ls (.inr (.inl x) :: r) V R T cc cs)))
    | .lshl => am_pi st (fun b r => am_pl r (fun a r => b = 32 ∧ am_wp C rb Bc Bs K Qc Qr n0 cd ls (.inr (.inl (a * 4294967296)) :: r) V R T cc cs))
    | .dup => (match st with
      | .inr (.inl _) :: _ => False
      | v :: r => am_wp C rb Bc Bs K Qc Qr n0 cd ls (v :: v :: r) V R T cc cs
      | [] => False)
    | .dup2 => (match st with
      | .inl b :: .inr (.inr a) :: r => am_wp C rb Bc Bs K Qc Qr n0 cd ls (.inl b :: .inr (.inr a) :: .inl b :: .inr (.inr a) :: r) V R T cc cs
      | _ => False)
    | .pop => (match st with
      | .inr (.inl _) :: _ => False
      | _ :: r => am_wp C rb Bc Bs K Qc Qr n0 cd ls r V R T cc cs
      | [] => False)
    | .goto _ => am_wp C rb Bc Bs K Qc Qr n0 (am_at C (am_nth aux 0)) ls st V R T cc cs
    | .if_icmp c _ => am_pi st (fun b r => am_pi r (fun a r => (am_in32 a ∧ am_in32 b) ∧ am_br c a b (am_wp C rb Bc Bs K Qc Qr n0 (am_at C (am_nth aux 0)) ls r V R T cc cs) (am_wp C rb Bc Bs K Qc Qr n0 cd ls r V R T cc cs)))
    | .ifCond c _ => am_pi st (fun a r => am_in32 a ∧ am_br c a 0 (am_wp C rb Bc Bs K Qc Qr n0 (am_at C (am_nth aux 0)) ls r V R T cc cs) (am_wp C rb Bc Bs K Qc Qr n0 cd ls r V R T cc cs))
    | .ifnull _ => am_pr st (fun b r => (b = none → am_wp C rb Bc Bs K Qc Qr n0 (am_at C (am_nth aux 0)) ls r V R T cc cs) ∧ (∀ x, b = some x → am_wp C rb Bc Bs K Qc Qr n0 cd ls r V R T cc cs))
    | .ifnonnull _ => am_pr st (fun b r => (∀ x, b = some x → am_wp C rb Bc Bs K Qc Qr n0 (am_at C (am_nth aux 0)) ls r V R T cc cs) ∧ (b = none → am_wp C rb Bc Bs K Qc Qr n0 cd ls r V R T cc cs))
    | .lcmp => (match cd with
      | (_, _, .ifCond c _, _, _, aux2) :: cd2 => am_pl st (fun b r => am_pl r (fun a r => (am_in64 a ∧ am_in64 b) ∧ am_br c a b (am_wp C rb Bc Bs K Qc Qr n0 (am_at C (am_nth aux2 0)) ls r V R T cc cs) (am_wp C rb Bc Bs K Qc Qr n0 cd2 ls r V R T cc cs)))
      | _ => False)
    | .tableswitch _ _ _ _ => am_pi st (fun a r => am_in32 a ∧ am_sw (aux.drop 1) a z (fun t => am_wp C rb Bc Bs K Qc Qr n0 (am_at C t) ls r V R T cc cs) (am_nth aux 0))
    | .getfield _ => am_pr st (fun b r => (match b with
      | some (.inl o) => am_if (Nat.beq (am_lay o).1 (10 + am_nth aux 2)) (match am_nth aux 1 with
        | 0 => am_wp C rb Bc Bs K Qc Qr n0 cd ls (.inl (V o z) :: r) V R T cc cs
        | 1 => am_wp C rb Bc Bs K Qc Qr n0 cd ls (.inr (.inl (V o z)) :: r) V R T cc cs
        | 2 => am_wp C rb Bc Bs K Qc Qr n0 cd ls (.inl (V o z) :: r) V R T cc cs
        | _ => (match R o z with
          | some q => am_wp C rb Bc Bs K Qc Qr n0 cd ls (.inr (.inr (some (.inl q))) :: r) V R T cc cs
          | none => False))
      | _ => False))
    | .putfield _ => (match am_nth aux 1 with
      | 0 => am_pi st (fun x r => am_pr r (fun b r => (match b with
        | some (.inl o) => am_if (Nat.beq (am_lay o).1 (10 + am_nth aux 2)) (am_wp C rb Bc Bs K Qc Qr n0 cd ls r (am_up V o z x) R T cc cs)
        | _ => False)))
      | 1 => am_pl st (fun x r => am_pr r (fun b r => (match b with
        | some (.inl o) => am_if (Nat.beq (am_lay o).1 (10 + am_nth aux 2)) (am_wp C rb Bc Bs K Qc Qr n0 cd ls r (am_up V o z x) R T cc cs)
        | _ => False)))
      | 2 => am_pi st (fun x r => am_pr r (fun b r => (match b with
        | some (.inl o) => am_if (Nat.beq (am_lay o).1 (10 + am_nth aux 2)) ((x = 0 ∨ x = 1) ∧ am_wp C rb Bc Bs K Qc Qr n0 cd ls r (am_up V o z x) R T cc cs)
        | _ => False)))
      | _ => am_pr st (fun x r => am_pr r (fun b r => (match b, x with
        | some (.inl o), some (.inl q) => am_if (Nat.beq (am_lay o).1 (10 + am_nth aux 2)) (am_if (am_fits (am_nth aux 2) (am_nth aux 0) (am_lay q).1) (am_wp C rb Bc Bs K Qc Qr n0 cd ls r V (am_upR R o z (some q)) T cc cs))
        | _, _ => False))))
    | .getstatic _ => (match aux with
      | a :: _ => am_wp C rb Bc Bs K Qc Qr n0 cd ls (.inr (.inr (some (.inl a))) :: st) V R T cc cs
      | [] => False)
    | .iaload => am_pi st (fun i r => am_pr r (fun b r => am_ix 0 4 V b i (fun a j => am_wp C rb Bc Bs K Qc Qr n0 cd ls (.inl (V a j) :: r) V R T cc cs)))
    | .laload => am_pi st (fun i r => am_pr r (fun b r => am_ix 1 3 V b i (fun a j => am_wp C rb Bc Bs K Qc Qr n0 cd ls (.inr (.inl (V a j)) :: r) V R T cc cs)))
    | .baload => am_pi st (fun i r => am_pr r (fun b r => am_ix 2 99 V b i (fun a j => am_wp C rb Bc Bs K Qc Qr n0 cd ls (.inl (V a j) :: r) V R T cc cs)))
    | .iastore => am_pi st (fun x r => am_pi r (fun i r => am_pr r (fun b r => am_ix 0 4 V b i (fun a j => am_if (Nat.ble 3 a) (am_wp C rb Bc Bs K Qc Qr n0 cd ls r (am_up V a j x) R T cc cs)))))
    | .lastore => am_pl st (fun x r => am_pi r (fun i r => am_pr r (fun b r => am_ix 1 3 V b i (fun a j => am_wp C rb Bc Bs K Qc Qr n0 cd ls r (am_up V a j x) R T cc cs))))
    | .bastore => am_pi st (fun x r => am_pi r (fun i r => am_pr r (fun b r => am_ix 2 99 V b i (fun a j => (x = 0 ∨ x = 1) ∧ am_wp C rb Bc Bs K Qc Qr n0 cd ls r (am_up V a j x) R T cc cs))))
    | .aaload => am_pi st (fun i r => am_pr r (fun b r => (match b with
      | some (.inl a) => (match am_lay a with
        | (3, n, _, _) => (0 ≤ i ∧ i < (n : Int)) ∧ am_wp C rb Bc Bs K Qc Qr n0 cd ls (.inr (.inr (some (.inr (a, i)))) :: r) V R T cc cs
        | (4, n, _, _) => (0 ≤ i ∧ i < (n : Int)) ∧ am_wp C rb Bc Bs K Qc Qr n0 cd ls (.inr (.inr (some (.inr (a, i)))) :: r) V R T cc cs
        | (5, n, _, _) => (0 ≤ i ∧ i < (n : Int)) ∧ (R a i = none → am_wp C rb Bc Bs K Qc Qr n0 cd ls (.inr (.inr none) :: r) V R T cc cs) ∧ (∀ x, R a i = some x → am_wp C rb Bc Bs K Qc Qr n0 cd ls (.inr (.inr (some (.inl x))) :: r) V R T cc cs)
        | _ => False)
      | _ => False)))
    | .aastore => am_pr st (fun x r => am_pi r (fun i r => am_pr r (fun b r => (match b with
      | some (.inl a) => (match am_lay a with
      | (kd, n, _, _) => am_if (Nat.beq kd 5) ((0 ≤ i ∧ i < (n : Int)) ∧ (match x with
        | none => am_wp C rb Bc Bs K Qc Qr n0 cd ls r V (am_upR R a i none) T cc cs
        | some (.inl q) => am_if (Nat.beq (am_lay q).1 13) (am_wp C rb Bc Bs K Qc Qr n0 cd ls r V (am_upR R a i (some q)) T cc cs)
        | _ => False)))
      | _ => False))))
    | .arraylength => am_pr st (fun b r => (match b with
      | some (.inl a) => (match am_lay a with
        | (kd, n, _, _) => am_if (Nat.ble kd 5) (match Nat.beq a 0 with
          | true => am_wp C rb Bc Bs K Qc Qr n0 cd ls (.inl (V 0 (-1)) :: r) V R T cc cs
          | false => am_wp C rb Bc Bs K Qc Qr n0 cd ls (.inl (n : Int) :: r) V R T cc cs))
      | some (.inr (a, _)) => (match am_lay a with
        | (_, _, w, _) => am_wp C rb Bc Bs K Qc Qr n0 cd ls (.inl (w : Int) :: r) V R T cc cs)
      | none => False))
    | .new _ => (match am_lay T with
      | (kd, m, _, _) => am_if (Nat.beq kd (10 + am_nth aux 0)) ((cc + 1 ≤ Bc ∧ cs + m ≤ Bs) ∧ am_wp C rb Bc Bs K Qc Qr n0 cd ls (.inr (.inr (some (.inl T))) :: st) (am_zero V T) (am_zeroR R T) (T + 1) (cc + 1) (cs + m)))
    | .newarray _ => am_pi st (fun i r => (match am_lay T with
      | (kd, m, _, _) => am_if (Nat.beq kd (am_nth aux 0) && decide (i = (m : Int))) ((cc + 1 ≤ Bc ∧ cs + m ≤ Bs) ∧ am_wp C rb Bc Bs K Qc Qr n0 cd ls (.inr (.inr (some (.inl T))) :: r) (am_zero V T) (am_zeroR R T) (T + 1) (cc + 1) (cs + m))))
    | .anewarray _ => am_pi st (fun i r => (match am_lay T with
      | (kd, m, _, _) => am_if (Nat.beq kd 5 && decide (i = (m : Int))) ((cc + 1 ≤ Bc ∧ cs + m ≤ Bs) ∧ am_wp C rb Bc Bs K Qc Qr n0 cd ls (.inr (.inr (some (.inl T))) :: r) V (am_zeroR R T) (T + 1) (cc + 1) (cs + m))))
    | .multianewarray _ _ => am_pi st (fun w r => am_pi r (fun i r => (match am_lay T with
      | (kd, m, y, _) => am_if (Nat.beq kd (4 - am_nth aux 0) && (decide (i = (m : Int)) && decide (w = (y : Int)))) ((cc + (1 + m) ≤ Bc ∧ cs + (m + m * y) ≤ Bs) ∧ am_wp C rb Bc Bs K Qc Qr n0 cd ls (.inr (.inr (some (.inl T))) :: r) (am_zero V T) (am_zeroRn R T (1 + m)) (T + (1 + m)) (cc + (1 + m)) (cs + (m + m * y))))))
    | .invokevirtual _ => am_if (am_isr (am_nth aux 10) (st.drop (am_nth aux 1 - 1))) (am_if (Nat.ble (am_cats (st.drop (am_nth aux 1))) 8) (am_room (am_nth aux 3) (am_nth aux 4) cc cs Bc Bs (K (am_nth aux 0) (st.take (am_nth aux 1)).reverse V R T (fun q V R T => am_wp C rb Bc Bs K Qc Qr n0 cd ls (am_push q (st.drop (am_nth aux 1))) V R T (cc + am_nth aux 3) (cs + am_nth aux 4)))))
    | .invokestatic _ => (match Nat.beq (am_nth aux 0) 1000 with
      | true => (match st with
        | .inl m :: .inl dp :: .inr (.inr b) :: .inl sp :: .inr (.inr a) :: r => (am_if (Nat.ble (am_cats r) 8) ((0 ≤ sp ∧ 0 ≤ dp ∧ 0 ≤ m) ∧ am_seg a (sp + m) (fun p o => am_seg b (dp + m) (fun q o2 => am_wp C rb Bc Bs K Qc Qr n0 cd ls r (am_cpy V p (o + sp) q (o2 + dp) m) R T cc cs))))
        | _ => False)
      | false => (match Nat.ble 1002 (am_nth aux 0) with
        | true => (match Nat.beq (am_nth aux 0) 1002 with
          | true => (match st with
            | .inl b :: .inl a :: r => am_if (Nat.ble (am_cats r) 8) ((am_in32 a ∧ am_in32 b) ∧ (a < b → am_wp C rb Bc Bs K Qc Qr n0 cd ls (.inl b :: r) V R T cc cs) ∧ (b ≤ a → am_wp C rb Bc Bs K Qc Qr n0 cd ls (.inl a :: r) V R T cc cs))
            | _ => False)
          | false => (match Nat.beq (am_nth aux 0) 1003 with
            | true => (match st with
              | .inl b :: .inl a :: r => am_if (Nat.ble (am_cats r) 8) ((am_in32 a ∧ am_in32 b) ∧ (a ≤ b → am_wp C rb Bc Bs K Qc Qr n0 cd ls (.inl a :: r) V R T cc cs) ∧ (b < a → am_wp C rb Bc Bs K Qc Qr n0 cd ls (.inl b :: r) V R T cc cs))
              | _ => False)
            | false => (match st with
              | .inr (.inl b) :: .inr (.inl a) :: r => am_if (Nat.ble (am_cats r) 8) ((am_in64 a ∧ (0 < b ∧ b ≤ 9223372036854775807)) ∧ am_wp C rb Bc Bs K Qc Qr n0 cd ls (.inr (.inl (a % b)) :: r) V R T cc cs)
              | _ => False)))
        | false => am_if (Nat.ble (am_nth aux 1) st.length) (am_if (Nat.ble (am_cats (st.drop (am_nth aux 1))) 8) (am_room (am_nth aux 3) (am_nth aux 4) cc cs Bc Bs (K (am_nth aux 0) (st.take (am_nth aux 1)).reverse V R T (fun q V R T => am_wp C rb Bc Bs K Qc Qr n0 cd ls (am_push q (st.drop (am_nth aux 1))) V R T (cc + am_nth aux 3) (cs + am_nth aux 4)))))))
    | .invokespecial _ => (match Nat.beq (am_nth aux 0) 1001 with
      | true => (match st with
        | .inr (.inr (some (.inl _))) :: r => am_if (Nat.ble (am_cats r) 8) (am_wp C rb Bc Bs K Qc Qr n0 cd ls r V R T cc cs)
        | _ => False)
      | false => am_if (am_isr (am_nth aux 10) (st.drop (am_nth aux 1 - 1))) (am_if (Nat.ble (am_cats (st.drop (am_nth aux 1))) 8) (am_room (am_nth aux 3) (am_nth aux 4) cc cs Bc Bs (K (am_nth aux 0) (st.take (am_nth aux 1)).reverse V R T (fun q V R T => am_wp C rb Bc Bs K Qc Qr n0 cd ls (am_push q (st.drop (am_nth aux 1))) V R T (cc + am_nth aux 3) (cs + am_nth aux 4))))))
    | .ireturn => (match st with
      | [.inl a] => (match rb with
        | true => (a = 0 ∨ a = 1) ∧ Qr (some (.inl a)) V R T
        | false => Qr (some (.inl a)) V R T)
      | _ => False)
    | .lreturn => (match st with
      | [.inr (.inl a)] => Qr (some (.inr (.inl a))) V R T
      | _ => False)
    | .areturn => (match st with
      | [.inr (.inr (some (.inl o)))] => am_if (Nat.beq (am_lay o).1 13) (Qr (some (.inr (.inr (some (.inl o))))) V R T)
      | _ => False)
    | .return_ => (match st with
      | [] => Qr none V R T
      | _ => False)
    | _ => False
