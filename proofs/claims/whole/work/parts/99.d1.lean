/-! polynomials, as lists of monomials and numbers -/
def y_em (a : Nat → Int) : List Nat → Int
  | [] => 1
  | x :: l => a x * y_em a l
def y_ep (a : Nat → Int) : List (List Nat × Nat) → Int
  | [] => 0
  | q :: P => (q.2 : Int) * y_em a q.1 + y_ep a P
def y_ins (x : Nat) : List Nat → List Nat
  | [] => [x]
  | y :: l => match Nat.ble x y with
    | true => x :: y :: l
    | false => y :: y_ins x l
def y_mm : List Nat → List Nat → List Nat
  | [], m => m
  | x :: l, m => y_ins x (y_mm l m)
def y_lt : List Nat → List Nat → Bool
  | [], [] => false
  | [], _ :: _ => true
  | _ :: _, [] => false
  | x :: l, y :: m => match Nat.blt x y with
    | true => true
    | false => match Nat.beq x y with
      | true => y_lt l m
      | false => false
def y_eq : List Nat → List Nat → Bool
  | [], [] => true
  | x :: l, y :: m => match Nat.beq x y with
    | true => y_eq l m
    | false => false
  | _, _ => false
def y_pi (m : List Nat) (c : Nat) : List (List Nat × Nat) → List (List Nat × Nat)
  | [] => [(m, c)]
  | q :: P => match y_eq m q.1 with
    | true => (q.1, q.2 + c) :: P
    | false => match y_lt m q.1 with
      | true => (m, c) :: q :: P
      | false => q :: y_pi m c P
def y_pa (m : List Nat) (c : Nat) : List (List Nat × Nat) → List (List Nat × Nat) → List (List Nat × Nat)
  | [], Q => Q
  | q :: P, Q => y_pi (y_mm m q.1) (c * q.2) (y_pa m c P Q)
def y_pm : List (List Nat × Nat) → List (List Nat × Nat) → List (List Nat × Nat) → List (List Nat × Nat)
  | [], _, Q => Q
  | q :: P, R, Q => y_pa q.1 q.2 R (y_pm P R Q)
def y_cv (F G : Nat → List (List Nat × Nat)) (k : Nat) : Nat → List (List Nat × Nat)
  | 0 => []
  | j + 1 => y_pm (F j) (G (k - j)) (y_cv F G k j)
def y_wt (f : Nat → List (List Nat × Nat)) (R : Nat → Nat → List (List Nat × Nat)) (k less : Nat) : Nat → List (List Nat × Nat)
  | 0 => []
  | j + 1 => y_pm (f (j + 1)) (R (j + 1 - less) (k - less)) (y_wt f R k less j)
theorem y_em_ins (a : Nat → Int) (x : Nat) : ∀ l, y_em a (y_ins x l) = a x * y_em a l
  | [] => rfl
  | y :: l => by
    unfold y_ins
    cases Nat.ble x y with
    | true => rfl
    | false =>
      show a y * y_em a (y_ins x l) = a x * (a y * y_em a l)
      rw [y_em_ins a x l, Int.mul_left_comm]
theorem y_em_mm (a : Nat → Int) (m : List Nat) : ∀ l, y_em a (y_mm l m) = y_em a l * y_em a m
  | [] => by rw [y_mm, y_em, Int.one_mul]
  | x :: l => by rw [y_mm, y_em_ins, y_em_mm a m l, y_em, Int.mul_assoc]
theorem y_eq_eq : ∀ l m, y_eq l m = true → l = m
  | [], [], _ => rfl
  | [], _ :: _, h => by cases h
  | _ :: _, [], h => by cases h
  | x :: l, y :: m, h => by
    unfold y_eq at h
    cases q : Nat.beq x y with
    | true =>
      rw [q] at h
      rw [Nat.eq_of_beq_eq_true q, y_eq_eq l m h]
    | false => rw [q] at h; cases h
theorem y_ep_pi (a : Nat → Int) (m : List Nat) (c : Nat) : ∀ P, y_ep a (y_pi m c P) = (c : Int) * y_em a m + y_ep a P
  | [] => rfl
  | q :: P => by
    unfold y_pi
    cases e : y_eq m q.1 with
    | true =>
      show ((q.2 + c : Nat) : Int) * y_em a q.1 + y_ep a P = _
      rw [y_eq_eq _ _ e, y_ep, Int.natCast_add, Int.add_mul]
      omega
    | false =>
      show y_ep a (match y_lt m q.1 with
        | true => (m, c) :: q :: P
        | false => q :: y_pi m c P) = _
      cases y_lt m q.1 with
      | true => rfl
      | false =>
        show (q.2 : Int) * y_em a q.1 + y_ep a (y_pi m c P) = _
        rw [y_ep_pi a m c P, y_ep]
        omega
theorem y_ep_pa (a : Nat → Int) (m : List Nat) (c : Nat) (Q : List (List Nat × Nat)) : ∀ P, y_ep a (y_pa m c P Q) = (c : Int) * y_em a m * y_ep a P + y_ep a Q
  | [] => by rw [y_pa, y_ep, Int.mul_zero, Int.zero_add]
  | q :: P => by
    rw [y_pa, y_ep_pi, y_ep_pa a m c Q P, y_ep, y_em_mm, Int.mul_add, Int.natCast_mul, Int.add_assoc]
    congr 1
    rw [Int.mul_assoc, Int.mul_assoc, ← Int.mul_assoc (q.2 : Int), Int.mul_comm (q.2 : Int), Int.mul_assoc]
theorem y_ep_pm (a : Nat → Int) (R Q : List (List Nat × Nat)) : ∀ P, y_ep a (y_pm P R Q) = y_ep a P * y_ep a R + y_ep a Q
  | [] => by rw [y_pm, y_ep, Int.zero_mul, Int.zero_add]
  | q :: P => by rw [y_pm, y_ep_pa, y_ep_pm a R Q P, y_ep, Int.add_mul, Int.add_assoc]
theorem y_mod {p s x y S X Y : Int} (h1 : s = S % p) (h2 : x = X % p) (h3 : y = Y % p) : (s + x * y) % p = (X * Y + S) % p := by
  rw [h1, h2, h3, Int.add_emod, Int.emod_emod, Int.mul_emod, Int.emod_emod, Int.emod_emod, ← Int.mul_emod, ← Int.add_emod, Int.add_comm]
/-- convolutions -/
theorem y_cv_ok {p : Int} {a : Nat → Int} {f g : Int → Int} {F G : Nat → List (List Nat × Nat)} {k : Nat} (hp : 1 < p) : ∀ j : Nat, j ≤ k + 1 → (∀ i : Nat, i < j → f i = y_ep a (F i) % p ∧ g ((k - i : Nat) : Int) = y_ep a (G (k - i)) % p) → sr_cv p f g k j = y_ep a (y_cv F G k j) % p
  | 0, _, _ => by rw [sr_cv, y_cv, y_ep, Int.zero_emod]
  | j + 1, hj, h => by
    have ih := y_cv_ok (p := p) (a := a) (f := f) (g := g) (F := F) (G := G) (k := k) hp j (by omega) (fun i hi => h i (by omega))
    obtain ⟨h1, h2⟩ := h j (by omega)
    rw [sr_cv, y_cv, y_ep_pm, show ((k : Nat) : Int) - (j : Int) = ((k - j : Nat) : Int) by omega]
    exact y_mod ih h1 h2
/-- the weighted sum of a row of powers -/
def y_sw (p : Int) (f : Int → Int) (R : Nat → Int → Int) (k less : Int) : Nat → Int
  | 0 => 0
  | j + 1 => (y_sw p f R k less j + f ((j : Int) + 1) * R ((j : Int) + 1 - less).toNat (k - less)) % p
theorem y_sw_ok {p : Int} {a : Nat → Int} {f : Int → Int} {R : Nat → Int → Int} {F : Nat → List (List Nat × Nat)} {P : Nat → Nat → List (List Nat × Nat)} {k less : Nat} (hp : 1 < p) (hl : less ≤ 1) (hk : 1 ≤ k) : ∀ j : Nat, (∀ i : Nat, i < j → f ((i : Int) + 1) = y_ep a (F (i + 1)) % p ∧ R (i + 1 - less) ((k - less : Nat) : Int) = y_ep a (P (i + 1 - less) (k - less)) % p) → y_sw p f R k less j = y_ep a (y_wt F P k less j) % p
  | 0, _ => by rw [y_sw, y_wt, y_ep, Int.zero_emod]
  | j + 1, h => by
    have ih := y_sw_ok (p := p) (a := a) (f := f) (R := R) (F := F) (P := P) (k := k) (less := less) hp hl hk j (fun i hi => h i (by omega))
    obtain ⟨h1, h2⟩ := h j (by omega)
    rw [y_sw, y_wt, y_ep_pm, show ((j : Int) + 1 - (less : Int)).toNat = j + 1 - less by omega, show ((k : Nat) : Int) - (less : Int) = ((k - less : Nat) : Int) by omega]
    exact y_mod ih h1 h2
theorem y_sw_rg {p : Int} {f : Int → Int} {R : Nat → Int → Int} {k less : Int} (hp : 0 < p) : ∀ j, 0 ≤ y_sw p f R k less j ∧ y_sw p f R k less j < p
  | 0 => ⟨Int.le_refl _, hp⟩
  | j + 1 => m_modr hp
theorem y_sw_eq {p : Int} {f f' : Int → Int} {R R' : Nat → Int → Int} {k less : Int} : ∀ j : Nat, (∀ i : Int, 1 ≤ i → i ≤ j → f i = f' i ∧ R (i - less).toNat (k - less) = R' (i - less).toNat (k - less)) → y_sw p f R k less j = y_sw p f' R' k less j
  | 0, _ => rfl
  | j + 1, h => by
    obtain ⟨h1, h2⟩ := h ((j : Int) + 1) (by omega) (by omega)
    rw [y_sw, y_sw, y_sw_eq j (fun i a b => h i a (by omega)), h1, h2]
