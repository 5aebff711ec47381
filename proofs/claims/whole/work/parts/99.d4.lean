/-! rows of numbers, their complements, counted by the kernel -/
def y_gN (r : List Nat) (i : Int) : Int := ((r.getD i.toNat 0 : Nat) : Int)
def y_fi (b : Nat) : List Nat → Nat → Nat
  | [], i => i
  | y :: r, i => match Nat.beq y b with
    | true => i
    | false => y_fi b r (i + 1)
def y_li (b : Nat) : List Nat → Nat → Nat → Nat
  | [], _, z => z
  | y :: r, i, z => match Nat.beq y b with
    | true => y_li b r (i + 1) i
    | false => y_li b r (i + 1) z
theorem y_fi_ok (b : Nat) : ∀ (r : List Nat) (i t : Nat), t < r.length → r.getD t 0 = b → y_fi b r i ≤ i + t ∧ ∃ t', t' < r.length ∧ y_fi b r i = i + t' ∧ r.getD t' 0 = b
  | [], i, t, h, _ => absurd h (Nat.not_lt_zero _)
  | y :: r, i, t, h, e => by
    unfold y_fi
    cases q : Nat.beq y b with
    | true => exact ⟨by show i ≤ i + t; omega, 0, by rw [List.length_cons]; omega, rfl, Nat.eq_of_beq_eq_true q⟩
    | false =>
      cases t with
      | zero =>
        exfalso
        have e : y = b := e
        rw [e, Nat.beq_refl] at q
        cases q
      | succ t =>
        obtain ⟨a, t', b1, b2, b3⟩ := y_fi_ok b r (i + 1) t (by rw [List.length_cons] at h; omega) e
        exact ⟨by show y_fi b r (i + 1) ≤ i + (t + 1); omega, t' + 1, by rw [List.length_cons]; omega, by show y_fi b r (i + 1) = i + (t' + 1); omega, b3⟩
theorem y_li_ge (b : Nat) : ∀ (r : List Nat) (i z : Nat), z ≤ i → z ≤ y_li b r i z
  | [], i, z, _ => Nat.le_refl _
  | y :: r, i, z, h => by
    unfold y_li
    cases Nat.beq y b with
    | true => exact Nat.le_trans h (y_li_ge b r (i + 1) i (by omega))
    | false => exact y_li_ge b r (i + 1) z (by omega)
theorem y_li_or (b : Nat) : ∀ (r : List Nat) (i z : Nat), y_li b r i z = z ∨ ∃ t', t' < r.length ∧ y_li b r i z = i + t' ∧ r.getD t' 0 = b
  | [], i, z => Or.inl rfl
  | y :: r, i, z => by
    unfold y_li
    cases q : Nat.beq y b with
    | true =>
      right
      rcases y_li_or b r (i + 1) i with h | ⟨t', h1, h2, h3⟩
      · exact ⟨0, by rw [List.length_cons]; omega, h, Nat.eq_of_beq_eq_true q⟩
      · exact ⟨t' + 1, by rw [List.length_cons]; omega, by show y_li b r (i + 1) i = i + (t' + 1); omega, h3⟩
    | false =>
      rcases y_li_or b r (i + 1) z with h | ⟨t', h1, h2, h3⟩
      · exact Or.inl h
      · exact Or.inr ⟨t' + 1, by rw [List.length_cons]; omega, by show y_li b r (i + 1) z = i + (t' + 1); omega, h3⟩
theorem y_li_ok (b : Nat) : ∀ (r : List Nat) (i z t : Nat), t < r.length → r.getD t 0 = b → i + t ≤ y_li b r i z ∧ ∃ t', t' < r.length ∧ y_li b r i z = i + t' ∧ r.getD t' 0 = b
  | [], i, z, t, h, _ => absurd h (Nat.not_lt_zero _)
  | y :: r, i, z, t, h, e => by
    unfold y_li
    cases q : Nat.beq y b with
    | true =>
      have h1 := y_li_ge b r (i + 1) i (by omega)
      refine ⟨?_, ?_⟩
      · show i + t ≤ y_li b r (i + 1) i
        cases t with
        | zero => exact h1
        | succ t =>
          have := (y_li_ok b r (i + 1) i t (by rw [List.length_cons] at h; omega) e).1
          omega
      · rcases y_li_or b r (i + 1) i with h | ⟨t', h1, h2, h3⟩
        · exact ⟨0, by rw [List.length_cons]; omega, h, Nat.eq_of_beq_eq_true q⟩
        · exact ⟨t' + 1, by rw [List.length_cons]; omega, by show y_li b r (i + 1) i = i + (t' + 1); omega, h3⟩
    | false =>
      cases t with
      | zero =>
        exfalso
        have e : y = b := e
        rw [e, Nat.beq_refl] at q
        cases q
      | succ t =>
        obtain ⟨a, t', b1, b2, b3⟩ := y_li_ok b r (i + 1) z t (by rw [List.length_cons] at h; omega) e
        exact ⟨by show i + (t + 1) ≤ y_li b r (i + 1) z; omega, t' + 1, by rw [List.length_cons]; omega, by show y_li b r (i + 1) z = i + (t' + 1); omega, b3⟩
def y_FL (r : List Nat) : List (Nat × Nat) := r.map (fun b => (y_fi b r 0, y_li b r 0 0))
def y_cb : List (Nat × Nat) → Nat → Nat → Nat → Bool
  | [], _, _, _ => true
  | q :: F, i, j, k => match Nat.blt j i && Nat.ble i k with
    | true => match Nat.blt j q.1 && Nat.ble q.2 k with
      | true => y_cb F (i + 1) j k
      | false => false
    | false => y_cb F (i + 1) j k
theorem y_cb_c (q : Nat × Nat) (F : List (Nat × Nat)) (i j k : Nat) : y_cb (q :: F) i j k = (match Nat.blt j i && Nat.ble i k with
    | true => match Nat.blt j q.1 && Nat.ble q.2 k with
      | true => y_cb F (i + 1) j k
      | false => false
    | false => y_cb F (i + 1) j k) := rfl
theorem y_cb_ok (j k : Nat) : ∀ (F : List (Nat × Nat)) (i : Nat), y_cb F i j k = true ↔ ∀ t, t < F.length → j < i + t → i + t ≤ k → j < (F.getD t (0, 0)).1 ∧ (F.getD t (0, 0)).2 ≤ k
  | [], i => ⟨fun _ t h => absurd h (Nat.not_lt_zero _), fun _ => rfl⟩
  | q :: F, i => by
    have ih := y_cb_ok j k F (i + 1)
    have rest : (∀ t, t < (q :: F).length → j < i + t → i + t ≤ k → j < ((q :: F).getD t (0, 0)).1 ∧ ((q :: F).getD t (0, 0)).2 ≤ k) ↔ ((j < i → i ≤ k → j < q.1 ∧ q.2 ≤ k) ∧ ∀ t, t < F.length → j < i + 1 + t → i + 1 + t ≤ k → j < (F.getD t (0, 0)).1 ∧ (F.getD t (0, 0)).2 ≤ k) := by
      constructor
      · intro h
        refine ⟨fun a b => h 0 (by rw [List.length_cons]; omega) a b, fun t a b c => h (t + 1) (by rw [List.length_cons]; omega) (by omega) (by omega)⟩
      · rintro ⟨h1, h2⟩ t a b c
        cases t with
        | zero => exact h1 b c
        | succ t => exact h2 t (by rw [List.length_cons] at a; omega) (by omega) (by omega)
    rw [rest, ← ih, y_cb_c]
    cases c1 : Nat.blt j i && Nat.ble i k with
    | true =>
      have c1' := Bool.and_eq_true_iff.mp c1
      have a1 : j < i := Nat.blt_eq.mp c1'.1
      have a2 : i ≤ k := Nat.le_of_ble_eq_true c1'.2
      cases c2 : Nat.blt j q.1 && Nat.ble q.2 k with
      | true =>
        have c2' := Bool.and_eq_true_iff.mp c2
        have b1 : j < q.1 := Nat.blt_eq.mp c2'.1
        have b2 : q.2 ≤ k := Nat.le_of_ble_eq_true c2'.2
        exact ⟨fun h => ⟨fun _ _ => ⟨b1, b2⟩, h⟩, fun h => h.2⟩
      | false =>
        refine ⟨fun h => absurd (show false = true from h) (by decide), fun h => ?_⟩
        obtain ⟨b1, b2⟩ := h.1 a1 a2
        have : (Nat.blt j q.1 && Nat.ble q.2 k) = true := Bool.and_eq_true_iff.mpr ⟨Nat.blt_eq.mpr b1, Nat.ble_eq_true_of_le b2⟩
        rw [this] at c2
        cases c2
    | false =>
      refine ⟨fun h => ⟨fun a b => ?_, h⟩, fun h => h.2⟩
      have : (Nat.blt j i && Nat.ble i k) = true := Bool.and_eq_true_iff.mpr ⟨Nat.blt_eq.mpr a, Nat.ble_eq_true_of_le b⟩
      rw [this] at c1
      cases c1
theorem y_FL_get {r : List Nat} {t : Nat} (h : t < r.length) : (y_FL r).getD t (0, 0) = (y_fi (r.getD t 0) r 0, y_li (r.getD t 0) r 0 0) := by
  unfold y_FL
  rw [List.getD_eq_getElem?_getD, List.getElem?_map, List.getD_eq_getElem?_getD, List.getElem?_eq_getElem h]
  rfl
theorem y_gN_nat (r : List Nat) (t : Nat) : y_gN r t = (r.getD t 0 : Nat) := rfl
theorem y_cl_iff {r : List Nat} {j k : Nat} (hk : k < r.length) : y_cb (y_FL r) 0 j k = true ↔ m_cl (y_gN r) r.length j k := by
  have hl : (y_FL r).length = r.length := by unfold y_FL; rw [List.length_map]
  rw [y_cb_ok]
  constructor
  · intro h x y a b c e f q
    obtain ⟨x', rfl⟩ : ∃ x' : Nat, x = x' := ⟨x.toNat, by omega⟩
    obtain ⟨y', rfl⟩ : ∃ y' : Nat, y = y' := ⟨y.toNat, by omega⟩
    obtain ⟨h1, h2⟩ := h x' (by omega) (by omega) (by omega)
    rw [y_FL_get (by omega)] at h1 h2
    rw [y_gN_nat, y_gN_nat] at q
    have q : r.getD x' 0 = r.getD y' 0 := by omega
    have f1 := (y_fi_ok (r.getD x' 0) r 0 y' (by omega) q.symm).1
    have f2 := (y_li_ok (r.getD x' 0) r 0 0 y' (by omega) q.symm).1
    have h1 : j < y_fi (r.getD x' 0) r 0 := h1
    have h2 : y_li (r.getD x' 0) r 0 0 ≤ k := h2
    omega
  · intro h t a b c
    rw [y_FL_get (by omega)]
    have ht : t < r.length := by omega
    obtain ⟨f1, t1, f2, f3, f4⟩ := y_fi_ok (r.getD t 0) r 0 t ht rfl
    obtain ⟨l1, t2, l2, l3, l4⟩ := y_li_ok (r.getD t 0) r 0 0 t ht rfl
    constructor
    · show j < y_fi (r.getD t 0) r 0
      by_cases z : j < y_fi (r.getD t 0) r 0
      · exact z
      · exfalso
        refine h t t1 (by omega) (by omega) (by omega) (by omega) (by omega) ?_
        rw [y_gN_nat, y_gN_nat, f4]
    · show y_li (r.getD t 0) r 0 0 ≤ k
      by_cases z : y_li (r.getD t 0) r 0 0 ≤ k
      · exact z
      · exfalso
        refine h t t2 (by omega) (by omega) (by omega) (by omega) (by omega) ?_
        rw [y_gN_nat, y_gN_nat, l4]
/-! a row that is to be the complement's -/
def y_kk (F : List (Nat × Nat)) (k : Nat) : List Nat → Nat → Nat → Nat
  | [], _, f => f
  | x :: K, i, f => match y_cb F 0 i k with
    | true => x
    | false => y_kk F k K (i + 1) f
def y_now (v : Nat) (c : Nat → List Nat) : List Nat := match v with
  | 0 => c 0
  | m + 1 => c (m + 1)
def y_kl (F : List (Nat × Nat)) : Nat → Nat → List Nat → Nat → List Nat
  | 0, _, K, _ => K
  | m + 1, k, K, f => y_now (y_kk F k K 0 f) (fun v => y_now (match Nat.beq v f with
    | true => f + 1
    | false => f) (fun f' => y_kl F m (k + 1) (K ++ [v]) f'))
def y_ok (F : List (Nat × Nat)) (K : List Nat) (n : Nat) : Bool := (List.range n).all (fun k => (Nat.beq (K.getD k 0) 0 || (List.range k).any (fun j => Nat.beq (K.getD j 0 + 1) (K.getD k 0))) && (List.range k).all (fun i => Nat.beq (K.getD i 0) (K.getD k 0) == y_cb F 0 i k))
theorem y_ok_K {r K : List Nat} {n : Nat} (hr : r.length = n) (h : y_ok (y_FL r) K n = true) : o_K (y_gN r) (y_gN K) n := by
  subst hr
  unfold y_ok at h
  rw [List.all_eq_true] at h
  have h1 : ∀ k : Nat, k < r.length → (K.getD k 0 = 0 ∨ ∃ j, j < k ∧ K.getD j 0 + 1 = K.getD k 0) ∧ ∀ i, i < k → (K.getD i 0 = K.getD k 0 ↔ y_cb (y_FL r) 0 i k = true) := fun k hk => by
    have q := Bool.and_eq_true_iff.mp (h k (List.mem_range.mpr hk))
    refine ⟨?_, fun i hi => ?_⟩
    · rcases Bool.or_eq_true_iff.mp q.1 with z | z
      · exact Or.inl (Nat.eq_of_beq_eq_true z)
      · obtain ⟨j, j1, j2⟩ := List.any_eq_true.mp z
        exact Or.inr ⟨j, List.mem_range.mp j1, Nat.eq_of_beq_eq_true j2⟩
    · have z := List.all_eq_true.mp q.2 i (List.mem_range.mpr hi)
      have z := eq_of_beq z
      rw [← z]
      exact ⟨fun e => by rw [e]; exact Nat.beq_refl _, fun e => Nat.eq_of_beq_eq_true e⟩
  refine ⟨fun k a b => ?_, ?_⟩
  · obtain ⟨k', rfl⟩ : ∃ k' : Nat, k = k' := ⟨k.toNat, by omega⟩
    rw [y_gN_nat]
    refine ⟨by omega, ?_⟩
    rcases (h1 k' (by omega)).1 with z | ⟨j, j1, j2⟩
    · exact Or.inl (by omega)
    · exact Or.inr ⟨j, by omega, by omega, by rw [y_gN_nat]; omega⟩
  · have key : ∀ i k : Nat, i < k → k < r.length → (y_gN K i = y_gN K k ↔ m_kr (y_gN r) r.length i k) := fun i k a b => by
      have q := (h1 k b).2 i a
      rw [y_cl_iff b] at q
      rw [y_gN_nat, y_gN_nat]
      constructor
      · intro e
        exact Or.inl ⟨by omega, q.mp (by omega)⟩
      · rintro (⟨-, e⟩ | ⟨e, -⟩)
        · have := q.mpr e; omega
        · omega
    intro i j a b c e
    obtain ⟨i', rfl⟩ : ∃ i' : Nat, i = i' := ⟨i.toNat, by omega⟩
    obtain ⟨j', rfl⟩ : ∃ j' : Nat, j = j' := ⟨j.toNat, by omega⟩
    rcases Nat.lt_trichotomy i' j' with q | q | q
    · exact key i' j' q (by omega)
    · subst q
      exact ⟨fun _ => m_kr_refl _ _ _, fun _ => rfl⟩
    · have := key j' i' q (by omega)
      exact ⟨fun z => m_kr_symm (this.mp z.symm), fun z => (this.mpr (m_kr_symm z)).symm⟩
/-! the monomial of a row -/
def y_nb : List Nat → Nat
  | [] => 0
  | x :: r => match Nat.ble (x + 1) (y_nb r) with
    | true => y_nb r
    | false => x + 1
theorem y_nb_ok : ∀ r : List Nat, (∀ t, t < r.length → r.getD t 0 < y_nb r) ∧ (y_nb r = 0 ∨ ∃ t, t < r.length ∧ r.getD t 0 + 1 = y_nb r)
  | [] => ⟨fun t h => absurd h (Nat.not_lt_zero _), Or.inl rfl⟩
  | x :: r => by
    obtain ⟨h1, h2⟩ := y_nb_ok r
    unfold y_nb
    cases q : Nat.ble (x + 1) (y_nb r) with
    | true =>
      have q := Nat.le_of_ble_eq_true q
      refine ⟨fun t h => ?_, ?_⟩
      · cases t with
        | zero => exact q
        | succ t => exact h1 t (by rw [List.length_cons] at h; omega)
      · rcases h2 with e | ⟨t, t1, t2⟩
        · exact Or.inl e
        · exact Or.inr ⟨t + 1, by rw [List.length_cons]; omega, t2⟩
    | false =>
      have q : y_nb r < x + 1 := by
        rcases Nat.lt_or_ge (y_nb r) (x + 1) with z | z
        · exact z
        · rw [Nat.ble_eq_true_of_le z] at q; cases q
      refine ⟨fun t h => ?_, Or.inr ⟨0, by rw [List.length_cons]; omega, rfl⟩⟩
      cases t with
      | zero => show x < x + 1; omega
      | succ t =>
        have := h1 t (by rw [List.length_cons] at h; omega)
        show r.getD t 0 < x + 1
        omega
theorem y_nb_m (r : List Nat) : m_nb (y_gN r) r.length (y_nb r) := by
  obtain ⟨h1, h2⟩ := y_nb_ok r
  refine ⟨by omega, fun i a b => ?_, ?_⟩
  · obtain ⟨i', rfl⟩ : ∃ i' : Nat, i = i' := ⟨i.toNat, by omega⟩
    rw [y_gN_nat]
    have := h1 i' (by omega)
    omega
  · rcases h2 with e | ⟨t, t1, t2⟩
    · exact Or.inl (by omega)
    · exact Or.inr ⟨t, by omega, by omega, by rw [y_gN_nat]; omega⟩
def y_sz (r : List Nat) (n o : Nat) : List Nat := (List.range (y_nb r)).map (fun b : Nat => (m_cg (y_gN r) (b : Int) n).toNat + o)
def y_mono (r K : List Nat) (n : Nat) : List Nat := y_mm (y_sz r n 0) (y_mm (y_sz K n 9) [])
theorem y_em_app (a : Nat → Int) (m : List Nat) : ∀ l, y_em a (l ++ m) = y_em a l * y_em a m
  | [] => by rw [List.nil_append, y_em, Int.one_mul]
  | x :: l => by rw [List.cons_append, y_em, y_em, y_em_app a m l, Int.mul_assoc]
theorem y_em_sz (a : Nat → Int) (g : Int → Int) (n o : Nat) : ∀ b : Nat, y_em a ((List.range b).map (fun b : Nat => (m_cg g (b : Int) n).toNat + o)) = pd (fun s => a (s.toNat + o)) g n b
  | 0 => rfl
  | b + 1 => by
    rw [List.range_succ, List.map_append, y_em_app, y_em_sz a g n o b, pd]
    show _ * (a ((m_cg g (b : Int) n).toNat + o) * 1) = _
    rw [Int.mul_one]
    rfl
theorem y_em_mono (a : Nat → Int) (r K : List Nat) (n : Nat) : y_em a (y_mono r K n) = pd (fun s => a (s.toNat + 0)) (y_gN r) n (y_nb r) * pd (fun s => a (s.toNat + 9)) (y_gN K) n (y_nb K) := by
  unfold y_mono
  rw [y_em_mm, y_em_mm]
  unfold y_sz
  rw [y_em_sz, y_em_sz]
  show _ * (_ * 1) = _
  rw [Int.mul_one]
def y_co : List (List Nat) → List (List Nat × Nat)
  | [] => []
  | m :: L => y_pi m 1 (y_co L)
/-- rows as numbers -/
def y_N (r : List Int) : List Nat := r.map Int.toNat
def y_K (r : List Int) (n : Nat) : List Nat := y_kl (y_FL (y_N r)) n 0 [] 0
def y_rm (n : Nat) (r : List Int) : List Nat := y_mono (y_N r) (y_K r n) n
def y_chk (n : Nat) : Bool := (o_cp n [] 0).all (fun r => y_ok (y_FL (y_N r)) (y_K r n) n) && decide (y_co ((o_cp n [] 0).map (y_rm n)) = y_PN.getD n [])
theorem y_chk1 : y_chk 1 = true := by decide +kernel
theorem y_chk2 : y_chk 2 = true := by decide +kernel
theorem y_chk3 : y_chk 3 = true := by decide +kernel
theorem y_chk4 : y_chk 4 = true := by decide +kernel
theorem y_chk5 : y_chk 5 = true := by decide +kernel
