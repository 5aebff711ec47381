theorem am_ldi_of {l : am_L} {i : Nat} {k : AV → Prop} (h : am_ldi l i k) : ∃ z, am_get l i = some (.inl z) ∧ k (.inl z) := by
  unfold am_ldi at h
  split at h
  · rename_i z hz
    exact ⟨z, hz, h⟩
  · exact False.elim h
theorem am_ldl_of {l : am_L} {i : Nat} {k : AV → Prop} (h : am_ldl l i k) : ∃ z, am_get l i = some (.inr (.inl z)) ∧ k (.inr (.inl z)) := by
  unfold am_ldl at h
  split at h
  · rename_i z hz
    exact ⟨z, hz, h⟩
  · exact False.elim h
theorem am_ldr_of {l : am_L} {i : Nat} {k : AV → Prop} (h : am_ldr l i k) : ∃ z, am_get l i = some (.inr (.inr z)) ∧ k (.inr (.inr z)) := by
  unfold am_ldr at h
  split at h
  · rename_i z hz
    exact ⟨z, hz, h⟩
  · exact False.elim h
theorem am_pi_of {st : List AV} {k : Int → List AV → Prop} (h : am_pi st k) : ∃ b r, st = .inl b :: r ∧ k b r := by
  match st, h with
  | .inl b :: r, h => exact ⟨b, r, rfl, h⟩
theorem am_pl_of {st : List AV} {k : Int → List AV → Prop} (h : am_pl st k) : ∃ b r, st = .inr (.inl b) :: r ∧ k b r := by
  match st, h with
  | .inr (.inl b) :: r, h => exact ⟨b, r, rfl, h⟩
theorem am_pr_of {st : List AV} {k : am_Ref → List AV → Prop} (h : am_pr st k) : ∃ b r, st = .inr (.inr b) :: r ∧ k b r := by
  match st, h with
  | .inr (.inr b) :: r, h => exact ⟨b, r, rfl, h⟩
theorem am_br_mono {c : ClassFile.Cond} {a b : Int} {A B A' B' : Prop} (h : am_br c a b A B) (ha : A → A') (hb : B → B') : am_br c a b A' B' := by
  cases c <;> exact ⟨fun q => ha (h.1 q), fun q => hb (h.2 q)⟩
theorem am_sw_mono {k k' : Nat → Prop} (hk : ∀ t, k t → k' t) : ∀ (l : List Nat) (z lo : Int) (d : Nat), am_sw l z lo k d → am_sw l z lo k' d
  | [], _, _, d, h => hk d h
  | _ :: l, z, lo, d, h => ⟨fun q => hk _ (h.1 q), fun q => am_sw_mono hk l z (lo + 1) d (h.2 q)⟩
theorem am_fk0 {c k : Nat} (h : am_fk c k = 0) : am_ty c k = .int := by
  unfold am_fk at h
  cases q : am_ty c k <;> rw [q] at h <;> first | rfl | cases h
theorem am_fk1 {c k : Nat} (h : am_fk c k = 1) : am_ty c k = .long := by
  unfold am_fk at h
  cases q : am_ty c k <;> rw [q] at h <;> first | rfl | cases h
theorem am_fk2 {c k : Nat} (h : am_fk c k = 2) : am_ty c k = .boolean := by
  unfold am_fk at h
  cases q : am_ty c k <;> rw [q] at h <;> first | rfl | cases h
theorem am_fk3 {c k : Nat} (h : am_fk c k = 3) (a : Nat) : narrow (am_ty c k) (.ref a) = .ref a ∧ fits (am_ty c k) (.ref a) = true := by
  unfold am_fk at h
  cases q : am_ty c k <;> rw [q] at h <;> first | (cases h; done) | exact ⟨rfl, rfl⟩
theorem am_fkle : (List.range 6).all (fun c => (List.range (am_NN c)).all (fun j => decide (am_fk c j ≤ 3))) = true := by decide +kernel

set_option maxHeartbeats 4000000 in
/-- THE STEP: what am_wp asks is enough for the machine -/
theorem am_sound {X : am_X} (cx : am_cx X) {init : Bool} {ret : Option FieldType} {rb : Bool} {d : Nat} {C : List CI} {Qc : Nat → am_L → List AV → am_V → am_T → Nat → Nat → Nat → Prop} {Qr : Option AV → am_V → am_T → Nat → Prop} (hG : am_good (am_X.own X) init ret (am_X.bytes X) (am_X.nL X) C) (hinit : init = true → (am_X.meth X).name = "<init>") (hfr : d + 1 ≤ (am_X.Rm X).frames) (hlo : 36 * (d + 1) ≤ (am_X.Rm X).locals) (hQc : ∀ pc ls st V R T cc cs, Qc pc ls st V R T cc cs → am_W X pc ls st V R T cc cs)
    (hI : ∀ pc ls V R T cc cs z, decode (am_X.bytes X) pc = .ok (.ireturn, 1) → (ret = some .int ∨ ret = some .boolean) → (rb = true → z = 0 ∨ z = 1) → Qr (some (.inl z)) V R T → am_W X pc ls [.inl z] V R T cc cs)
    (hJ : ∀ pc ls V R T cc cs z, decode (am_X.bytes X) pc = .ok (.lreturn, 1) → ret = some .long → Qr (some (.inr (.inl z))) V R T → am_W X pc ls [.inr (.inl z)] V R T cc cs)
    (hA : ∀ pc ls V R T cc cs o, decode (am_X.bytes X) pc = .ok (.areturn, 1) → ret = some (.object RX3) → Qr (some (.inr (.inr (some (.inl o))))) V R T → am_W X pc ls [.inr (.inr (some (.inl o)))] V R T cc cs)
    (hU : ∀ pc ls V R T cc cs, decode (am_X.bytes X) pc = .ok (.return_, 1) → ret = none → Qr none V R T → am_W X pc ls [] V R T cc cs) :
    ∀ fu cd ls st V R T cc cs, am_good (am_X.own X) init ret (am_X.bytes X) (am_X.nL X) cd → (cc ≤ (am_X.Rm X).cells ∧ cs ≤ (am_X.Rm X).slots) → am_wp C rb (am_X.Rm X).cells (am_X.Rm X).slots (am_Calls (am_X.g X) d) Qc Qr fu cd ls st V R T cc cs → am_W X (am_pc cd) ls st V R T cc cs := by
  intro fu
  induction fu with
  | zero =>
    intro cd ls st V R T cc cs _ _ h
    exact False.elim h
  | succ fu ih =>
    intro cd0 ls st V R T cc cs hg0 hB h0
    match cd0, hg0, h0 with
    | [], _, h => exact False.elim h
    | (true, pc, _) :: _, _, h => exact hQc _ _ _ _ _ _ _ _ h
    | (false, pc, ins, len, z, aux) :: cd, hg, h =>
      clear h0 hg0
      have nx : ∀ {ls st V R T cc cs}, (cc ≤ (am_X.Rm X).cells ∧ cs ≤ (am_X.Rm X).slots) → am_wp C rb (am_X.Rm X).cells (am_X.Rm X).slots (am_Calls (am_X.g X) d) Qc Qr fu cd ls st V R T cc cs → am_W X (pc + len) ls st V R T cc cs := by
        intro ls st V R T cc cs hB h
        cases cd with
        | nil => cases fu <;> exact False.elim h
        | cons q l =>
          have e : pc + len = q.2.1 := hg.next
          rw [e]
          exact ih (q :: l) ls st V R T cc cs hg.tail hB h
      have jm : ∀ t {ls st V R T cc cs}, (cc ≤ (am_X.Rm X).cells ∧ cs ≤ (am_X.Rm X).slots) → am_wp C rb (am_X.Rm X).cells (am_X.Rm X).slots (am_Calls (am_X.g X) d) Qc Qr fu (am_at C t) ls st V R T cc cs → am_W X t ls st V R T cc cs := by
        intro t ls st V R T cc cs hB h
        obtain ⟨g1, g2⟩ := am_good.at t hG
        cases hc : am_at C t with
        | nil => rw [hc] at h; cases fu <;> exact False.elim h
        | cons q l =>
          have e := g2 q l hc
          rw [hc] at g1 h
          have := ih (q :: l) ls st V R T cc cs g1 hB h
          rw [← e]
          exact this
      have hq := hg.1 _ List.mem_cons_self
      unfold am_ok1 at hq
      simp only [Bool.and_eq_true, decide_eq_true_eq] at hq
      obtain ⟨hd, hlen, hok⟩ := hq
      show am_W X pc ls st V R T cc cs
      have hd : decode (am_X.bytes X) pc = .ok (ins, len) := hd
      have hlen : (am_isSw ins || Nat.beq len (am_ilen ins)) = true := hlen
      have hok : am_ok2 (am_X.own X) init ret (am_X.nL X) pc ins z aux = true := hok
      cases ins with
      | aaload =>
        have hl : len = 1 := Nat.eq_of_beq_eq_true hlen
        subst hl
        replace h : am_pi st (fun i r => am_pr r (fun b r => (match (generalizing := false) b with
                | some (.inl a) => (match (generalizing := false) am_lay a with
                  | (3, n, _, _) => (0 ≤ i ∧ i < (n : Int)) ∧ am_wp C rb (am_X.Rm X).cells (am_X.Rm X).slots (am_Calls (am_X.g X) d) Qc Qr fu cd ls (.inr (.inr (some (.inr (a, i)))) :: r) V R T cc cs
                  | (4, n, _, _) => (0 ≤ i ∧ i < (n : Int)) ∧ am_wp C rb (am_X.Rm X).cells (am_X.Rm X).slots (am_Calls (am_X.g X) d) Qc Qr fu cd ls (.inr (.inr (some (.inr (a, i)))) :: r) V R T cc cs
                  | (5, n, _, _) => (0 ≤ i ∧ i < (n : Int)) ∧ (R a i = none → am_wp C rb (am_X.Rm X).cells (am_X.Rm X).slots (am_Calls (am_X.g X) d) Qc Qr fu cd ls (.inr (.inr none) :: r) V R T cc cs) ∧ (∀ x, R a i = some x → am_wp C rb (am_X.Rm X).cells (am_X.Rm X).slots (am_Calls (am_X.g X) d) Qc Qr fu cd ls (.inr (.inr (some (.inl x))) :: r) V R T cc cs)
                  | _ => False)
                | _ => False))) := h
        replace h := am_pi_of h
        obtain ⟨i, r, rfl, h⟩ := h
        replace h := am_pr_of h
        obtain ⟨b, r, rfl, h⟩ := h
        match b, h with
        | some (.inl a), h =>
          simp only at h
          split at h
          · rename_i n9 w9 y9 hl
            exact so_aaload3 cx hd hl h.1.1 h.1.2 (nx hB h.2)
          · rename_i n9 w9 y9 hl
            exact so_aaload4 cx hd hl h.1.1 h.1.2 (nx hB h.2)
          · rename_i n9 w9 y9 hl
            exact so_aaload5 cx hd hl h.1.1 h.1.2 (fun q => nx hB (h.2.1 q)) (fun x q => nx hB (h.2.2 x q))
          · exact False.elim h
      | aastore =>
        have hl : len = 1 := Nat.eq_of_beq_eq_true hlen
        subst hl
        replace h : am_pr st (fun x r => am_pi r (fun i r => am_pr r (fun b r => (match (generalizing := false) b with
                | some (.inl a) => (match (generalizing := false) am_lay a with
                | (kd, n, _, _) => am_if (Nat.beq kd 5) ((0 ≤ i ∧ i < (n : Int)) ∧ (match (generalizing := false) x with
                  | none => am_wp C rb (am_X.Rm X).cells (am_X.Rm X).slots (am_Calls (am_X.g X) d) Qc Qr fu cd ls r V (am_upR R a i none) T cc cs
                  | some (.inl q) => am_if (Nat.beq (am_lay q).1 13) (am_wp C rb (am_X.Rm X).cells (am_X.Rm X).slots (am_Calls (am_X.g X) d) Qc Qr fu cd ls r V (am_upR R a i (some q)) T cc cs)
                  | _ => False)))
                | _ => False)))) := h
        replace h := am_pr_of h
        obtain ⟨x, r, rfl, h⟩ := h
        replace h := am_pi_of h
        obtain ⟨i, r, rfl, h⟩ := h
        replace h := am_pr_of h
        obtain ⟨b, r, rfl, h⟩ := h
        match b, h with
        | some (.inl a), h =>
          obtain ⟨⟨kd, n9, w9, y9⟩, hl⟩ : ∃ z9, am_lay a = z9 := ⟨_, rfl⟩
          simp only [hl] at h
          replace h := am_if_of h
          obtain ⟨hk, h1, h⟩ := h
          have hk := Nat.eq_of_beq_eq_true hk
          subst hk
          match x, h with
          | none, h => exact so_aastoreN cx hd hl h1.1 h1.2 (nx hB h)
          | some (.inl q), h => exact so_aastore cx hd hl (Nat.eq_of_beq_eq_true (am_if_of h).1) h1.1 h1.2 (nx hB (am_if_of h).2)
      | aconst_null =>
        have hl : len = 1 := Nat.eq_of_beq_eq_true hlen
        subst hl
        replace h : am_wp C rb (am_X.Rm X).cells (am_X.Rm X).slots (am_Calls (am_X.g X) d) Qc Qr fu cd ls (.inr (.inr none) :: st) V R T cc cs := h
        exact so_aconst_null cx hd (nx hB h)
      | aload i =>
        have hl : len = 2 := Nat.eq_of_beq_eq_true hlen
        subst hl
        replace h : am_ldr ls i (fun v => am_wp C rb (am_X.Rm X).cells (am_X.Rm X).slots (am_Calls (am_X.g X) d) Qc Qr fu cd ls (v :: st) V R T cc cs) := h
        replace h := am_ldr_of h
        obtain ⟨y, hv, h⟩ := h
        exact so_aload cx hv hd (nx hB h)
      | aload_n i =>
        have hl : len = 1 := Nat.eq_of_beq_eq_true hlen
        subst hl
        replace h : am_ldr ls i.val (fun v => am_wp C rb (am_X.Rm X).cells (am_X.Rm X).slots (am_Calls (am_X.g X) d) Qc Qr fu cd ls (v :: st) V R T cc cs) := h
        replace h := am_ldr_of h
        obtain ⟨y, hv, h⟩ := h
        exact so_aload_n cx hv hd (nx hB h)
      | anewarray x0 =>
        have hl : len = 3 := Nat.eq_of_beq_eq_true hlen
        subst hl
        replace h : am_pi st (fun i r => (match (generalizing := false) am_lay T with
                | (kd, m, _, _) => am_if (Nat.beq kd 5 && decide (i = (m : Int))) ((cc + 1 ≤ (am_X.Rm X).cells ∧ cs + m ≤ (am_X.Rm X).slots) ∧ am_wp C rb (am_X.Rm X).cells (am_X.Rm X).slots (am_Calls (am_X.g X) d) Qc Qr fu cd ls (.inr (.inr (some (.inl T))) :: r) V (am_zeroR R T) (T + 1) (cc + 1) (cs + m)))) := h
        replace h := am_pi_of h
        obtain ⟨i, r, rfl, h⟩ := h
        obtain ⟨⟨kd, n9, w9, y9⟩, hl⟩ : ∃ z9, am_lay T = z9 := ⟨_, rfl⟩
        simp only [hl] at h
        replace h := am_if_of h
        obtain ⟨hk, h1, h⟩ := h
        simp only [Bool.and_eq_true, decide_eq_true_eq] at hk
        obtain ⟨hk, hi⟩ := hk
        have hk := Nat.eq_of_beq_eq_true hk
        subst hi
        subst hk
        exact so_anewarray cx hd hl (of_decide_eq_true hok) h1 (nx h1 h)
      | areturn =>
        have hl : len = 1 := Nat.eq_of_beq_eq_true hlen
        subst hl
        replace h : (match (generalizing := false) st with
                | [.inr (.inr (some (.inl o)))] => am_if (Nat.beq (am_lay o).1 13) (Qr (some (.inr (.inr (some (.inl o))))) V R T)
                | _ => False) := h
        match st, h with
        | [.inr (.inr (some (.inl a)))], h => exact hA _ _ _ _ _ _ _ _ hd (of_decide_eq_true hok) (am_if_of h).2
      | arraylength =>
        have hl : len = 1 := Nat.eq_of_beq_eq_true hlen
        subst hl
        replace h : am_pr st (fun b r => (match (generalizing := false) b with
                | some (.inl a) => (match (generalizing := false) am_lay a with
                  | (kd, n, _, _) => am_if (Nat.ble kd 5) (match (generalizing := false) Nat.beq a 0 with
                    | true => am_wp C rb (am_X.Rm X).cells (am_X.Rm X).slots (am_Calls (am_X.g X) d) Qc Qr fu cd ls (.inl (V 0 (-1)) :: r) V R T cc cs
                    | false => am_wp C rb (am_X.Rm X).cells (am_X.Rm X).slots (am_Calls (am_X.g X) d) Qc Qr fu cd ls (.inl (n : Int) :: r) V R T cc cs))
                | some (.inr (a, _)) => (match (generalizing := false) am_lay a with
                  | (_, _, w, _) => am_wp C rb (am_X.Rm X).cells (am_X.Rm X).slots (am_Calls (am_X.g X) d) Qc Qr fu cd ls (.inl (w : Int) :: r) V R T cc cs)
                | none => False)) := h
        replace h := am_pr_of h
        obtain ⟨b, r, rfl, h⟩ := h
        match b, h with
        | some (.inl a), h =>
          obtain ⟨⟨kd, n9, w9, y9⟩, hl⟩ : ∃ z9, am_lay a = z9 := ⟨_, rfl⟩
          simp only [hl] at h
          replace h := am_if_of h
          obtain ⟨hk, h⟩ := h
          cases ha0 : Nat.beq a 0 with
          | true =>
            simp only [ha0] at h
            have ha0 := Nat.eq_of_beq_eq_true ha0
            exact so_alen cx hd hl (Nat.le_of_ble_eq_true hk) (fun _ => nx hB h) (fun q => absurd ha0 q)
          | false =>
            simp only [ha0] at h
            exact so_alen cx hd hl (Nat.le_of_ble_eq_true hk) (fun q => absurd ha0 (by rw [q]; decide)) (fun _ => nx hB h)
        | some (.inr (a, q)), h =>
          obtain ⟨⟨kd, n9, w9, y9⟩, hl⟩ : ∃ z9, am_lay a = z9 := ⟨_, rfl⟩
          simp only [hl] at h
          exact so_alenR cx hd hl (nx hB h)
      | astore i =>
        have hl : len = 2 := Nat.eq_of_beq_eq_true hlen
        subst hl
        replace h : am_pr st (fun b r => am_wp C rb (am_X.Rm X).cells (am_X.Rm X).slots (am_Calls (am_X.g X) d) Qc Qr fu cd (am_st1 ls i (.inr (.inr b))) r V R T cc cs) := h
        replace h := am_pr_of h
        obtain ⟨b, r, rfl, h⟩ := h
        exact so_astore cx (Nat.le_of_ble_eq_true hok) hd (nx hB h)
      | astore_n i =>
        have hl : len = 1 := Nat.eq_of_beq_eq_true hlen
        subst hl
        replace h : am_pr st (fun b r => am_wp C rb (am_X.Rm X).cells (am_X.Rm X).slots (am_Calls (am_X.g X) d) Qc Qr fu cd (am_st1 ls i.val (.inr (.inr b))) r V R T cc cs) := h
        replace h := am_pr_of h
        obtain ⟨b, r, rfl, h⟩ := h
        exact so_astore_n cx (Nat.le_of_ble_eq_true hok) hd (nx hB h)
      | athrow => exact False.elim h
      | baload =>
        have hl : len = 1 := Nat.eq_of_beq_eq_true hlen
        subst hl
        replace h : am_pi st (fun i r => am_pr r (fun b r => am_ix 2 99 V b i (fun a j => am_wp C rb (am_X.Rm X).cells (am_X.Rm X).slots (am_Calls (am_X.g X) d) Qc Qr fu cd ls (.inl (V a j) :: r) V R T cc cs))) := h
        replace h := am_pi_of h
        obtain ⟨i, r, rfl, h⟩ := h
        replace h := am_pr_of h
        obtain ⟨b, r, rfl, h⟩ := h
        exact so_baload cx hd h (fun a j q => nx hB q)
      | bastore =>
        have hl : len = 1 := Nat.eq_of_beq_eq_true hlen
        subst hl
        replace h : am_pi st (fun x r => am_pi r (fun i r => am_pr r (fun b r => am_ix 2 99 V b i (fun a j => (x = 0 ∨ x = 1) ∧ am_wp C rb (am_X.Rm X).cells (am_X.Rm X).slots (am_Calls (am_X.g X) d) Qc Qr fu cd ls r (am_up V a j x) R T cc cs)))) := h
        replace h := am_pi_of h
        obtain ⟨x, r, rfl, h⟩ := h
        replace h := am_pi_of h
        obtain ⟨i, r, rfl, h⟩ := h
        replace h := am_pr_of h
        obtain ⟨b, r, rfl, h⟩ := h
        exact so_bastore cx hd h (fun a j q => ⟨q.1, nx hB q.2⟩)
      | bipush x =>
        have hl : len = 2 := Nat.eq_of_beq_eq_true hlen
        subst hl
        replace h : am_wp C rb (am_X.Rm X).cells (am_X.Rm X).slots (am_Calls (am_X.g X) d) Qc Qr fu cd ls (.inl x :: st) V R T cc cs := h
        exact so_bipush cx (of_decide_eq_true hok) hd (nx hB h)
      | caload => exact False.elim h
      | castore => exact False.elim h
      | checkcast x0 => exact False.elim h
      | d2f => exact False.elim h
      | d2i => exact False.elim h
      | d2l => exact False.elim h
      | dadd => exact False.elim h
      | daload => exact False.elim h
      | dastore => exact False.elim h
      | dcmp x0 => exact False.elim h
      | dconst x0 => exact False.elim h
      | ddiv => exact False.elim h
      | dload x0 => exact False.elim h
      | dload_n x0 => exact False.elim h
      | dmul => exact False.elim h
      | dneg => exact False.elim h
      | drem => exact False.elim h
      | dreturn => exact False.elim h
      | dstore x0 => exact False.elim h
      | dstore_n x0 => exact False.elim h
      | dsub => exact False.elim h
      | dup =>
        have hl : len = 1 := Nat.eq_of_beq_eq_true hlen
        subst hl
        replace h : (match (generalizing := false) st with
                | .inr (.inl _) :: _ => False
                | v :: r => am_wp C rb (am_X.Rm X).cells (am_X.Rm X).slots (am_Calls (am_X.g X) d) Qc Qr fu cd ls (v :: v :: r) V R T cc cs
                | [] => False) := h
        match st, h with
        | .inl v :: r, h => exact so_dup cx (fun y q => by cases q) hd (nx hB h)
        | .inr (.inr v) :: r, h => exact so_dup cx (fun y q => by cases q) hd (nx hB h)
      | dup_x1 => exact False.elim h
      | dup_x2 => exact False.elim h
      | dup2 =>
        have hl : len = 1 := Nat.eq_of_beq_eq_true hlen
        subst hl
        replace h : (match (generalizing := false) st with
                | .inl b :: .inr (.inr a) :: r => am_wp C rb (am_X.Rm X).cells (am_X.Rm X).slots (am_Calls (am_X.g X) d) Qc Qr fu cd ls (.inl b :: .inr (.inr a) :: .inl b :: .inr (.inr a) :: r) V R T cc cs
                | _ => False) := h
        match st, h with
        | .inl b :: .inr (.inr a) :: r, h => exact so_dup2 cx hd (nx hB h)
      | dup2_x1 => exact False.elim h
      | dup2_x2 => exact False.elim h
      | f2d => exact False.elim h
      | f2i => exact False.elim h
      | f2l => exact False.elim h
      | fadd => exact False.elim h
      | faload => exact False.elim h
      | fastore => exact False.elim h
      | fcmp x0 => exact False.elim h
      | fconst x0 => exact False.elim h
      | fdiv => exact False.elim h
      | fload x0 => exact False.elim h
      | fload_n x0 => exact False.elim h
      | fmul => exact False.elim h
      | fneg => exact False.elim h
      | frem => exact False.elim h
      | freturn => exact False.elim h
      | fstore x0 => exact False.elim h
      | fstore_n x0 => exact False.elim h
      | fsub => exact False.elim h
      | getfield x0 =>
        have hl : len = 3 := Nat.eq_of_beq_eq_true hlen
        subst hl
        replace h : am_pr st (fun b r => (match (generalizing := false) b with
                | some (.inl o) => am_if (Nat.beq (am_lay o).1 (10 + am_nth aux 2)) (match (generalizing := false) am_nth aux 1 with
                  | 0 => am_wp C rb (am_X.Rm X).cells (am_X.Rm X).slots (am_Calls (am_X.g X) d) Qc Qr fu cd ls (.inl (V o z) :: r) V R T cc cs
                  | 1 => am_wp C rb (am_X.Rm X).cells (am_X.Rm X).slots (am_Calls (am_X.g X) d) Qc Qr fu cd ls (.inr (.inl (V o z)) :: r) V R T cc cs
                  | 2 => am_wp C rb (am_X.Rm X).cells (am_X.Rm X).slots (am_Calls (am_X.g X) d) Qc Qr fu cd ls (.inl (V o z) :: r) V R T cc cs
                  | _ => (match (generalizing := false) R o z with
                    | some q => am_wp C rb (am_X.Rm X).cells (am_X.Rm X).slots (am_Calls (am_X.g X) d) Qc Qr fu cd ls (.inr (.inr (some (.inl q))) :: r) V R T cc cs
                    | none => False))
                | _ => False)) := h
        replace h := am_pr_of h
        obtain ⟨b, r, rfl, h⟩ := h
        simp only [am_ok2, Bool.and_eq_true, am_wd, decide_eq_true_eq] at hok
        obtain ⟨kz, k1, k2, k3⟩ := hok
        subst kz
        have k1 : am_nth aux 0 < am_NN (am_nth aux 2) := Nat.le_of_ble_eq_true k1
        have k2 := Nat.eq_of_beq_eq_true k2
        match b, h with
        | some (.inl o), h =>
          replace h := am_if_of h
          obtain ⟨hl, h⟩ := h
          have hl := Nat.eq_of_beq_eq_true hl
          match hty : am_nth aux 1, h with
          | 0, h => exact so_get (v := .inl (V o (am_nth aux 0))) cx hd hl k1 k3 (by unfold am_fv; rw [k2, hty]; rfl) (fun _ _ => trivial) (nx hB h)
          | 1, h => exact so_get (v := .inr (.inl (V o (am_nth aux 0)))) cx hd hl k1 k3 (by unfold am_fv; rw [k2, hty]; rfl) (fun _ _ => trivial) (nx hB h)
          | 2, h => exact so_get (v := .inl (V o (am_nth aux 0))) cx hd hl k1 k3 (by unfold am_fv; rw [k2, hty]; rfl) (fun _ _ => trivial) (nx hB h)
          | y + 3, h =>
            cases hR : R o (am_nth aux 0) with
            | none => simp only [hR] at h
            | some q =>
              simp only [hR] at h
              exact so_get (v := .inr (.inr (some (.inl q)))) cx hd hl k1 k3 (by unfold am_fv; rw [k2, hty, hR]; rfl) (fun h1 h2 => h2.1 _ _ _ h1 hR) (nx hB h)
      | getstatic x0 =>
        have hl : len = 3 := Nat.eq_of_beq_eq_true hlen
        subst hl
        replace h : (match (generalizing := false) aux with
                | a :: _ => am_wp C rb (am_X.Rm X).cells (am_X.Rm X).slots (am_Calls (am_X.g X) d) Qc Qr fu cd ls (.inr (.inr (some (.inl a))) :: st) V R T cc cs
                | [] => False) := h
        simp only [am_ok2, Bool.or_eq_true, Bool.and_eq_true, am_wd, decide_eq_true_eq] at hok
        cases aux with
        | nil => exact False.elim h
        | cons a l =>
          rcases hok with ⟨k1, k2⟩ | ⟨k1, k2⟩
          · have k1 : a = 1 := Nat.eq_of_beq_eq_true k1
            subst k1
            exact so_getstatic1 cx hd k2 (nx hB h)
          · have k1 : a = 2 := Nat.eq_of_beq_eq_true k1
            subst k1
            exact so_getstatic2 cx hd k2 (nx hB h)
      | goto x0 =>
        have hl : len = 3 := Nat.eq_of_beq_eq_true hlen
        subst hl
        replace h : am_wp C rb (am_X.Rm X).cells (am_X.Rm X).slots (am_Calls (am_X.g X) d) Qc Qr fu (am_at C (am_nth aux 0)) ls st V R T cc cs := h
        exact so_goto cx (of_decide_eq_true hok) hd (jm _ hB h)
      | goto_w x0 => exact False.elim h
      | i2b =>
        have hl : len = 1 := Nat.eq_of_beq_eq_true hlen
        subst hl
        replace h : am_pi st (fun a r => am_wp C rb (am_X.Rm X).cells (am_X.Rm X).slots (am_Calls (am_X.g X) d) Qc Qr fu cd ls (.inl (Int.bmod a 256) :: r) V R T cc cs) := h
        replace h := am_pi_of h
        obtain ⟨a, r, rfl, h⟩ := h
        exact so_i2b cx hd (nx hB h)
      | i2c => exact False.elim h
      | i2d => exact False.elim h
      | i2f => exact False.elim h
      | i2l =>
        have hl : len = 1 := Nat.eq_of_beq_eq_true hlen
        subst hl
        replace h : am_pi st (fun a r => am_in32 a ∧ am_wp C rb (am_X.Rm X).cells (am_X.Rm X).slots (am_Calls (am_X.g X) d) Qc Qr fu cd ls (.inr (.inl a) :: r) V R T cc cs) := h
        replace h := am_pi_of h
        obtain ⟨a, r, rfl, h⟩ := h
        exact so_i2l cx h.1 hd (nx hB h.2)
      | i2s => exact False.elim h
      | iadd =>
        have hl : len = 1 := Nat.eq_of_beq_eq_true hlen
        subst hl
        replace h : am_pi st (fun b r => am_pi r (fun a r => am_wp C rb (am_X.Rm X).cells (am_X.Rm X).slots (am_Calls (am_X.g X) d) Qc Qr fu cd ls (.inl (a + b) :: r) V R T cc cs)) := h
        replace h := am_pi_of h
        obtain ⟨b, r, rfl, h⟩ := h
        replace h := am_pi_of h
        obtain ⟨a, r, rfl, h⟩ := h
        exact so_iadd cx hd (nx hB h)
      | iaload =>
        have hl : len = 1 := Nat.eq_of_beq_eq_true hlen
        subst hl
        replace h : am_pi st (fun i r => am_pr r (fun b r => am_ix 0 4 V b i (fun a j => am_wp C rb (am_X.Rm X).cells (am_X.Rm X).slots (am_Calls (am_X.g X) d) Qc Qr fu cd ls (.inl (V a j) :: r) V R T cc cs))) := h
        replace h := am_pi_of h
        obtain ⟨i, r, rfl, h⟩ := h
        replace h := am_pr_of h
        obtain ⟨b, r, rfl, h⟩ := h
        exact so_iaload cx hd h (fun a j q => nx hB q)
      | iand =>
        have hl : len = 1 := Nat.eq_of_beq_eq_true hlen
        subst hl
        replace h : am_pi st (fun b r => am_pi r (fun a r => b = 31 ∧ am_wp C rb (am_X.Rm X).cells (am_X.Rm X).slots (am_Calls (am_X.g X) d) Qc Qr fu cd ls (.inl (a % 32) :: r) V R T cc cs)) := h
        replace h := am_pi_of h
        obtain ⟨b, r, rfl, h⟩ := h
        replace h := am_pi_of h
        obtain ⟨a, r, rfl, h⟩ := h
        obtain ⟨rfl, h⟩ := h
        exact so_iand cx hd (nx hB h)
      | iastore =>
        have hl : len = 1 := Nat.eq_of_beq_eq_true hlen
        subst hl
        replace h : am_pi st (fun x r => am_pi r (fun i r => am_pr r (fun b r => am_ix 0 4 V b i (fun a j => am_if (Nat.ble 3 a) (am_wp C rb (am_X.Rm X).cells (am_X.Rm X).slots (am_Calls (am_X.g X) d) Qc Qr fu cd ls r (am_up V a j x) R T cc cs))))) := h
        replace h := am_pi_of h
        obtain ⟨x, r, rfl, h⟩ := h
        replace h := am_pi_of h
        obtain ⟨i, r, rfl, h⟩ := h
        replace h := am_pr_of h
        obtain ⟨b, r, rfl, h⟩ := h
        exact so_iastore cx hd h (fun a j q => ⟨Nat.le_of_ble_eq_true (am_if_of q).1, nx hB (am_if_of q).2⟩)
      | iconst x =>
        have hl : len = 1 := Nat.eq_of_beq_eq_true hlen
        subst hl
        replace h : am_wp C rb (am_X.Rm X).cells (am_X.Rm X).slots (am_Calls (am_X.g X) d) Qc Qr fu cd ls (.inl x :: st) V R T cc cs := h
        exact so_iconst cx hd (nx hB h)
      | idiv =>
        have hl : len = 1 := Nat.eq_of_beq_eq_true hlen
        subst hl
        replace h : am_pi st (fun b r => am_pi r (fun a r => ((0 ≤ a ∧ a ≤ 2147483647) ∧ (0 < b ∧ b ≤ 2147483647)) ∧ am_wp C rb (am_X.Rm X).cells (am_X.Rm X).slots (am_Calls (am_X.g X) d) Qc Qr fu cd ls (.inl (a / b) :: r) V R T cc cs)) := h
        replace h := am_pi_of h
        obtain ⟨b, r, rfl, h⟩ := h
        replace h := am_pi_of h
        obtain ⟨a, r, rfl, h⟩ := h
        exact so_idiv cx h.1.1 h.1.2 hd (nx hB h.2)
      | if_acmp x0 x1 => exact False.elim h
      | if_icmp c x1 =>
        have hl : len = 3 := Nat.eq_of_beq_eq_true hlen
        subst hl
        replace h : am_pi st (fun b r => am_pi r (fun a r => (am_in32 a ∧ am_in32 b) ∧ am_br c a b (am_wp C rb (am_X.Rm X).cells (am_X.Rm X).slots (am_Calls (am_X.g X) d) Qc Qr fu (am_at C (am_nth aux 0)) ls r V R T cc cs) (am_wp C rb (am_X.Rm X).cells (am_X.Rm X).slots (am_Calls (am_X.g X) d) Qc Qr fu cd ls r V R T cc cs))) := h
        replace h := am_pi_of h
        obtain ⟨b, r, rfl, h⟩ := h
        replace h := am_pi_of h
        obtain ⟨a, r, rfl, h⟩ := h
        exact so_if_icmp cx h.1.1 h.1.2 (of_decide_eq_true hok) hd (am_br_mono h.2 (jm _ hB) (nx hB))
      | ifCond c x1 =>
        have hl : len = 3 := Nat.eq_of_beq_eq_true hlen
        subst hl
        replace h : am_pi st (fun a r => am_in32 a ∧ am_br c a 0 (am_wp C rb (am_X.Rm X).cells (am_X.Rm X).slots (am_Calls (am_X.g X) d) Qc Qr fu (am_at C (am_nth aux 0)) ls r V R T cc cs) (am_wp C rb (am_X.Rm X).cells (am_X.Rm X).slots (am_Calls (am_X.g X) d) Qc Qr fu cd ls r V R T cc cs)) := h
        replace h := am_pi_of h
        obtain ⟨a, r, rfl, h⟩ := h
        exact so_ifCond cx h.1 (of_decide_eq_true hok) hd (am_br_mono h.2 (jm _ hB) (nx hB))
      | ifnonnull x0 =>
        have hl : len = 3 := Nat.eq_of_beq_eq_true hlen
        subst hl
        replace h : am_pr st (fun b r => (∀ x, b = some x → am_wp C rb (am_X.Rm X).cells (am_X.Rm X).slots (am_Calls (am_X.g X) d) Qc Qr fu (am_at C (am_nth aux 0)) ls r V R T cc cs) ∧ (b = none → am_wp C rb (am_X.Rm X).cells (am_X.Rm X).slots (am_Calls (am_X.g X) d) Qc Qr fu cd ls r V R T cc cs)) := h
        replace h := am_pr_of h
        obtain ⟨b, r, rfl, h⟩ := h
        exact so_ifnonnull cx (of_decide_eq_true hok) hd ⟨fun y q => jm _ hB (h.1 y q), fun q => nx hB (h.2 q)⟩
      | ifnull x0 =>
        have hl : len = 3 := Nat.eq_of_beq_eq_true hlen
        subst hl
        replace h : am_pr st (fun b r => (b = none → am_wp C rb (am_X.Rm X).cells (am_X.Rm X).slots (am_Calls (am_X.g X) d) Qc Qr fu (am_at C (am_nth aux 0)) ls r V R T cc cs) ∧ (∀ x, b = some x → am_wp C rb (am_X.Rm X).cells (am_X.Rm X).slots (am_Calls (am_X.g X) d) Qc Qr fu cd ls r V R T cc cs)) := h
        replace h := am_pr_of h
        obtain ⟨b, r, rfl, h⟩ := h
        exact so_ifnull cx (of_decide_eq_true hok) hd ⟨fun q => jm _ hB (h.1 q), fun y q => nx hB (h.2 y q)⟩
      | iinc i x =>
        have hl : len = 3 := Nat.eq_of_beq_eq_true hlen
        subst hl
        replace h : am_ldi ls i (fun v => am_pi [v] (fun b _ => am_wp C rb (am_X.Rm X).cells (am_X.Rm X).slots (am_Calls (am_X.g X) d) Qc Qr fu cd (am_st1 ls i (.inl (b + x))) st V R T cc cs)) := h
        replace h := am_ldi_of h
        obtain ⟨y, hv, h⟩ := h
        exact so_iinc cx hv (Nat.le_of_ble_eq_true hok) hd (nx hB h)
      | iload i =>
        have hl : len = 2 := Nat.eq_of_beq_eq_true hlen
        subst hl
        replace h : am_ldi ls i (fun v => am_wp C rb (am_X.Rm X).cells (am_X.Rm X).slots (am_Calls (am_X.g X) d) Qc Qr fu cd ls (v :: st) V R T cc cs) := h
        replace h := am_ldi_of h
        obtain ⟨y, hv, h⟩ := h
        exact so_iload cx hv hd (nx hB h)
      | iload_n i =>
        have hl : len = 1 := Nat.eq_of_beq_eq_true hlen
        subst hl
        replace h : am_ldi ls i.val (fun v => am_wp C rb (am_X.Rm X).cells (am_X.Rm X).slots (am_Calls (am_X.g X) d) Qc Qr fu cd ls (v :: st) V R T cc cs) := h
        replace h := am_ldi_of h
        obtain ⟨y, hv, h⟩ := h
        exact so_iload_n cx hv hd (nx hB h)
      | imul =>
        have hl : len = 1 := Nat.eq_of_beq_eq_true hlen
        subst hl
        replace h : am_pi st (fun b r => am_pi r (fun a r => am_wp C rb (am_X.Rm X).cells (am_X.Rm X).slots (am_Calls (am_X.g X) d) Qc Qr fu cd ls (.inl (a * b) :: r) V R T cc cs)) := h
        replace h := am_pi_of h
        obtain ⟨b, r, rfl, h⟩ := h
        replace h := am_pi_of h
        obtain ⟨a, r, rfl, h⟩ := h
        exact so_imul cx hd (nx hB h)
      | ineg =>
        have hl : len = 1 := Nat.eq_of_beq_eq_true hlen
        subst hl
        replace h : am_pi st (fun b r => am_wp C rb (am_X.Rm X).cells (am_X.Rm X).slots (am_Calls (am_X.g X) d) Qc Qr fu cd ls (.inl (-b) :: r) V R T cc cs) := h
        replace h := am_pi_of h
        obtain ⟨b, r, rfl, h⟩ := h
        exact so_ineg cx hd (nx hB h)
      | instanceof x0 => exact False.elim h
      | invokedynamic x0 => exact False.elim h
      | invokeinterface x0 x1 => exact False.elim h
      | invokespecial x0 =>
        have hl : len = 3 := Nat.eq_of_beq_eq_true hlen
        subst hl
        replace h : (match (generalizing := false) Nat.beq (am_nth aux 0) 1001 with
                | true => (match (generalizing := false) st with
                  | .inr (.inr (some (.inl _))) :: r => am_if (Nat.ble (am_cats r) 8) (am_wp C rb (am_X.Rm X).cells (am_X.Rm X).slots (am_Calls (am_X.g X) d) Qc Qr fu cd ls r V R T cc cs)
                  | _ => False)
                | false => am_if (am_isr (am_nth aux 10) (st.drop (am_nth aux 1 - 1))) (am_if (Nat.ble (am_cats (st.drop (am_nth aux 1))) 8) (am_room (am_nth aux 3) (am_nth aux 4) cc cs (am_X.Rm X).cells (am_X.Rm X).slots (am_Calls (am_X.g X) d (am_nth aux 0) (st.take (am_nth aux 1)).reverse V R T (fun q V R T => am_wp C rb (am_X.Rm X).cells (am_X.Rm X).slots (am_Calls (am_X.g X) d) Qc Qr fu cd ls (am_push q (st.drop (am_nth aux 1))) V R T (cc + am_nth aux 3) (cs + am_nth aux 4)))))) := h
        cases hi : Nat.beq (am_nth aux 0) 1001 with
        | true =>
          simp only [hi] at h
          simp only [am_ok2, hi, Bool.and_eq_true, am_wd, decide_eq_true_eq] at hok
          match st, h with
          | .inr (.inr (some (.inl a))) :: r, h => exact so_objInit cx hd hok.1 hok.2.1 hok.2.2 (by omega) (by omega) (Nat.le_of_ble_eq_true (am_if_of h).1) (nx hB (am_if_of h).2)
        | false =>
          simp only [hi] at h
          simp only [am_ok2, hi] at hok
          replace h := am_if_of h
          obtain ⟨hr, h⟩ := h
          replace h := am_if_of h
          obtain ⟨hc, h⟩ := h
          replace h := am_room_of h hB
          obtain ⟨h1, h⟩ := h
          exact so_callI cx hd hok hr (Nat.le_of_ble_eq_true hc) h1 hfr hlo h (fun v V' R' T' q => nx h1 q)
      | invokestatic x0 =>
        have hl : len = 3 := Nat.eq_of_beq_eq_true hlen
        subst hl
        replace h : (match (generalizing := false) Nat.beq (am_nth aux 0) 1000 with
                | true => (match (generalizing := false) st with
                  | .inl m :: .inl dp :: .inr (.inr b) :: .inl sp :: .inr (.inr a) :: r => (am_if (Nat.ble (am_cats r) 8) ((0 ≤ sp ∧ 0 ≤ dp ∧ 0 ≤ m) ∧ am_seg a (sp + m) (fun p o => am_seg b (dp + m) (fun q o2 => am_wp C rb (am_X.Rm X).cells (am_X.Rm X).slots (am_Calls (am_X.g X) d) Qc Qr fu cd ls r (am_cpy V p (o + sp) q (o2 + dp) m) R T cc cs))))
                  | _ => False)
                | false => (match (generalizing := false) Nat.ble 1002 (am_nth aux 0) with
                  | true => (match (generalizing := false) Nat.beq (am_nth aux 0) 1002 with
                    | true => (match (generalizing := false) st with
                      | .inl b :: .inl a :: r => am_if (Nat.ble (am_cats r) 8) ((am_in32 a ∧ am_in32 b) ∧ (a < b → am_wp C rb (am_X.Rm X).cells (am_X.Rm X).slots (am_Calls (am_X.g X) d) Qc Qr fu cd ls (.inl b :: r) V R T cc cs) ∧ (b ≤ a → am_wp C rb (am_X.Rm X).cells (am_X.Rm X).slots (am_Calls (am_X.g X) d) Qc Qr fu cd ls (.inl a :: r) V R T cc cs))
                      | _ => False)
                    | false => (match (generalizing := false) Nat.beq (am_nth aux 0) 1003 with
                      | true => (match (generalizing := false) st with
                        | .inl b :: .inl a :: r => am_if (Nat.ble (am_cats r) 8) ((am_in32 a ∧ am_in32 b) ∧ (a ≤ b → am_wp C rb (am_X.Rm X).cells (am_X.Rm X).slots (am_Calls (am_X.g X) d) Qc Qr fu cd ls (.inl a :: r) V R T cc cs) ∧ (b < a → am_wp C rb (am_X.Rm X).cells (am_X.Rm X).slots (am_Calls (am_X.g X) d) Qc Qr fu cd ls (.inl b :: r) V R T cc cs))
                        | _ => False)
                      | false => (match (generalizing := false) st with
                        | .inr (.inl b) :: .inr (.inl a) :: r => am_if (Nat.ble (am_cats r) 8) ((am_in64 a ∧ (0 < b ∧ b ≤ 9223372036854775807)) ∧ am_wp C rb (am_X.Rm X).cells (am_X.Rm X).slots (am_Calls (am_X.g X) d) Qc Qr fu cd ls (.inr (.inl (a % b)) :: r) V R T cc cs)
                        | _ => False)))
                  | false => am_if (Nat.ble (am_nth aux 1) st.length) (am_if (Nat.ble (am_cats (st.drop (am_nth aux 1))) 8) (am_room (am_nth aux 3) (am_nth aux 4) cc cs (am_X.Rm X).cells (am_X.Rm X).slots (am_Calls (am_X.g X) d (am_nth aux 0) (st.take (am_nth aux 1)).reverse V R T (fun q V R T => am_wp C rb (am_X.Rm X).cells (am_X.Rm X).slots (am_Calls (am_X.g X) d) Qc Qr fu cd ls (am_push q (st.drop (am_nth aux 1))) V R T (cc + am_nth aux 3) (cs + am_nth aux 4))))))) := h
        cases hi : Nat.beq (am_nth aux 0) 1000 with
        | true =>
          simp only [hi] at h
          simp only [am_ok2, hi, Bool.and_eq_true, am_wd, decide_eq_true_eq] at hok
          match st, h with
          | .inl m :: .inl dp :: .inr (.inr b) :: .inl sp :: .inr (.inr a) :: r, h =>
            replace h := am_if_of h
            obtain ⟨hc, h1, h⟩ := h
            exact so_copy cx hd hok.1 hok.2.1 hok.2.2.1 hok.2.2.2 (by omega) (by omega) (Nat.le_of_ble_eq_true hc) h1.1 h1.2.1 h1.2.2 h (fun p o q o2 k => nx hB k)
        | false =>
          simp only [hi] at h
          simp only [am_ok2, hi] at hok
          cases hi2 : Nat.ble 1002 (am_nth aux 0) with
          | true =>
            simp only [hi2] at h hok
            cases hi3 : Nat.beq (am_nth aux 0) 1002 with
            | true =>
              simp only [hi3, Bool.and_eq_true, am_wd, decide_eq_true_eq] at h hok
              match st, h with
              | .inl b :: .inl a :: r, h =>
                replace h := am_if_of h
                obtain ⟨hc, h1, h⟩ := h
                exact so_mmax cx hd hok.1 hok.2.1 hok.2.2.1 hok.2.2.2 (by omega) (by omega) (Nat.le_of_ble_eq_true hc) h1.1 h1.2 (fun q => nx hB (h.1 q)) (fun q => nx hB (h.2 q))
            | false =>
              simp only [hi3] at h hok
              cases hi4 : Nat.beq (am_nth aux 0) 1003 with
              | true =>
                simp only [hi4, Bool.and_eq_true, am_wd, decide_eq_true_eq] at h hok
                match st, h with
                | .inl b :: .inl a :: r, h =>
                  replace h := am_if_of h
                  obtain ⟨hc, h1, h⟩ := h
                  exact so_mmin cx hd hok.1 hok.2.1 hok.2.2.1 hok.2.2.2 (by omega) (by omega) (Nat.le_of_ble_eq_true hc) h1.1 h1.2 (fun q => nx hB (h.1 q)) (fun q => nx hB (h.2 q))
              | false =>
                simp only [hi4, Bool.and_eq_true, am_wd, decide_eq_true_eq] at h hok
                match st, h with
                | .inr (.inl b) :: .inr (.inl a) :: r, h =>
                  replace h := am_if_of h
                  obtain ⟨hc, h1, h⟩ := h
                  exact so_floorMod cx hd hok.1 hok.2.1 hok.2.2.1 hok.2.2.2 (by omega) (by omega) (Nat.le_of_ble_eq_true hc) h1.1 h1.2.1 h1.2.2 (nx hB h)
          | false =>
            simp only [hi2] at h hok
            replace h := am_if_of h
            obtain ⟨hln, h⟩ := h
            replace h := am_if_of h
            obtain ⟨hc, h⟩ := h
            replace h := am_room_of h hB
            obtain ⟨h1, h⟩ := h
            exact so_callS cx hd hok (Nat.le_of_ble_eq_true hln) (Nat.le_of_ble_eq_true hc) h1 hfr hlo h (fun v V' R' T' q => nx h1 q)
      | invokevirtual x0 =>
        have hl : len = 3 := Nat.eq_of_beq_eq_true hlen
        subst hl
        replace h : am_if (am_isr (am_nth aux 10) (st.drop (am_nth aux 1 - 1))) (am_if (Nat.ble (am_cats (st.drop (am_nth aux 1))) 8) (am_room (am_nth aux 3) (am_nth aux 4) cc cs (am_X.Rm X).cells (am_X.Rm X).slots (am_Calls (am_X.g X) d (am_nth aux 0) (st.take (am_nth aux 1)).reverse V R T (fun q V R T => am_wp C rb (am_X.Rm X).cells (am_X.Rm X).slots (am_Calls (am_X.g X) d) Qc Qr fu cd ls (am_push q (st.drop (am_nth aux 1))) V R T (cc + am_nth aux 3) (cs + am_nth aux 4))))) := h
        replace h := am_if_of h
        obtain ⟨hr, h⟩ := h
        replace h := am_if_of h
        obtain ⟨hc, h⟩ := h
        replace h := am_room_of h hB
        obtain ⟨h1, h⟩ := h
        exact so_callV cx hd hok hr (Nat.le_of_ble_eq_true hc) h1 hfr hlo h (fun v V' R' T' q => nx h1 q)
      | ior => exact False.elim h
      | irem =>
        have hl : len = 1 := Nat.eq_of_beq_eq_true hlen
        subst hl
        replace h : am_pi st (fun b r => am_pi r (fun a r => ((0 ≤ a ∧ a ≤ 2147483647) ∧ (0 < b ∧ b ≤ 2147483647)) ∧ am_wp C rb (am_X.Rm X).cells (am_X.Rm X).slots (am_Calls (am_X.g X) d) Qc Qr fu cd ls (.inl (a % b) :: r) V R T cc cs)) := h
        replace h := am_pi_of h
        obtain ⟨b, r, rfl, h⟩ := h
        replace h := am_pi_of h
        obtain ⟨a, r, rfl, h⟩ := h
        exact so_irem cx h.1.1 h.1.2 hd (nx hB h.2)
      | ireturn =>
        have hl : len = 1 := Nat.eq_of_beq_eq_true hlen
        subst hl
        replace h : (match (generalizing := false) st with
                | [.inl a] => (match (generalizing := false) rb with
                  | true => (a = 0 ∨ a = 1) ∧ Qr (some (.inl a)) V R T
                  | false => Qr (some (.inl a)) V R T)
                | _ => False) := h
        match st, h with
        | [.inl a], h =>
          have hok := of_decide_eq_true hok
          cases rb with
          | true => exact hI _ _ _ _ _ _ _ _ hd hok (fun _ => h.1) h.2
          | false => exact hI _ _ _ _ _ _ _ _ hd hok (fun q => by cases q) h
      | ishl => exact False.elim h
      | ishr => exact False.elim h
      | istore i =>
        have hl : len = 2 := Nat.eq_of_beq_eq_true hlen
        subst hl
        replace h : am_pi st (fun b r => am_wp C rb (am_X.Rm X).cells (am_X.Rm X).slots (am_Calls (am_X.g X) d) Qc Qr fu cd (am_st1 ls i (.inl b)) r V R T cc cs) := h
        replace h := am_pi_of h
        obtain ⟨b, r, rfl, h⟩ := h
        exact so_istore cx (Nat.le_of_ble_eq_true hok) hd (nx hB h)
      | istore_n i =>
        have hl : len = 1 := Nat.eq_of_beq_eq_true hlen
        subst hl
        replace h : am_pi st (fun b r => am_wp C rb (am_X.Rm X).cells (am_X.Rm X).slots (am_Calls (am_X.g X) d) Qc Qr fu cd (am_st1 ls i.val (.inl b)) r V R T cc cs) := h
        replace h := am_pi_of h
        obtain ⟨b, r, rfl, h⟩ := h
        exact so_istore_n cx (Nat.le_of_ble_eq_true hok) hd (nx hB h)
      | isub =>
        have hl : len = 1 := Nat.eq_of_beq_eq_true hlen
        subst hl
        replace h : am_pi st (fun b r => am_pi r (fun a r => am_wp C rb (am_X.Rm X).cells (am_X.Rm X).slots (am_Calls (am_X.g X) d) Qc Qr fu cd ls (.inl (a - b) :: r) V R T cc cs)) := h
        replace h := am_pi_of h
        obtain ⟨b, r, rfl, h⟩ := h
        replace h := am_pi_of h
        obtain ⟨a, r, rfl, h⟩ := h
        exact so_isub cx hd (nx hB h)
      | iushr => exact False.elim h
      | ixor => exact False.elim h
      | jsr x0 => exact False.elim h
      | jsr_w x0 => exact False.elim h
      | l2d => exact False.elim h
      | l2f => exact False.elim h
      | l2i =>
        have hl : len = 1 := Nat.eq_of_beq_eq_true hlen
        subst hl
        replace h : am_pl st (fun a r => am_wp C rb (am_X.Rm X).cells (am_X.Rm X).slots (am_Calls (am_X.g X) d) Qc Qr fu cd ls (.inl (Int.bmod a 4294967296) :: r) V R T cc cs) := h
        replace h := am_pl_of h
        obtain ⟨a, r, rfl, h⟩ := h
        exact so_l2i cx hd (nx hB h)
      | ladd =>
        have hl : len = 1 := Nat.eq_of_beq_eq_true hlen
        subst hl
        replace h : am_pl st (fun b r => am_pl r (fun a r => am_wp C rb (am_X.Rm X).cells (am_X.Rm X).slots (am_Calls (am_X.g X) d) Qc Qr fu cd ls (.inr (.inl (a + b)) :: r) V R T cc cs)) := h
        replace h := am_pl_of h
        obtain ⟨b, r, rfl, h⟩ := h
        replace h := am_pl_of h
        obtain ⟨a, r, rfl, h⟩ := h
        exact so_ladd cx hd (nx hB h)
      | laload =>
        have hl : len = 1 := Nat.eq_of_beq_eq_true hlen
        subst hl
        replace h : am_pi st (fun i r => am_pr r (fun b r => am_ix 1 3 V b i (fun a j => am_wp C rb (am_X.Rm X).cells (am_X.Rm X).slots (am_Calls (am_X.g X) d) Qc Qr fu cd ls (.inr (.inl (V a j)) :: r) V R T cc cs))) := h
        replace h := am_pi_of h
        obtain ⟨i, r, rfl, h⟩ := h
        replace h := am_pr_of h
        obtain ⟨b, r, rfl, h⟩ := h
        exact so_laload cx hd h (fun a j q => nx hB q)
      | land =>
        have hl : len = 1 := Nat.eq_of_beq_eq_true hlen
        subst hl
        replace h : am_pl st (fun b r => am_pl r (fun a r => b = 4294967295 ∧ am_wp C rb (am_X.Rm X).cells (am_X.Rm X).slots (am_Calls (am_X.g X) d) Qc Qr fu cd ls (.inr (.inl (a % 4294967296)) :: r) V R T cc cs)) := h
        replace h := am_pl_of h
        obtain ⟨b, r, rfl, h⟩ := h
        replace h := am_pl_of h
        obtain ⟨a, r, rfl, h⟩ := h
        obtain ⟨rfl, h⟩ := h
        exact so_land cx hd (nx hB h)
      | lastore =>
        have hl : len = 1 := Nat.eq_of_beq_eq_true hlen
        subst hl
        replace h : am_pl st (fun x r => am_pi r (fun i r => am_pr r (fun b r => am_ix 1 3 V b i (fun a j => am_wp C rb (am_X.Rm X).cells (am_X.Rm X).slots (am_Calls (am_X.g X) d) Qc Qr fu cd ls r (am_up V a j x) R T cc cs)))) := h
        replace h := am_pl_of h
        obtain ⟨x, r, rfl, h⟩ := h
        replace h := am_pi_of h
        obtain ⟨i, r, rfl, h⟩ := h
        replace h := am_pr_of h
        obtain ⟨b, r, rfl, h⟩ := h
        exact so_lastore cx hd h (fun a j q => nx hB q)
      | lcmp =>
        have hl : len = 1 := Nat.eq_of_beq_eq_true hlen
        subst hl
        replace h : (match (generalizing := false) cd with
                | (_, _, .ifCond c _, _, _, aux2) :: cd2 => am_pl st (fun b r => am_pl r (fun a r => (am_in64 a ∧ am_in64 b) ∧ am_br c a b (am_wp C rb (am_X.Rm X).cells (am_X.Rm X).slots (am_Calls (am_X.g X) d) Qc Qr fu (am_at C (am_nth aux2 0)) ls r V R T cc cs) (am_wp C rb (am_X.Rm X).cells (am_X.Rm X).slots (am_Calls (am_X.g X) d) Qc Qr fu cd2 ls r V R T cc cs)))
                | _ => False) := h
        clear nx
        have h9 := h
        clear h
        match cd, hg, h9 with
        | (fl2, pc2, .ifCond c2 v2, len2, z2, aux2) :: cd2, hg, h =>
          clear h9
          have hg2 := hg.tail
          have e1 : pc + 1 = pc2 := hg.next
          have hq2 := hg2.1 _ List.mem_cons_self
          unfold am_ok1 at hq2
          simp only [Bool.and_eq_true, decide_eq_true_eq] at hq2
          obtain ⟨hd2, hlen2, hok2⟩ := hq2
          have hl2 : len2 = 3 := Nat.eq_of_beq_eq_true hlen2
          subst hl2
          replace h := am_pl_of h
          obtain ⟨b, r, rfl, h⟩ := h
          replace h := am_pl_of h
          obtain ⟨a, r, rfl, h⟩ := h
          have hok2 : ((pc2 : Nat) : Int) + v2 = (am_nth aux2 0 : Int) := of_decide_eq_true hok2
          refine so_lcmp cx h.1.1 h.1.2 (by rw [e1]; exact hok2) hd (by rw [e1]; exact hd2) (am_br_mono h.2 (jm _ hB) (fun h => ?_))
          cases cd2 with
          | nil => cases fu <;> exact False.elim h
          | cons q l =>
            have e : pc2 + 3 = q.2.1 := hg2.next
            rw [e1, e]
            exact ih (q :: l) _ _ _ _ _ _ _ hg2.tail hB h
      | lconst x0 =>
        have hl : len = 1 := Nat.eq_of_beq_eq_true hlen
        subst hl
        replace h : am_wp C rb (am_X.Rm X).cells (am_X.Rm X).slots (am_Calls (am_X.g X) d) Qc Qr fu cd ls (.inr (.inl z) :: st) V R T cc cs := h
        have hz := of_decide_eq_true hok
        rw [hz] at h
        exact so_lconst cx hd (nx hB h)
      | ldc x0 =>
        have hl : len = 2 := Nat.eq_of_beq_eq_true hlen
        subst hl
        replace h : am_wp C rb (am_X.Rm X).cells (am_X.Rm X).slots (am_Calls (am_X.g X) d) Qc Qr fu cd ls (.inl z :: st) V R T cc cs := h
        exact so_ldc cx (of_decide_eq_true hok) hd (nx hB h)
      | ldc_w x0 =>
        have hl : len = 3 := Nat.eq_of_beq_eq_true hlen
        subst hl
        replace h : am_wp C rb (am_X.Rm X).cells (am_X.Rm X).slots (am_Calls (am_X.g X) d) Qc Qr fu cd ls (.inl z :: st) V R T cc cs := h
        exact so_ldc_w cx (of_decide_eq_true hok) hd (nx hB h)
      | ldc2_w x0 =>
        have hl : len = 3 := Nat.eq_of_beq_eq_true hlen
        subst hl
        replace h : am_wp C rb (am_X.Rm X).cells (am_X.Rm X).slots (am_Calls (am_X.g X) d) Qc Qr fu cd ls (.inr (.inl z) :: st) V R T cc cs := h
        exact so_ldc2_w cx (of_decide_eq_true hok) hd (nx hB h)
      | ldiv =>
        have hl : len = 1 := Nat.eq_of_beq_eq_true hlen
        subst hl
        replace h : am_pl st (fun b r => am_pl r (fun a r => ((0 ≤ a ∧ a ≤ 9223372036854775807) ∧ (0 < b ∧ b ≤ 9223372036854775807)) ∧ am_wp C rb (am_X.Rm X).cells (am_X.Rm X).slots (am_Calls (am_X.g X) d) Qc Qr fu cd ls (.inr (.inl (a / b)) :: r) V R T cc cs)) := h
        replace h := am_pl_of h
        obtain ⟨b, r, rfl, h⟩ := h
        replace h := am_pl_of h
        obtain ⟨a, r, rfl, h⟩ := h
        exact so_ldiv cx h.1.1 h.1.2 hd (nx hB h.2)
      | lload i =>
        have hl : len = 2 := Nat.eq_of_beq_eq_true hlen
        subst hl
        replace h : am_ldl ls i (fun v => am_wp C rb (am_X.Rm X).cells (am_X.Rm X).slots (am_Calls (am_X.g X) d) Qc Qr fu cd ls (v :: st) V R T cc cs) := h
        replace h := am_ldl_of h
        obtain ⟨y, hv, h⟩ := h
        exact so_lload cx hv hd (nx hB h)
      | lload_n i =>
        have hl : len = 1 := Nat.eq_of_beq_eq_true hlen
        subst hl
        replace h : am_ldl ls i.val (fun v => am_wp C rb (am_X.Rm X).cells (am_X.Rm X).slots (am_Calls (am_X.g X) d) Qc Qr fu cd ls (v :: st) V R T cc cs) := h
        replace h := am_ldl_of h
        obtain ⟨y, hv, h⟩ := h
        exact so_lload_n cx hv hd (nx hB h)
      | lmul =>
        have hl : len = 1 := Nat.eq_of_beq_eq_true hlen
        subst hl
        replace h : am_pl st (fun b r => am_pl r (fun a r => am_wp C rb (am_X.Rm X).cells (am_X.Rm X).slots (am_Calls (am_X.g X) d) Qc Qr fu cd ls (.inr (.inl (a * b)) :: r) V R T cc cs)) := h
        replace h := am_pl_of h
        obtain ⟨b, r, rfl, h⟩ := h
        replace h := am_pl_of h
        obtain ⟨a, r, rfl, h⟩ := h
        exact so_lmul cx hd (nx hB h)
      | lneg => exact False.elim h
      | lookupswitch x0 x1 => exact False.elim h
      | lor =>
        have hl : len = 1 := Nat.eq_of_beq_eq_true hlen
        subst hl
        replace h : am_pl st (fun b r => am_pl r (fun a r => (a % 4294967296 = 0 ∧ (0 ≤ b ∧ b < 4294967296)) ∧ am_wp C rb (am_X.Rm X).cells (am_X.Rm X).slots (am_Calls (am_X.g X) d) Qc Qr fu cd ls (.inr (.inl (a + b)) :: r) V R T cc cs)) := h
        replace h := am_pl_of h
        obtain ⟨b, r, rfl, h⟩ := h
        replace h := am_pl_of h
        obtain ⟨a, r, rfl, h⟩ := h
        exact so_lor cx h.1.1 h.1.2 hd (nx hB h.2)
      | lrem =>
        have hl : len = 1 := Nat.eq_of_beq_eq_true hlen
        subst hl
        replace h : am_pl st (fun b r => am_pl r (fun a r => (am_in64 a ∧ (0 < b ∧ b ≤ 9223372036854775807)) ∧ am_wp C rb (am_X.Rm X).cells (am_X.Rm X).slots (am_Calls (am_X.g X) d) Qc Qr fu cd ls (.inr (.inl (Int.tmod a b)) :: r) V R T cc cs)) := h
        replace h := am_pl_of h
        obtain ⟨b, r, rfl, h⟩ := h
        replace h := am_pl_of h
        obtain ⟨a, r, rfl, h⟩ := h
        exact so_lrem cx h.1.1 h.1.2 hd (nx hB h.2)
      | lreturn =>
        have hl : len = 1 := Nat.eq_of_beq_eq_true hlen
        subst hl
        replace h : (match (generalizing := false) st with
                | [.inr (.inl a)] => Qr (some (.inr (.inl a))) V R T
                | _ => False) := h
        match st, h with
        | [.inr (.inl a)], h => exact hJ _ _ _ _ _ _ _ _ hd (of_decide_eq_true hok) h
      | lshl =>
        have hl : len = 1 := Nat.eq_of_beq_eq_true hlen
        subst hl
        replace h : am_pi st (fun b r => am_pl r (fun a r => b = 32 ∧ am_wp C rb (am_X.Rm X).cells (am_X.Rm X).slots (am_Calls (am_X.g X) d) Qc Qr fu cd ls (.inr (.inl (a * 4294967296)) :: r) V R T cc cs)) := h
        replace h := am_pi_of h
        obtain ⟨b, r, rfl, h⟩ := h
        replace h := am_pl_of h
        obtain ⟨a, r, rfl, h⟩ := h
        obtain ⟨rfl, h⟩ := h
        exact so_lshl cx hd (nx hB h)
      | lshr => exact False.elim h
      | lstore i =>
        have hl : len = 2 := Nat.eq_of_beq_eq_true hlen
        subst hl
        replace h : am_pl st (fun b r => am_wp C rb (am_X.Rm X).cells (am_X.Rm X).slots (am_Calls (am_X.g X) d) Qc Qr fu cd (am_st2 ls i (.inr (.inl b))) r V R T cc cs) := h
        replace h := am_pl_of h
        obtain ⟨b, r, rfl, h⟩ := h
        exact so_lstore cx (Nat.le_of_ble_eq_true hok) hd (nx hB h)
      | lstore_n i =>
        have hl : len = 1 := Nat.eq_of_beq_eq_true hlen
        subst hl
        replace h : am_pl st (fun b r => am_wp C rb (am_X.Rm X).cells (am_X.Rm X).slots (am_Calls (am_X.g X) d) Qc Qr fu cd (am_st2 ls i.val (.inr (.inl b))) r V R T cc cs) := h
        replace h := am_pl_of h
        obtain ⟨b, r, rfl, h⟩ := h
        exact so_lstore_n cx (Nat.le_of_ble_eq_true hok) hd (nx hB h)
      | lsub =>
        have hl : len = 1 := Nat.eq_of_beq_eq_true hlen
        subst hl
        replace h : am_pl st (fun b r => am_pl r (fun a r => am_wp C rb (am_X.Rm X).cells (am_X.Rm X).slots (am_Calls (am_X.g X) d) Qc Qr fu cd ls (.inr (.inl (a - b)) :: r) V R T cc cs)) := h
        replace h := am_pl_of h
        obtain ⟨b, r, rfl, h⟩ := h
        replace h := am_pl_of h
        obtain ⟨a, r, rfl, h⟩ := h
        exact so_lsub cx hd (nx hB h)
      | lushr => exact False.elim h
      | lxor =>
        have hl : len = 1 := Nat.eq_of_beq_eq_true hlen
        subst hl
        replace h : am_pl st (fun b r => am_pl r (fun a r => (am_in64 a ∧ am_in64 b) ∧ (∀ x : Int, am_in64 x → (x < 0 ↔ ((a < 0 ∧ 0 ≤ b) ∨ (0 ≤ a ∧ b < 0))) → am_wp C rb (am_X.Rm X).cells (am_X.Rm X).slots (am_Calls (am_X.g X) d) Qc Qr fu cd ls (.inr (.inl x) :: r) V R T cc cs))) := h
        replace h := am_pl_of h
        obtain ⟨b, r, rfl, h⟩ := h
        replace h := am_pl_of h
        obtain ⟨a, r, rfl, h⟩ := h
        exact so_lxor cx h.1.1 h.1.2 hd (fun x q1 q2 => nx hB (h.2 x q1 q2))
      | monitorenter => exact False.elim h
      | monitorexit => exact False.elim h
      | multianewarray x0 x1 =>
        have hl : len = 4 := Nat.eq_of_beq_eq_true hlen
        subst hl
        replace h : am_pi st (fun w r => am_pi r (fun i r => (match (generalizing := false) am_lay T with
                | (kd, m, y, _) => am_if (Nat.beq kd (4 - am_nth aux 0) && (decide (i = (m : Int)) && decide (w = (y : Int)))) ((cc + (1 + m) ≤ (am_X.Rm X).cells ∧ cs + (m + m * y) ≤ (am_X.Rm X).slots) ∧ am_wp C rb (am_X.Rm X).cells (am_X.Rm X).slots (am_Calls (am_X.g X) d) Qc Qr fu cd ls (.inr (.inr (some (.inl T))) :: r) (am_zero V T) (am_zeroRn R T (1 + m)) (T + (1 + m)) (cc + (1 + m)) (cs + (m + m * y)))))) := h
        replace h := am_pi_of h
        obtain ⟨w, r, rfl, h⟩ := h
        replace h := am_pi_of h
        obtain ⟨i, r, rfl, h⟩ := h
        replace hok : (Nat.beq x1 2 && ((Nat.beq (am_nth aux 0) 1 && (am_wd (am_nth aux 1) (.classLink (am_X.own X) x0 ("[" ++ (FieldType.array .long).toString)) && am_wd (am_nth aux 2) (.arrayClass .long))) || (Nat.beq (am_nth aux 0) 0 && (am_wd (am_nth aux 1) (.classLink (am_X.own X) x0 ("[" ++ (FieldType.array .int).toString)) && am_wd (am_nth aux 2) (.arrayClass .int))))) = true := hok
        rw [Bool.and_eq_true, Bool.or_eq_true, Bool.and_eq_true, Bool.and_eq_true, Bool.and_eq_true, Bool.and_eq_true] at hok
        obtain ⟨hdim, hM⟩ := hok
        have hdim := Nat.eq_of_beq_eq_true hdim
        subst hdim
        obtain ⟨⟨kd, n9, w9, y9⟩, hl⟩ : ∃ z9, am_lay T = z9 := ⟨_, rfl⟩
        simp only [hl] at h
        replace h := am_if_of h
        obtain ⟨hk, h1, h⟩ := h
        simp only [Bool.and_eq_true, decide_eq_true_eq] at hk
        obtain ⟨hk, hi, hw⟩ := hk
        have hk := Nat.eq_of_beq_eq_true hk
        subst hi
        subst hw
        rcases hM with ⟨q1, q2, q3⟩ | ⟨q1, q2, q3⟩
        · have q1 := Nat.eq_of_beq_eq_true q1
          exact so_multi (ty := .long) cx hd hl (Or.inl ⟨by rw [hk, q1], rfl⟩) (of_decide_eq_true q2) (of_decide_eq_true q3) h1 (nx h1 h)
        · have q1 := Nat.eq_of_beq_eq_true q1
          exact so_multi (ty := .int) cx hd hl (Or.inr ⟨by rw [hk, q1], rfl⟩) (of_decide_eq_true q2) (of_decide_eq_true q3) h1 (nx h1 h)
      | new x0 =>
        have hl : len = 3 := Nat.eq_of_beq_eq_true hlen
        subst hl
        replace h : (match (generalizing := false) am_lay T with
                | (kd, m, _, _) => am_if (Nat.beq kd (10 + am_nth aux 0)) ((cc + 1 ≤ (am_X.Rm X).cells ∧ cs + m ≤ (am_X.Rm X).slots) ∧ am_wp C rb (am_X.Rm X).cells (am_X.Rm X).slots (am_Calls (am_X.g X) d) Qc Qr fu cd ls (.inr (.inr (some (.inl T))) :: st) (am_zero V T) (am_zeroR R T) (T + 1) (cc + 1) (cs + m))) := h
        simp only [am_ok2, Bool.and_eq_true, am_wd, decide_eq_true_eq] at hok
        obtain ⟨⟨kd, n9, w9, y9⟩, hl⟩ : ∃ z9, am_lay T = z9 := ⟨_, rfl⟩
        simp only [hl] at h
        replace h := am_if_of h
        obtain ⟨hk, h1, h⟩ := h
        have hk := Nat.eq_of_beq_eq_true hk
        subst hk
        exact so_new cx hd hl hok.1 hok.2.1 hok.2.2 h1 (nx h1 h)
      | newarray x0 =>
        have hl : len = 2 := Nat.eq_of_beq_eq_true hlen
        subst hl
        replace h : am_pi st (fun i r => (match (generalizing := false) am_lay T with
                | (kd, m, _, _) => am_if (Nat.beq kd (am_nth aux 0) && decide (i = (m : Int))) ((cc + 1 ≤ (am_X.Rm X).cells ∧ cs + m ≤ (am_X.Rm X).slots) ∧ am_wp C rb (am_X.Rm X).cells (am_X.Rm X).slots (am_Calls (am_X.g X) d) Qc Qr fu cd ls (.inr (.inr (some (.inl T))) :: r) (am_zero V T) (am_zeroR R T) (T + 1) (cc + 1) (cs + m)))) := h
        replace h := am_pi_of h
        obtain ⟨i, r, rfl, h⟩ := h
        simp only [am_ok2, Bool.and_eq_true, Bool.or_eq_true, am_wd, decide_eq_true_eq] at hok
        obtain ⟨⟨kd, n9, w9, y9⟩, hl⟩ : ∃ z9, am_lay T = z9 := ⟨_, rfl⟩
        simp only [hl] at h
        replace h := am_if_of h
        obtain ⟨hk, h1, h⟩ := h
        simp only [Bool.and_eq_true, decide_eq_true_eq] at hk
        obtain ⟨hk, hi⟩ := hk
        have hk := Nat.eq_of_beq_eq_true hk
        subst hi
        refine so_newarray cx hd hl ?_ hok.2 h1 (nx h1 h)
        rcases hok.1 with (⟨q1, q2⟩ | ⟨q1, q2⟩) | ⟨q1, q2⟩
        · exact Or.inl ⟨hk.trans (Nat.eq_of_beq_eq_true q1), q2⟩
        · exact Or.inr (Or.inl ⟨hk.trans (Nat.eq_of_beq_eq_true q1), q2⟩)
        · exact Or.inr (Or.inr ⟨hk.trans (Nat.eq_of_beq_eq_true q1), q2⟩)
      | nop => exact False.elim h
      | pop =>
        have hl : len = 1 := Nat.eq_of_beq_eq_true hlen
        subst hl
        replace h : (match (generalizing := false) st with
                | .inr (.inl _) :: _ => False
                | _ :: r => am_wp C rb (am_X.Rm X).cells (am_X.Rm X).slots (am_Calls (am_X.g X) d) Qc Qr fu cd ls r V R T cc cs
                | [] => False) := h
        match st, h with
        | .inl v :: r, h => exact so_pop cx (fun y q => by cases q) hd (nx hB h)
        | .inr (.inr v) :: r, h => exact so_pop cx (fun y q => by cases q) hd (nx hB h)
      | pop2 => exact False.elim h
      | putfield x0 =>
        have hl : len = 3 := Nat.eq_of_beq_eq_true hlen
        subst hl
        replace h : (match (generalizing := false) am_nth aux 1 with
                | 0 => am_pi st (fun x r => am_pr r (fun b r => (match (generalizing := false) b with
                  | some (.inl o) => am_if (Nat.beq (am_lay o).1 (10 + am_nth aux 2)) (am_wp C rb (am_X.Rm X).cells (am_X.Rm X).slots (am_Calls (am_X.g X) d) Qc Qr fu cd ls r (am_up V o z x) R T cc cs)
                  | _ => False)))
                | 1 => am_pl st (fun x r => am_pr r (fun b r => (match (generalizing := false) b with
                  | some (.inl o) => am_if (Nat.beq (am_lay o).1 (10 + am_nth aux 2)) (am_wp C rb (am_X.Rm X).cells (am_X.Rm X).slots (am_Calls (am_X.g X) d) Qc Qr fu cd ls r (am_up V o z x) R T cc cs)
                  | _ => False)))
                | 2 => am_pi st (fun x r => am_pr r (fun b r => (match (generalizing := false) b with
                  | some (.inl o) => am_if (Nat.beq (am_lay o).1 (10 + am_nth aux 2)) ((x = 0 ∨ x = 1) ∧ am_wp C rb (am_X.Rm X).cells (am_X.Rm X).slots (am_Calls (am_X.g X) d) Qc Qr fu cd ls r (am_up V o z x) R T cc cs)
                  | _ => False)))
                | _ => am_pr st (fun x r => am_pr r (fun b r => (match (generalizing := false) b, x with
                  | some (.inl o), some (.inl q) => am_if (Nat.beq (am_lay o).1 (10 + am_nth aux 2)) (am_if (am_fits (am_nth aux 2) (am_nth aux 0) (am_lay q).1) (am_wp C rb (am_X.Rm X).cells (am_X.Rm X).slots (am_Calls (am_X.g X) d) Qc Qr fu cd ls r V (am_upR R o z (some q)) T cc cs))
                  | _, _ => False)))) := h
        simp only [am_ok2, Bool.and_eq_true, am_wd, decide_eq_true_eq] at hok
        obtain ⟨kz, k1, k2, k3, k4⟩ := hok
        subst kz
        have k1 : am_nth aux 0 < am_NN (am_nth aux 2) := Nat.le_of_ble_eq_true k1
        have k2 := Nat.eq_of_beq_eq_true k2
        have hfin : (am_TT (am_nth aux 2) (am_nth aux 0)).2.2.2 = false ∨ ((am_TT (am_nth aux 2) (am_nth aux 0)).2.2.2 = true ∧ (am_X.meth X).name = "<init>" ∧ (am_TT (am_nth aux 2) (am_nth aux 0)).1 = am_X.own X) := by
          cases hf : (am_TT (am_nth aux 2) (am_nth aux 0)).2.2.2 with
          | false => exact Or.inl rfl
          | true =>
            rw [hf] at k4
            simp only [Bool.not_true, Bool.false_or, Bool.and_eq_true, decide_eq_true_eq] at k4
            exact Or.inr ⟨rfl, hinit k4.1, k4.2⟩
        revert h
        match hty : am_nth aux 1 with
        | 0 =>
          intro h
          replace h := am_pi_of h
          obtain ⟨x, r, rfl, h⟩ := h
          replace h := am_pr_of h
          obtain ⟨b, r, rfl, h⟩ := h
          match b, h with
          | some (.inl o), h =>
            replace h := am_if_of h
            obtain ⟨hl, h⟩ := h
            have hl := Nat.eq_of_beq_eq_true hl
            exact so_put (v := .inl x) (V' := am_up V o (am_nth aux 0) x) (R' := R) cx hd hl k1 k3 hfin (by rw [am_fk0 (k2.trans hty)]; rfl) (by rw [am_fk0 (k2.trans hty)]; rfl) (fun y hy => am_up_ne hy) (fun _ _ => rfl) (by unfold am_fv; rw [k2, hty, am_up_at, if_pos rfl]; rfl) (fun j hj => by unfold am_fv; rw [am_up_at, if_neg (by omega)]) (fun _ h => h) (nx hB h)
        | 1 =>
          intro h
          replace h := am_pl_of h
          obtain ⟨x, r, rfl, h⟩ := h
          replace h := am_pr_of h
          obtain ⟨b, r, rfl, h⟩ := h
          match b, h with
          | some (.inl o), h =>
            replace h := am_if_of h
            obtain ⟨hl, h⟩ := h
            have hl := Nat.eq_of_beq_eq_true hl
            exact so_put (v := .inr (.inl x)) (V' := am_up V o (am_nth aux 0) x) (R' := R) cx hd hl k1 k3 hfin (by rw [am_fk1 (k2.trans hty)]; rfl) (by rw [am_fk1 (k2.trans hty)]; rfl) (fun y hy => am_up_ne hy) (fun _ _ => rfl) (by unfold am_fv; rw [k2, hty, am_up_at, if_pos rfl]; rfl) (fun j hj => by unfold am_fv; rw [am_up_at, if_neg (by omega)]) (fun _ h => h) (nx hB h)
        | 2 =>
          intro h
          replace h := am_pi_of h
          obtain ⟨x, r, rfl, h⟩ := h
          replace h := am_pr_of h
          obtain ⟨b, r, rfl, h⟩ := h
          match b, h with
          | some (.inl o), h =>
            replace h := am_if_of h
            obtain ⟨hl, h⟩ := h
            have hl := Nat.eq_of_beq_eq_true hl
            obtain ⟨hx01, h⟩ := h
            exact so_put (v := .inl x) (V' := am_up V o (am_nth aux 0) x) (R' := R) cx hd hl k1 k3 hfin (by rw [am_fk2 (k2.trans hty)]; rcases hx01 with rfl | rfl <;> rfl) (by rw [am_fk2 (k2.trans hty)]; rcases hx01 with rfl | rfl <;> rfl) (fun y hy => am_up_ne hy) (fun _ _ => rfl) (by unfold am_fv; rw [k2, hty, am_up_at, if_pos rfl]; rfl) (fun j hj => by unfold am_fv; rw [am_up_at, if_neg (by omega)]) (fun _ h => h) (nx hB h)
        | y + 3 =>
          intro h
          replace h := am_pr_of h
          obtain ⟨x, r, rfl, h⟩ := h
          replace h := am_pr_of h
          obtain ⟨b, r, rfl, h⟩ := h
          match b, x, h with
          | some (.inl o), some (.inl q), h =>
            replace h := am_if_of h
            obtain ⟨hl, h⟩ := h
            replace h := am_if_of h
            obtain ⟨hft, h⟩ := h
            have hl := Nat.eq_of_beq_eq_true hl
            have hc6 : am_nth aux 2 < 6 := by
              obtain ⟨⟨kd, n9, w9, y9⟩, hq9⟩ : ∃ z9, am_lay o = z9 := ⟨_, rfl⟩
              rw [hq9] at hl
              have hl : kd = 10 + am_nth aux 2 := hl
              subst hl
              exact (am_obj hq9).1
            have hle : am_fk (am_nth aux 2) (am_nth aux 0) ≤ 3 := by
              have := List.all_eq_true.mp (List.all_eq_true.mp am_fkle _ (List.mem_range.mpr hc6)) _ (List.mem_range.mpr k1)
              exact of_decide_eq_true this
            have h3 : am_fk (am_nth aux 2) (am_nth aux 0) = 3 := by omega
            exact so_put (v := .inr (.inr (some (.inl q)))) (V' := V) (R' := am_upR R o (am_nth aux 0) (some q)) cx hd hl k1 k3 hfin (am_fk3 h3 _).1 (am_fk3 h3 _).2 (fun _ _ => rfl) (fun y hy => am_upR_ne hy) (by unfold am_fv; rw [h3, am_upR_at, if_pos rfl]; rfl) (fun j hj => by unfold am_fv; rw [am_upR_at, if_neg (by omega)]) (fun h1 h2 => am_okR_up h2 (fun b hb => by cases hb; exact h1)) (nx hB h)
      | putstatic x0 => exact False.elim h
      | ret x0 => exact False.elim h
      | return_ =>
        have hl : len = 1 := Nat.eq_of_beq_eq_true hlen
        subst hl
        replace h : (match (generalizing := false) st with
                | [] => Qr none V R T
                | _ => False) := h
        match st, h with
        | [], h => exact hU _ _ _ _ _ _ _ hd (of_decide_eq_true hok) h
      | saload => exact False.elim h
      | sastore => exact False.elim h
      | sipush x =>
        have hl : len = 3 := Nat.eq_of_beq_eq_true hlen
        subst hl
        replace h : am_wp C rb (am_X.Rm X).cells (am_X.Rm X).slots (am_Calls (am_X.g X) d) Qc Qr fu cd ls (.inl x :: st) V R T cc cs := h
        exact so_sipush cx (of_decide_eq_true hok) hd (nx hB h)
      | swap => exact False.elim h
      | tableswitch x0 x1 x2 x3 =>
        replace h : am_pi st (fun a r => am_in32 a ∧ am_sw (aux.drop 1) a z (fun t => am_wp C rb (am_X.Rm X).cells (am_X.Rm X).slots (am_Calls (am_X.g X) d) Qc Qr fu (am_at C t) ls r V R T cc cs) (am_nth aux 0)) := h
        replace h := am_pi_of h
        obtain ⟨a, r, rfl, h⟩ := h
        simp only [am_ok2, Bool.and_eq_true, decide_eq_true_eq] at hok
        obtain ⟨k1, k2, k3, k4⟩ := hok
        subst k1
        exact so_tableswitch cx h.1 hd k2 k3 k4 h.2 (fun t q => jm t hB q)
