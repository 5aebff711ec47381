/-! arrays: reading, writing -/
theorem am_fld {n k : Nat} {f : Nat → Value} (h : k < n) : ((List.range n).map f)[k]? = some (f k) := by
  rw [List.getElem?_map, List.getElem?_range h]
  rfl
theorem am_ad_lt {G : am_G} {V0 : am_V} {s : State} (hK : am_K G V0 s) : True := trivial
theorem so_iaload {X : am_X} (cx : am_cx X) {pc : Nat} {ls : am_L} {st : List AV} {V : am_V} {R : am_T} {T cc cs : Nat} {r : am_Ref} {i : Int} {k : Nat → Int → Prop} (hd : decode (am_X.bytes X) pc = .ok (.iaload, 1)) (h : am_ix 0 4 V r i k) (hk : ∀ a j, k a j → am_W X (pc + 1) ls (.inl (V a j) :: st) V R T cc cs) : am_W X pc ls (.inl i :: .inr (.inr r) :: st) V R T cc cs := by
  obtain ⟨p, e, Rm, s, m, args, below, meth, c, QQ, G, own, bytes, nL, Bc, Bs, V0, T0⟩ := X
  obtain ⟨hx, hb, hml, hown, hts, hK, hRc, hRs⟩ := cx
  intro la H locs hf
  have ho := hf.pop.ok _ List.mem_cons_self
  match r, h, ho with
  | none, h, _ => exact False.elim h
  | some (.inl a), h, ho =>
    simp only [am_ix] at h
    obtain ⟨⟨kd, n, w, x⟩, hl⟩ : ∃ q, am_lay a = q := ⟨_, rfl⟩
    rw [hl] at h
    obtain ⟨hkd, h⟩ := am_if_of h
    have hkd := Nat.eq_of_beq_eq_true hkd
    subst hkd
    have hn : n < 2 ^ 31 := by have := am_len31 a; rw [hl] at this; exact this
    match a, hl, h, ho with
    | 0, hl, h, ho =>
      obtain ⟨⟨h0, h1⟩, h2⟩ := h
      have eV := hf.oV 0 (by decide)
      rw [eV] at h1
      obtain ⟨hz0, hz1⟩ := hK.2.2.2.2.2.2.1
      refine va_ti (t := am_G.ex G 0) (N := (V0 0 (-1)).toNat) (f := fun j => .int (Int32.ofInt (V0 0 j))) (v := .int (Int32.ofInt (V 0 i))) hx hb hK.2.2.2.2.2.2.2.1 hf.oS (i32_in h0 (by omega) (by omega)) ?_ hd ?_
      · show Value.int (Int32.ofInt (V0 0 (((Int32.ofInt i).toNatClampNeg : Nat) : Int))) = _
        rw [i32_clamp h0 (by omega), eV, Int.toNat_of_nonneg h0]
      · exact hk 0 i h2 la H locs (hf.pop.pop.push trivial)
    | 1, hl, h, ho =>
      cases hl
      obtain ⟨⟨h0, h1⟩, h2⟩ := h
      have h1 : i < 11 := h1
      have eV := hf.oV 1 (by decide)
      refine va_ti (t := am_G.ex G 1) (N := 11) (f := fun j => .int (Int32.ofInt (V0 1 j))) (v := .int (Int32.ofInt (V 1 i))) hx hb hK.2.2.2.2.2.2.2.2.1 hf.oS (i32_in h0 h1 (by decide)) ?_ hd ?_
      · show Value.int (Int32.ofInt (V0 1 (((Int32.ofInt i).toNatClampNeg : Nat) : Int))) = _
        rw [i32_clamp h0 (by omega), eV, Int.toNat_of_nonneg h0]
      · exact hk 1 i h2 la H locs (hf.pop.pop.push trivial)
    | 2, hl, h, ho =>
      cases hl
      obtain ⟨⟨h0, h1⟩, h2⟩ := h
      have h1 : i < 11 := h1
      have eV := hf.oV 2 (by decide)
      refine va_ti (t := am_G.ex G 2) (N := 11) (f := fun j => .int (Int32.ofInt (V0 2 j))) (v := .int (Int32.ofInt (V 2 i))) hx hb hK.2.2.2.2.2.2.2.2.2 hf.oS (i32_in h0 h1 (by decide)) ?_ hd ?_
      · show Value.int (Int32.ofInt (V0 2 (((Int32.ofInt i).toNatClampNeg : Nat) : Int))) = _
        rw [i32_clamp h0 (by omega), eV, Int.toNat_of_nonneg h0]
      · exact hk 2 i h2 la H locs (hf.pop.pop.push trivial)
    | a + 3, hl, h, ho =>
      obtain ⟨⟨h0, h1⟩, h2⟩ := h
      have h1 : i < (n : Int) := h1
      have hat := am_ws_at (G := G) (V := V) (R := R) (T := T) (a := a + 3) (by omega) ho
      rw [am_e0 hl] at hat
      refine va_iald hx hb hK.1 hf.oP (a + 3 - 3) 0 hat rfl (i32_in h0 h1 hn) hd ?_
      rw [i32_clamp h0 (by omega), Int.toNat_of_nonneg h0]
      exact hk (a + 3) i h2 la H locs (hf.pop.pop.push trivial)
  | some (.inr (a, q)), h, ho =>
    simp only [am_ix] at h
    obtain ⟨⟨kd, n, w, x⟩, hl⟩ : ∃ q, am_lay a = q := ⟨_, rfl⟩
    rw [hl] at h
    obtain ⟨hkd, ⟨h0, h1⟩, h2⟩ := am_if_of h
    have h1 : i < (w : Int) := h1
    have hkd := Nat.eq_of_beq_eq_true hkd
    subst hkd
    obtain ⟨c1, c2, c3, c4⟩ := am_rowcell (G := G) ho
    obtain ⟨r1, r2⟩ := am_row4 ho hl
    have hat := am_ws_at (G := G) (V := V) (R := R) (T := T) c2 c3
    rw [am_e7 r1, ← c1] at hat
    have hq : (q.toNat : Int) = q := Int.toNat_of_nonneg ho.2.2.2.1
    refine va_iald hx hb hK.1 hf.oP (a + 1 + q.toNat - 3) 0 hat rfl (i32_in h0 h1 (by omega)) hd ?_
    rw [i32_clamp h0 (by omega), if_pos (by omega), Int.toNat_of_nonneg h0, hq]
    exact hk a (64 * q + i) h2 la H locs (hf.pop.pop.push trivial)
theorem so_laload {X : am_X} (cx : am_cx X) {pc : Nat} {ls : am_L} {st : List AV} {V : am_V} {R : am_T} {T cc cs : Nat} {r : am_Ref} {i : Int} {k : Nat → Int → Prop} (hd : decode (am_X.bytes X) pc = .ok (.laload, 1)) (h : am_ix 1 3 V r i k) (hk : ∀ a j, k a j → am_W X (pc + 1) ls (.inr (.inl (V a j)) :: st) V R T cc cs) : am_W X pc ls (.inl i :: .inr (.inr r) :: st) V R T cc cs := by
  obtain ⟨p, e, Rm, s, m, args, below, meth, c, QQ, G, own, bytes, nL, Bc, Bs, V0, T0⟩ := X
  obtain ⟨hx, hb, hml, hown, hts, hK, hRc, hRs⟩ := cx
  intro la H locs hf
  have ho := hf.pop.ok _ List.mem_cons_self
  match r, h, ho with
  | none, h, _ => exact False.elim h
  | some (.inl a), h, ho =>
    simp only [am_ix] at h
    obtain ⟨⟨kd, n, w, x⟩, hl⟩ : ∃ q, am_lay a = q := ⟨_, rfl⟩
    rw [hl] at h
    obtain ⟨hkd, h⟩ := am_if_of h
    have hkd := Nat.eq_of_beq_eq_true hkd
    subst hkd
    have hn : n < 2 ^ 31 := by have := am_len31 a; rw [hl] at this; exact this
    match a, hl, h, ho with
    | 0, hl, h, ho => cases hl
    | 1, hl, h, ho => cases hl
    | 2, hl, h, ho => cases hl
    | a + 3, hl, h, ho =>
      obtain ⟨⟨h0, h1⟩, h2⟩ := h
      have h1 : i < (n : Int) := h1
      have hat := am_ws_at (G := G) (V := V) (R := R) (T := T) (a := a + 3) (by omega) ho
      rw [am_e1 hl] at hat
      refine va_lald hx hb hK.1 hf.oP (a + 3 - 3) 1 hat rfl (i32_in h0 h1 hn) hd ?_
      rw [i32_clamp h0 (by omega), Int.toNat_of_nonneg h0]
      exact hk (a + 3) i h2 la H locs (hf.pop.pop.push trivial)
  | some (.inr (a, q)), h, ho =>
    simp only [am_ix] at h
    obtain ⟨⟨kd, n, w, x⟩, hl⟩ : ∃ q, am_lay a = q := ⟨_, rfl⟩
    rw [hl] at h
    obtain ⟨hkd, ⟨h0, h1⟩, h2⟩ := am_if_of h
    have h1 : i < (w : Int) := h1
    have hkd := Nat.eq_of_beq_eq_true hkd
    subst hkd
    obtain ⟨c1, c2, c3, c4⟩ := am_rowcell (G := G) ho
    obtain ⟨r1, r2⟩ := am_row3 ho hl
    have hat := am_ws_at (G := G) (V := V) (R := R) (T := T) c2 c3
    rw [am_e6 r1, ← c1] at hat
    have hq : (q.toNat : Int) = q := Int.toNat_of_nonneg ho.2.2.2.1
    refine va_lald hx hb hK.1 hf.oP (a + 1 + q.toNat - 3) 1 hat rfl (i32_in h0 h1 (by omega)) hd ?_
    rw [i32_clamp h0 (by omega), if_pos (by omega), Int.toNat_of_nonneg h0, hq]
    exact hk a (64 * q + i) h2 la H locs (hf.pop.pop.push trivial)
theorem so_baload {X : am_X} (cx : am_cx X) {pc : Nat} {ls : am_L} {st : List AV} {V : am_V} {R : am_T} {T cc cs : Nat} {r : am_Ref} {i : Int} {k : Nat → Int → Prop} (hd : decode (am_X.bytes X) pc = .ok (.baload, 1)) (h : am_ix 2 99 V r i k) (hk : ∀ a j, k a j → am_W X (pc + 1) ls (.inl (V a j) :: st) V R T cc cs) : am_W X pc ls (.inl i :: .inr (.inr r) :: st) V R T cc cs := by
  obtain ⟨p, e, Rm, s, m, args, below, meth, c, QQ, G, own, bytes, nL, Bc, Bs, V0, T0⟩ := X
  obtain ⟨hx, hb, hml, hown, hts, hK, hRc, hRs⟩ := cx
  intro la H locs hf
  have ho := hf.pop.ok _ List.mem_cons_self
  match r, h, ho with
  | none, h, _ => exact False.elim h
  | some (.inl a), h, ho =>
    simp only [am_ix] at h
    obtain ⟨⟨kd, n, w, x⟩, hl⟩ : ∃ q, am_lay a = q := ⟨_, rfl⟩
    rw [hl] at h
    obtain ⟨hkd, h⟩ := am_if_of h
    have hkd := Nat.eq_of_beq_eq_true hkd
    subst hkd
    have hn : n < 2 ^ 31 := by have := am_len31 a; rw [hl] at this; exact this
    match a, hl, h, ho with
    | 0, hl, h, ho => cases hl
    | 1, hl, h, ho => cases hl
    | 2, hl, h, ho => cases hl
    | a + 3, hl, h, ho =>
      obtain ⟨⟨h0, h1⟩, h2⟩ := h
      have h1 : i < (n : Int) := h1
      have hat := am_ws_at (G := G) (V := V) (R := R) (T := T) (a := a + 3) (by omega) ho
      rw [am_e2 hl] at hat
      refine va_zald hx hb hK.1 hf.oP (a + 3 - 3) 2 hat rfl (i32_in h0 h1 hn) hd ?_
      rw [i32_clamp h0 (by omega), Int.toNat_of_nonneg h0]
      exact hk (a + 3) i h2 la H locs (hf.pop.pop.push trivial)
  | some (.inr (a, q)), h, ho =>
    simp only [am_ix] at h
    obtain ⟨hkd, h⟩ := am_if_of h
    have := (am_lay_len a).2.1
    rw [Nat.eq_of_beq_eq_true hkd] at this
    omega
theorem am_cell_i {c : ClassId} {n k : Nat} {f : Nat → Int32} {x : Int32} : (vp_cell c (n, .inl f)).setSlot k (.int x) = vp_cell c (n, .inl (upd f k x)) := by
  rw [vp_cell_i, vp_cell_i, arrV_store]
  refine congrArg (arrV c n) (funext fun j => ?_)
  by_cases hq : j = k
  · subst hq; simp [updV, upd]
  · simp [updV, upd, hq]
theorem am_cell_l {c : ClassId} {n k : Nat} {f : Nat → Int64} {x : Int64} : (vp_cell c (n, .inr (.inl f))).setSlot k (.long x) = vp_cell c (n, .inr (.inl (vp_updL f k x))) := by
  rw [vp_cell_l, vp_cell_l, arrV_store]
  refine congrArg (arrV c n) (funext fun j => ?_)
  by_cases hq : j = k
  · subst hq; simp [updV, vp_updL]
  · simp [updV, vp_updL, hq]
theorem am_cell_q {c : ClassId} {n k : Nat} {f : Nat → Option Nat} {x : Option Nat} : (vp_cell c (n, .inr (.inr (.inr (.inr f))))).setSlot k (va_rf x) = vp_cell c (n, .inr (.inr (.inr (.inr (va_up f k x))))) := by
  rw [vp_cell_q, vp_cell_q, arrV_store]
  refine congrArg (arrV c n) (funext fun j => ?_)
  by_cases hq : j = k
  · subst hq; simp [updV, va_up]
  · simp [updV, va_up, hq]
/-- a cell is written: the frame goes on over the new memory -/
theorem am_wr {G : am_G} {s : State} {V0 : am_V} {T0 nL Bc Bs : Nat} {ls : am_L} {st : List AV} {V V' : am_V} {R R' : am_T} {T cc cs : Nat} {la : Array Slot} {H : Heap} {locs : List Loc} (hf : am_fr G s V0 T0 nL Bc Bs ls st V R T cc cs la H locs) {b k : Nat} (hb3 : 3 ≤ b) (hbT : b < T) (ho : ∀ y, y < T → y ≠ b → am_e G V' R' y = am_e G V R y) (hR : am_okR R' T) (hV : ∀ e, e < 3 → V' e = V e) {H1 : Heap} (e : va_at (am_G.D G) am_cls (am_ad G b, am_e G V' R' b) H1) (z : H1.size = H.size) (oq : ∀ q, q ≠ am_ad G b → H1[q]? = H[q]?) : am_fr G s V0 T0 nL Bc Bs ls st V' R' T cc cs la H1 (locs ++ [⟨am_ad G b, k⟩]) := by
  have hat := am_ws_at (G := G) (V := V) (R := R) (T := T) hb3 hbT
  have hP := hf.oP.set am_D hat e oq
  rw [am_ws_set hb3 hbT rfl ho] at hP
  exact hf.mem z hP (hf.oS.put z oq (am_D.2 _ _ hat)) hR hV
theorem am_up_row_i {V : am_V} {a q w : Nat} {i x : Int} (h0 : 0 ≤ i) (h1 : i < (w : Int)) : (fun j : Nat => if j < w then Int32.ofInt (am_up V a (64 * (q : Int) + i) x a (64 * (q : Int) + j)) else 0) = upd (fun j : Nat => if j < w then Int32.ofInt (V a (64 * (q : Int) + j)) else 0) i.toNat (Int32.ofInt x) := by
  funext j
  by_cases h : j = i.toNat
  · subst h
    rw [if_pos (by omega), am_up_at, if_pos (by omega), pk_us]
  · rw [pk_un h]
    by_cases hw : j < w
    · rw [if_pos hw, if_pos hw, am_up_at, if_neg (by omega)]
    · rw [if_neg hw, if_neg hw]
theorem am_up_row_l {V : am_V} {a q w : Nat} {i x : Int} (h0 : 0 ≤ i) (h1 : i < (w : Int)) : (fun j : Nat => if j < w then Int64.ofInt (am_up V a (64 * (q : Int) + i) x a (64 * (q : Int) + j)) else 0) = vp_updL (fun j : Nat => if j < w then Int64.ofInt (V a (64 * (q : Int) + j)) else 0) i.toNat (Int64.ofInt x) := by
  funext j
  by_cases h : j = i.toNat
  · subst h
    rw [if_pos (by omega), am_up_at, if_pos (by omega), pk_uLs]
  · rw [pk_uLn h]
    by_cases hw : j < w
    · rw [if_pos hw, if_pos hw, am_up_at, if_neg (by omega)]
    · rw [if_neg hw, if_neg hw]
theorem so_iastore {X : am_X} (cx : am_cx X) {pc : Nat} {ls : am_L} {st : List AV} {V : am_V} {R : am_T} {T cc cs : Nat} {r : am_Ref} {i x : Int} {k : Nat → Int → Prop} (hd : decode (am_X.bytes X) pc = .ok (.iastore, 1)) (h : am_ix 0 4 V r i k) (hk : ∀ a j, k a j → 3 ≤ a ∧ am_W X (pc + 1) ls st (am_up V a j x) R T cc cs) : am_W X pc ls (.inl x :: .inl i :: .inr (.inr r) :: st) V R T cc cs := by
  obtain ⟨p, e, Rm, s, m, args, below, meth, c, QQ, G, own, bytes, nL, Bc, Bs, V0, T0⟩ := X
  obtain ⟨hx, hb, hml, hown, hts, hK, hRc, hRs⟩ := cx
  intro la H locs hf
  have ho := hf.pop.pop.ok _ List.mem_cons_self
  match r, h, ho with
  | none, h, _ => exact False.elim h
  | some (.inl a), h, ho =>
    simp only [am_ix] at h
    obtain ⟨⟨kd, n, w, y⟩, hl⟩ : ∃ q, am_lay a = q := ⟨_, rfl⟩
    rw [hl] at h
    obtain ⟨hkd, h⟩ := am_if_of h
    have hkd := Nat.eq_of_beq_eq_true hkd
    subst hkd
    have hn : n < 2 ^ 31 := by have := am_len31 a; rw [hl] at this; exact this
    match a, hl, h, ho with
    | 0, hl, h, ho => exact absurd (hk _ _ h.2).1 (by decide)
    | 1, hl, h, ho => exact absurd (hk _ _ h.2).1 (by decide)
    | 2, hl, h, ho => exact absurd (hk _ _ h.2).1 (by decide)
    | a + 3, hl, h, ho =>
      obtain ⟨⟨h0, h1⟩, h2⟩ := h
      have h1 : i < (n : Int) := h1
      have hat := am_ws_at (G := G) (V := V) (R := R) (T := T) (a := a + 3) (by omega) ho
      rw [am_e0 hl] at hat
      have hk' := (hk (a + 3) i h2).2
      refine W.iast hx hb (hf.oP _ _ hat) ((hK.1.2 0 _ rfl).1 n _) (fun q => by cases q) (by show ¬ (_ < 0 ∨ (arrV _ _ _).slots.size ≤ _); rw [arrV_size]; exact i32_in h0 h1 hn) rfl rfl hd fun H1 e z oq => ?_
      rw [am_cell_i, i32_clamp h0 (by omega), ← am_upd_i h0] at e
      exact hk' la H1 _ (am_wr (b := a + 3) hf.pop.pop.pop (by omega) ho (fun y _ hy => am_e_off (fun q hq => am_up_ne hq) (fun _ _ => rfl) (by rw [hl]; simp) hy) hf.oR (fun q hq => am_up_ne (by omega)) (by rw [am_e0 hl]; exact e) z oq)
  | some (.inr (a, q)), h, ho =>
    simp only [am_ix] at h
    obtain ⟨⟨kd, n, w, y⟩, hl⟩ : ∃ q, am_lay a = q := ⟨_, rfl⟩
    rw [hl] at h
    obtain ⟨hkd, ⟨h0, h1⟩, h2⟩ := am_if_of h
    have h1 : i < (w : Int) := h1
    have hkd := Nat.eq_of_beq_eq_true hkd
    subst hkd
    obtain ⟨c1, c2, c3, c4⟩ := am_rowcell (G := G) ho
    obtain ⟨r1, r2⟩ := am_row4 ho hl
    have hat := am_ws_at (G := G) (V := V) (R := R) (T := T) c2 c3
    rw [am_e7 r1] at hat
    have hq : (q.toNat : Int) = q := Int.toNat_of_nonneg ho.2.2.2.1
    have hk' := (hk a (64 * q + i) h2).2
    rw [← hq] at hk'
    have hw31 : w < 2 ^ 31 := by omega
    have c1' : am_cv G (.inr (.inr (some (.inr (a, q))))) = .ref (am_ad G (a + 1 + q.toNat)) := by rw [← c1]; rfl
    have hst : ((.inl x :: .inl i :: .inr (.inr (some (.inr (a, q)))) :: st : List AV).map (am_cv G)) = am_cv G (.inl x) :: am_cv G (.inl i) :: .ref (am_ad G (a + 1 + q.toNat)) :: st.map (am_cv G) := by rw [List.map_cons, List.map_cons, List.map_cons, c1']
    rw [hst]
    refine W.iast hx hb (hf.oP _ _ hat) ((hK.1.2 0 _ rfl).1 w _) (fun q => by cases q) (by show ¬ (_ < 0 ∨ (arrV _ _ _).slots.size ≤ _); rw [arrV_size]; exact i32_in h0 h1 hw31) rfl rfl hd fun H1 e z oq => ?_
    rw [am_cell_i, i32_clamp h0 (by omega), ← am_up_row_i h0 h1] at e
    exact hk' la H1 _ (am_wr (b := a + 1 + q.toNat) hf.pop.pop.pop c2 c3 (fun y _ hy => am_e_row r2 (by rw [hl]) (by rw [r1]) h0 h1 hy (by rw [hl]; simp)) hf.oR (fun q hq => am_up_ne (by have := ho.1; omega)) (by rw [am_e7 r1]; exact e) z oq)
theorem so_lastore {X : am_X} (cx : am_cx X) {pc : Nat} {ls : am_L} {st : List AV} {V : am_V} {R : am_T} {T cc cs : Nat} {r : am_Ref} {i x : Int} {k : Nat → Int → Prop} (hd : decode (am_X.bytes X) pc = .ok (.lastore, 1)) (h : am_ix 1 3 V r i k) (hk : ∀ a j, k a j → am_W X (pc + 1) ls st (am_up V a j x) R T cc cs) : am_W X pc ls (.inr (.inl x) :: .inl i :: .inr (.inr r) :: st) V R T cc cs := by
  obtain ⟨p, e, Rm, s, m, args, below, meth, c, QQ, G, own, bytes, nL, Bc, Bs, V0, T0⟩ := X
  obtain ⟨hx, hb, hml, hown, hts, hK, hRc, hRs⟩ := cx
  intro la H locs hf
  have ho := hf.pop.pop.ok _ List.mem_cons_self
  match r, h, ho with
  | none, h, _ => exact False.elim h
  | some (.inl a), h, ho =>
    simp only [am_ix] at h
    obtain ⟨⟨kd, n, w, y⟩, hl⟩ : ∃ q, am_lay a = q := ⟨_, rfl⟩
    rw [hl] at h
    obtain ⟨hkd, h⟩ := am_if_of h
    have hkd := Nat.eq_of_beq_eq_true hkd
    subst hkd
    have hn : n < 2 ^ 31 := by have := am_len31 a; rw [hl] at this; exact this
    match a, hl, h, ho with
    | 0, hl, h, ho => cases hl
    | 1, hl, h, ho => cases hl
    | 2, hl, h, ho => cases hl
    | a + 3, hl, h, ho =>
      obtain ⟨⟨h0, h1⟩, h2⟩ := h
      have h1 : i < (n : Int) := h1
      have hat := am_ws_at (G := G) (V := V) (R := R) (T := T) (a := a + 3) (by omega) ho
      rw [am_e1 hl] at hat
      have hk' := hk (a + 3) i h2
      refine W.last hx hb (hf.oP _ _ hat) ((hK.1.2 1 _ rfl).1 n _) (fun q => by cases q) (by show ¬ (_ < 0 ∨ (arrV _ _ _).slots.size ≤ _); rw [arrV_size]; exact i32_in h0 h1 hn) rfl rfl hd fun H1 e z oq => ?_
      rw [am_cell_l, i32_clamp h0 (by omega), ← am_upd_l h0] at e
      exact hk' la H1 _ (am_wr (b := a + 3) hf.pop.pop.pop (by omega) ho (fun y _ hy => am_e_off (fun q hq => am_up_ne hq) (fun _ _ => rfl) (by rw [hl]; simp) hy) hf.oR (fun q hq => am_up_ne (by omega)) (by rw [am_e1 hl]; exact e) z oq)
  | some (.inr (a, q)), h, ho =>
    simp only [am_ix] at h
    obtain ⟨⟨kd, n, w, y⟩, hl⟩ : ∃ q, am_lay a = q := ⟨_, rfl⟩
    rw [hl] at h
    obtain ⟨hkd, ⟨h0, h1⟩, h2⟩ := am_if_of h
    have h1 : i < (w : Int) := h1
    have hkd := Nat.eq_of_beq_eq_true hkd
    subst hkd
    obtain ⟨c1, c2, c3, c4⟩ := am_rowcell (G := G) ho
    obtain ⟨r1, r2⟩ := am_row3 ho hl
    have hat := am_ws_at (G := G) (V := V) (R := R) (T := T) c2 c3
    rw [am_e6 r1] at hat
    have hq : (q.toNat : Int) = q := Int.toNat_of_nonneg ho.2.2.2.1
    have hk' := hk a (64 * q + i) h2
    rw [← hq] at hk'
    have hw31 : w < 2 ^ 31 := by omega
    have c1' : am_cv G (.inr (.inr (some (.inr (a, q))))) = .ref (am_ad G (a + 1 + q.toNat)) := by rw [← c1]; rfl
    have hst : ((.inr (.inl x) :: .inl i :: .inr (.inr (some (.inr (a, q)))) :: st : List AV).map (am_cv G)) = am_cv G (.inr (.inl x)) :: am_cv G (.inl i) :: .ref (am_ad G (a + 1 + q.toNat)) :: st.map (am_cv G) := by rw [List.map_cons, List.map_cons, List.map_cons, c1']
    rw [hst]
    refine W.last hx hb (hf.oP _ _ hat) ((hK.1.2 1 _ rfl).1 w _) (fun q => by cases q) (by show ¬ (_ < 0 ∨ (arrV _ _ _).slots.size ≤ _); rw [arrV_size]; exact i32_in h0 h1 hw31) rfl rfl hd fun H1 e z oq => ?_
    rw [am_cell_l, i32_clamp h0 (by omega), ← am_up_row_l h0 h1] at e
    exact hk' la H1 _ (am_wr (b := a + 1 + q.toNat) hf.pop.pop.pop c2 c3 (fun y _ hy => am_e_row r2 (by rw [hl]) (by rw [r1]) h0 h1 hy (by rw [hl]; simp)) hf.oR (fun q hq => am_up_ne (by have := ho.1; omega)) (by rw [am_e6 r1]; exact e) z oq)
theorem so_bastore {X : am_X} (cx : am_cx X) {pc : Nat} {ls : am_L} {st : List AV} {V : am_V} {R : am_T} {T cc cs : Nat} {r : am_Ref} {i x : Int} {k : Nat → Int → Prop} (hd : decode (am_X.bytes X) pc = .ok (.bastore, 1)) (h : am_ix 2 99 V r i k) (hk : ∀ a j, k a j → (x = 0 ∨ x = 1) ∧ am_W X (pc + 1) ls st (am_up V a j x) R T cc cs) : am_W X pc ls (.inl x :: .inl i :: .inr (.inr r) :: st) V R T cc cs := by
  obtain ⟨p, e, Rm, s, m, args, below, meth, c, QQ, G, own, bytes, nL, Bc, Bs, V0, T0⟩ := X
  obtain ⟨hx, hb, hml, hown, hts, hK, hRc, hRs⟩ := cx
  intro la H locs hf
  have ho := hf.pop.pop.ok _ List.mem_cons_self
  match r, h, ho with
  | none, h, _ => exact False.elim h
  | some (.inl a), h, ho =>
    simp only [am_ix] at h
    obtain ⟨⟨kd, n, w, y⟩, hl⟩ : ∃ q, am_lay a = q := ⟨_, rfl⟩
    rw [hl] at h
    obtain ⟨hkd, h⟩ := am_if_of h
    have hkd := Nat.eq_of_beq_eq_true hkd
    subst hkd
    have hn : n < 2 ^ 31 := by have := am_len31 a; rw [hl] at this; exact this
    match a, hl, h, ho with
    | 0, hl, h, ho => cases hl
    | 1, hl, h, ho => cases hl
    | 2, hl, h, ho => cases hl
    | a + 3, hl, h, ho =>
      obtain ⟨⟨h0, h1⟩, h2⟩ := h
      have h1 : i < (n : Int) := h1
      have hat := am_ws_at (G := G) (V := V) (R := R) (T := T) (a := a + 3) (by omega) ho
      rw [am_e2 hl] at hat
      have hk' := (hk (a + 3) i h2).2
      have hx01 := (hk (a + 3) i h2).1
      refine W.zast hx hb (hf.oP _ _ hat) ((hK.1.2 2 _ rfl).1 n _) (fun q => by cases q) (by show ¬ (_ < 0 ∨ (arrV _ _ _).slots.size ≤ _); rw [arrV_size]; exact i32_in h0 h1 hn) rfl rfl hd fun H1 e z oq => ?_
      have en : narrow .boolean (.int (Int32.ofInt x)) = .int (Int32.ofInt x) := by rcases hx01 with rfl | rfl <;> rfl
      first | rw [en] at e | skip
      rw [am_cell_i, i32_clamp h0 (by omega), ← am_upd_i h0] at e
      exact hk' la H1 _ (am_wr (b := a + 3) hf.pop.pop.pop (by omega) ho (fun y _ hy => am_e_off (fun q hq => am_up_ne hq) (fun _ _ => rfl) (by rw [hl]; simp) hy) hf.oR (fun q hq => am_up_ne (by omega)) (by rw [am_e2 hl]; exact e) z oq)
  | some (.inr (a, q)), h, ho =>
    simp only [am_ix] at h
    obtain ⟨hkd, h⟩ := am_if_of h
    have := (am_lay_len a).2.1
    rw [Nat.eq_of_beq_eq_true hkd] at this
    omega
