/-! references in arrays, lengths, new cells -/
theorem so_aaload3 {X : am_X} (cx : am_cx X) {pc : Nat} {ls : am_L} {st : List AV} {V : am_V} {R : am_T} {T cc cs : Nat} {a n w y : Nat} {i : Int} (hd : decode (am_X.bytes X) pc = .ok (.aaload, 1)) (hl : am_lay a = (3, n, w, y)) (h0 : 0 ≤ i) (h1 : i < (n : Int)) (kk : am_W X (pc + 1) ls (.inr (.inr (some (.inr (a, i)))) :: st) V R T cc cs) : am_W X pc ls (.inl i :: .inr (.inr (some (.inl a))) :: st) V R T cc cs := by
  obtain ⟨p, e, Rm, s, m, args, below, meth, c, QQ, G, own, bytes, nL, Bc, Bs, V0, T0⟩ := X
  obtain ⟨hx, hb, hml, hown, hts, hK, hRc, hRs⟩ := cx
  intro la H locs hf
  have hoT : a < T := hf.pop.ok _ List.mem_cons_self
  have hn : n < 2 ^ 31 := by have := am_len31 a; rw [hl] at this; exact this
  have h3 : 3 ≤ a := by
    match a, hl with
    | 0, h => cases h
    | 1, h => cases h
    | 2, h => cases h
    | a + 3, _ => omega
  have hat := am_ws_at (G := G) (V := V) (R := R) (T := T) h3 hoT
  rw [am_e3 hl] at hat
  have hlt : (Int32.ofInt i).toNatClampNeg < n := by rw [i32_clamp h0 (by omega)]; omega
  refine W.aald (v := .ref (am_ad G a + 1 + i.toNat)) (ty := .array .long) hx hb (hf.oP _ _ hat) ((hK.1.2 3 _ rfl).1 n _) rfl (fun q => by cases q) (by show ¬ (_ < 0 ∨ (arrV _ _ _).slots.size ≤ _); rw [arrV_size]; exact i32_in h0 h1 hn) (by show (arrV _ _ _).slots[_]? = _; rw [arrV_read _ _ hlt, i32_clamp h0 (by omega)]; show some (va_rf (if i.toNat < n then some (am_ad G a + 1 + i.toNat) else none)) = _; rw [if_pos (by omega)]; rfl) rfl rfl hd ?_
  exact kk la H locs (hf.pop.pop.push ⟨h3, Or.inl (by rw [hl]), by have := hf.oR.2 a hoT (Or.inl (by rw [hl])); exact this, h0, by rw [hl]; exact h1⟩)
theorem so_aaload4 {X : am_X} (cx : am_cx X) {pc : Nat} {ls : am_L} {st : List AV} {V : am_V} {R : am_T} {T cc cs : Nat} {a n w y : Nat} {i : Int} (hd : decode (am_X.bytes X) pc = .ok (.aaload, 1)) (hl : am_lay a = (4, n, w, y)) (h0 : 0 ≤ i) (h1 : i < (n : Int)) (kk : am_W X (pc + 1) ls (.inr (.inr (some (.inr (a, i)))) :: st) V R T cc cs) : am_W X pc ls (.inl i :: .inr (.inr (some (.inl a))) :: st) V R T cc cs := by
  obtain ⟨p, e, Rm, s, m, args, below, meth, c, QQ, G, own, bytes, nL, Bc, Bs, V0, T0⟩ := X
  obtain ⟨hx, hb, hml, hown, hts, hK, hRc, hRs⟩ := cx
  intro la H locs hf
  have hoT : a < T := hf.pop.ok _ List.mem_cons_self
  have hn : n < 2 ^ 31 := by have := am_len31 a; rw [hl] at this; exact this
  have h3 : 3 ≤ a := by
    match a, hl with
    | 0, h => cases h
    | 1, h => cases h
    | 2, h => cases h
    | a + 3, _ => omega
  have hat := am_ws_at (G := G) (V := V) (R := R) (T := T) h3 hoT
  rw [am_e4 hl] at hat
  have hlt : (Int32.ofInt i).toNatClampNeg < n := by rw [i32_clamp h0 (by omega)]; omega
  refine W.aald (v := .ref (am_ad G a + 1 + i.toNat)) (ty := .array .int) hx hb (hf.oP _ _ hat) ((hK.1.2 4 _ rfl).1 n _) rfl (fun q => by cases q) (by show ¬ (_ < 0 ∨ (arrV _ _ _).slots.size ≤ _); rw [arrV_size]; exact i32_in h0 h1 hn) (by show (arrV _ _ _).slots[_]? = _; rw [arrV_read _ _ hlt, i32_clamp h0 (by omega)]; show some (va_rf (if i.toNat < n then some (am_ad G a + 1 + i.toNat) else none)) = _; rw [if_pos (by omega)]; rfl) rfl rfl hd ?_
  exact kk la H locs (hf.pop.pop.push ⟨h3, Or.inr (by rw [hl]), by have := hf.oR.2 a hoT (Or.inr (by rw [hl])); exact this, h0, by rw [hl]; exact h1⟩)
theorem so_aaload5 {X : am_X} (cx : am_cx X) {pc : Nat} {ls : am_L} {st : List AV} {V : am_V} {R : am_T} {T cc cs : Nat} {a n w y : Nat} {i : Int} (hd : decode (am_X.bytes X) pc = .ok (.aaload, 1)) (hl : am_lay a = (5, n, w, y)) (h0 : 0 ≤ i) (h1 : i < (n : Int)) (k0 : R a i = none → am_W X (pc + 1) ls (.inr (.inr none) :: st) V R T cc cs) (k1 : ∀ x, R a i = some x → am_W X (pc + 1) ls (.inr (.inr (some (.inl x))) :: st) V R T cc cs) : am_W X pc ls (.inl i :: .inr (.inr (some (.inl a))) :: st) V R T cc cs := by
  obtain ⟨p, e, Rm, s, m, args, below, meth, c, QQ, G, own, bytes, nL, Bc, Bs, V0, T0⟩ := X
  obtain ⟨hx, hb, hml, hown, hts, hK, hRc, hRs⟩ := cx
  intro la H locs hf
  have hoT : a < T := hf.pop.ok _ List.mem_cons_self
  have hn : n < 2 ^ 31 := by have := am_len31 a; rw [hl] at this; exact this
  have h3 : 3 ≤ a := by
    match a, hl with
    | 0, h => cases h
    | 1, h => cases h
    | 2, h => cases h
    | a + 3, _ => omega
  have hat := am_ws_at (G := G) (V := V) (R := R) (T := T) h3 hoT
  rw [am_e5 hl] at hat
  refine va_aldq hx hb hK.1 hf.oP _ 5 hat rfl (i32_in h0 h1 hn) hd ?_
  rw [i32_clamp h0 (by omega), Int.toNat_of_nonneg h0]
  cases hr : R a i with
  | none => exact k0 hr la H locs (hf.pop.pop.push trivial)
  | some x => exact k1 x hr la H locs (hf.pop.pop.push (hf.oR.1 a i x hoT hr))
theorem am_upR_q {G : am_G} {R : am_T} {a : Nat} {i : Int} {x : Option Nat} (h0 : 0 ≤ i) : (fun j : Nat => (am_upR R a i x a j).map (am_ad G)) = va_up (fun j : Nat => (R a j).map (am_ad G)) i.toNat (x.map (am_ad G)) := by
  funext j
  rw [am_upR_at]
  by_cases h : j = i.toNat
  · subst h
    rw [if_pos (by omega)]
    simp [va_up]
  · rw [if_neg (by omega)]
    simp [va_up, h]
theorem am_okR_up {R : am_T} {T a : Nat} {i : Int} {x : Option Nat} (h : am_okR R T) (hx : ∀ b, x = some b → b < T) : am_okR (am_upR R a i x) T := by
  refine ⟨fun a' k b ha hb => ?_, h.2⟩
  unfold am_upR at hb
  split at hb
  · split at hb
    · exact hx b hb
    · exact h.1 a' k b ha hb
  · exact h.1 a' k b ha hb
theorem so_aastore {X : am_X} (cx : am_cx X) {pc : Nat} {ls : am_L} {st : List AV} {V : am_V} {R : am_T} {T cc cs : Nat} {a n w y q : Nat} {i : Int} (hd : decode (am_X.bytes X) pc = .ok (.aastore, 1)) (hl : am_lay a = (5, n, w, y)) (hq : (am_lay q).1 = 13) (h0 : 0 ≤ i) (h1 : i < (n : Int)) (kk : am_W X (pc + 1) ls st V (am_upR R a i (some q)) T cc cs) : am_W X pc ls (.inr (.inr (some (.inl q))) :: .inl i :: .inr (.inr (some (.inl a))) :: st) V R T cc cs := by
  obtain ⟨p, e, Rm, s, m, args, below, meth, c, QQ, G, own, bytes, nL, Bc, Bs, V0, T0⟩ := X
  obtain ⟨hx, hb, hml, hown, hts, hK, hRc, hRs⟩ := cx
  intro la H locs hf
  have hoT : a < T := hf.pop.pop.ok _ List.mem_cons_self
  have hqT : q < T := hf.ok _ List.mem_cons_self
  have hn : n < 2 ^ 31 := by have := am_len31 a; rw [hl] at this; exact this
  have h3 : 3 ≤ a := by
    match a, hl with
    | 0, h => cases h
    | 1, h => cases h
    | 2, h => cases h
    | a + 3, _ => omega
  obtain ⟨⟨kd, nq, wq, yq⟩, hlq⟩ : ∃ z, am_lay q = z := ⟨_, rfl⟩
  rw [hlq] at hq
  have hq : kd = 10 + 3 := hq
  subst hq
  obtain ⟨-, hnq, hq3⟩ := am_obj hlq
  have hat := am_ws_at (G := G) (V := V) (R := R) (T := T) h3 hoT
  rw [am_e5 hl] at hat
  have hatq := am_ws_at (G := G) (V := V) (R := R) (T := T) hq3 hqT
  rw [am_eO hlq] at hatq
  have hlt : (Int32.ofInt i).toNatClampNeg < n := by rw [i32_clamp h0 (by omega)]; omega
  obtain ⟨r', hr', cellV, g1, g2, g3, -⟩ := hf.oP _ _ hatq
  have hcls := (hK.1.1 3 _ (am_cls_at 3 (by decide))).2
  obtain ⟨kA, comp, k1, k2, k3, -⟩ := (hK.1.2 5 _ rfl).2
  have hcomp : comp = (am_G.D G).1 3 := Option.some.inj (k3.symm.trans hcls.1)
  subst hcomp
  obtain ⟨kC, hkC, -⟩ := hcls.2
  refine W.aast hx hb (hf.oP _ _ hat) (fun q h => by cases h) (fun h => by cases h) k1 k2 rfl hkC ⟨i32_nn h0 (by omega), by show _ < (arrV _ _ _).slots.size; rw [arrV_size]; exact hlt⟩ g1 (fun q h => by rw [g3] at h; cases h) (by rw [g2]; exact hkC) (by rw [g2]; exact va_assign hcls) rfl rfl hd fun H1 e z oq => ?_
  have e' : H1[am_ad G a]? = some ((vp_cell (am_G.cy G 5) (n, .inr (.inr (.inr (.inr (fun j : Nat => (R a j).map (am_ad G))))))).setSlot (Int32.ofInt i).toNatClampNeg (va_rf ((some q).map (am_ad G)))) := e
  rw [am_cell_q, i32_clamp h0 (by omega), ← am_upR_q h0] at e'
  exact kk la H1 _ (am_wr (b := a) hf.pop.pop.pop h3 hoT (fun y _ hy => am_e_off (fun _ _ => rfl) (fun q hq => am_upR_ne hq) (by rw [hl]; simp) hy) (am_okR_up hf.oR (fun b hb => by cases hb; exact hqT)) (fun _ _ => rfl) (by rw [am_e5 hl]; exact e') z oq)
theorem so_aastoreN {X : am_X} (cx : am_cx X) {pc : Nat} {ls : am_L} {st : List AV} {V : am_V} {R : am_T} {T cc cs : Nat} {a n w y : Nat} {i : Int} (hd : decode (am_X.bytes X) pc = .ok (.aastore, 1)) (hl : am_lay a = (5, n, w, y)) (h0 : 0 ≤ i) (h1 : i < (n : Int)) (kk : am_W X (pc + 1) ls st V (am_upR R a i none) T cc cs) : am_W X pc ls (.inr (.inr none) :: .inl i :: .inr (.inr (some (.inl a))) :: st) V R T cc cs := by
  obtain ⟨p, e, Rm, s, m, args, below, meth, c, QQ, G, own, bytes, nL, Bc, Bs, V0, T0⟩ := X
  obtain ⟨hx, hb, hml, hown, hts, hK, hRc, hRs⟩ := cx
  intro la H locs hf
  have hoT : a < T := hf.pop.pop.ok _ List.mem_cons_self
  have hn : n < 2 ^ 31 := by have := am_len31 a; rw [hl] at this; exact this
  have h3 : 3 ≤ a := by
    match a, hl with
    | 0, h => cases h
    | 1, h => cases h
    | 2, h => cases h
    | a + 3, _ => omega
  have hat := am_ws_at (G := G) (V := V) (R := R) (T := T) h3 hoT
  rw [am_e5 hl] at hat
  refine va_WaastN (C := RX3) hx hb (hf.oP _ _ hat) ((hK.1.2 5 _ rfl).1 n _) (fun h => by cases h) (by show ¬ (_ < 0 ∨ (arrV _ _ _).slots.size ≤ _); rw [arrV_size]; exact i32_in h0 h1 hn) rfl rfl hd fun H1 e z oq => ?_
  have e' : H1[am_ad G a]? = some ((vp_cell (am_G.cy G 5) (n, .inr (.inr (.inr (.inr (fun j : Nat => (R a j).map (am_ad G))))))).setSlot (Int32.ofInt i).toNatClampNeg (va_rf ((none : Option Nat).map (am_ad G)))) := e
  rw [am_cell_q, i32_clamp h0 (by omega), ← am_upR_q h0] at e'
  exact kk la H1 _ (am_wr (b := a) hf.pop.pop.pop h3 hoT (fun y _ hy => am_e_off (fun _ _ => rfl) (fun q hq => am_upR_ne hq) (by rw [hl]; simp) hy) (am_okR_up hf.oR (fun b hb => by cases hb)) (fun _ _ => rfl) (by rw [am_e5 hl]; exact e') z oq)
theorem am_ofNat (n : Nat) : Int32.ofNat n = Int32.ofInt (n : Int) := (Int32.ofInt_eq_ofNat).symm
/-- lengths -/
theorem so_alen {X : am_X} (cx : am_cx X) {pc : Nat} {ls : am_L} {st : List AV} {V : am_V} {R : am_T} {T cc cs : Nat} {a kd n w y : Nat} (hd : decode (am_X.bytes X) pc = .ok (.arraylength, 1)) (hl : am_lay a = (kd, n, w, y)) (hkd : kd ≤ 5) (k0 : a = 0 → am_W X (pc + 1) ls (.inl (V 0 (-1)) :: st) V R T cc cs) (k1 : a ≠ 0 → am_W X (pc + 1) ls (.inl (n : Int) :: st) V R T cc cs) : am_W X pc ls (.inr (.inr (some (.inl a))) :: st) V R T cc cs := by
  obtain ⟨p, e, Rm, s, m, args, below, meth, c, QQ, G, own, bytes, nL, Bc, Bs, V0, T0⟩ := X
  obtain ⟨hx, hb, hml, hown, hts, hK, hRc, hRs⟩ := cx
  intro la H locs hf
  have hoT : a < T := hf.ok _ List.mem_cons_self
  match a, hl, hoT, k0, k1 with
  | 0, hl, hoT, k0, k1 =>
    have eV := hf.oV 0 (by decide)
    obtain ⟨hz0, hz1⟩ := hK.2.2.2.2.2.2.1
    refine va_tlen (v := Int32.ofInt (V 0 (-1))) hx hb hK.2.2.2.2.2.2.2.1 hf.oS (by rw [am_ofNat, eV, Int.toNat_of_nonneg hz0]) hd ?_
    exact k0 rfl la H locs (hf.pop.push trivial)
  | 1, hl, hoT, k0, k1 =>
    cases hl
    refine va_tlen (v := Int32.ofInt 11) hx hb hK.2.2.2.2.2.2.2.2.1 hf.oS rfl hd ?_
    exact k1 (by decide) la H locs (hf.pop.push trivial)
  | 2, hl, hoT, k0, k1 =>
    cases hl
    refine va_tlen (v := Int32.ofInt 11) hx hb hK.2.2.2.2.2.2.2.2.2 hf.oS rfl hd ?_
    exact k1 (by decide) la H locs (hf.pop.push trivial)
  | a + 3, hl, hoT, k0, k1 =>
    have hat := am_ws_at (G := G) (V := V) (R := R) (T := T) (a := a + 3) (by omega) hoT
    have go := k1 (by omega) la H locs (hf.pop.push trivial)
    match kd, hkd, hl with
    | 0, _, hl => rw [am_e0 hl] at hat; exact va_alen hx hb hK.1 hf.oP _ 0 hat rfl (am_ofNat n) hd go
    | 1, _, hl => rw [am_e1 hl] at hat; exact va_alen hx hb hK.1 hf.oP _ 1 hat rfl (am_ofNat n) hd go
    | 2, _, hl => rw [am_e2 hl] at hat; exact va_alen hx hb hK.1 hf.oP _ 2 hat rfl (am_ofNat n) hd go
    | 3, _, hl => rw [am_e3 hl] at hat; exact va_alen hx hb hK.1 hf.oP _ 3 hat rfl (am_ofNat n) hd go
    | 4, _, hl => rw [am_e4 hl] at hat; exact va_alen hx hb hK.1 hf.oP _ 4 hat rfl (am_ofNat n) hd go
    | 5, _, hl => rw [am_e5 hl] at hat; exact va_alen hx hb hK.1 hf.oP _ 5 hat rfl (am_ofNat n) hd go
    | k + 6, h, _ => exact absurd h (by omega)
theorem so_alenR {X : am_X} (cx : am_cx X) {pc : Nat} {ls : am_L} {st : List AV} {V : am_V} {R : am_T} {T cc cs : Nat} {a kd n w y : Nat} {q : Int} (hd : decode (am_X.bytes X) pc = .ok (.arraylength, 1)) (hl : am_lay a = (kd, n, w, y)) (k1 : am_W X (pc + 1) ls (.inl (w : Int) :: st) V R T cc cs) : am_W X pc ls (.inr (.inr (some (.inr (a, q)))) :: st) V R T cc cs := by
  obtain ⟨p, e, Rm, s, m, args, below, meth, c, QQ, G, own, bytes, nL, Bc, Bs, V0, T0⟩ := X
  obtain ⟨hx, hb, hml, hown, hts, hK, hRc, hRs⟩ := cx
  intro la H locs hf
  have ho := hf.ok _ List.mem_cons_self
  obtain ⟨c1, c2, c3, c4⟩ := am_rowcell (G := G) ho
  have hat := am_ws_at (G := G) (V := V) (R := R) (T := T) c2 c3
  have go := k1 la H locs (hf.pop.push trivial)
  have hkd : kd = 3 ∨ kd = 4 := by have := ho.2.1; rw [hl] at this; exact this
  rcases hkd with rfl | rfl
  · obtain ⟨r1, r2⟩ := am_row3 ho hl
    rw [am_e6 r1, ← c1] at hat
    exact va_alen hx hb hK.1 hf.oP _ 1 hat rfl (am_ofNat w) hd go
  · obtain ⟨r1, r2⟩ := am_row4 ho hl
    rw [am_e7 r1, ← c1] at hat
    exact va_alen hx hb hK.1 hf.oP _ 0 hat rfl (am_ofNat w) hd go
