/-! one instruction each: the abstract step is the machine's -/
theorem so_iload_n {X : am_X} (cx : am_cx X) {pc : Nat} {ls : am_L} {st : List AV} {V : am_V} {R : am_T} {T cc cs : Nat} {i : Fin 4} {z : Int} (hv : am_get ls i.val = some (.inl z)) (hd : decode (am_X.bytes X) pc = .ok (.iload_n i, 1)) (k : am_W X (pc + 1) ls (.inl z :: st) V R T cc cs) : am_W X pc ls st V R T cc cs := by
  obtain ⟨p, e, Rm, s, m, args, below, meth, c, QQ, G, own, bytes, nL, Bc, Bs, V0, T0⟩ := X
  obtain ⟨hx, hb, hml, hown, hts, hK, hRc, hRs⟩ := cx
  intro la H locs hf
  refine lv_iload_n hx hb hd rfl (hf.oL.at hv) ?_
  exact k la H locs (hf.push trivial)
theorem so_lload_n {X : am_X} (cx : am_cx X) {pc : Nat} {ls : am_L} {st : List AV} {V : am_V} {R : am_T} {T cc cs : Nat} {i : Fin 4} {z : Int} (hv : am_get ls i.val = some (.inr (.inl z))) (hd : decode (am_X.bytes X) pc = .ok (.lload_n i, 1)) (k : am_W X (pc + 1) ls (.inr (.inl z) :: st) V R T cc cs) : am_W X pc ls st V R T cc cs := by
  obtain ⟨p, e, Rm, s, m, args, below, meth, c, QQ, G, own, bytes, nL, Bc, Bs, V0, T0⟩ := X
  obtain ⟨hx, hb, hml, hown, hts, hK, hRc, hRs⟩ := cx
  intro la H locs hf
  refine lv_lload_n hx hb hd rfl (hf.oL.at hv) ?_
  exact k la H locs (hf.push trivial)
theorem so_aload_n {X : am_X} (cx : am_cx X) {pc : Nat} {ls : am_L} {st : List AV} {V : am_V} {R : am_T} {T cc cs : Nat} {i : Fin 4} {z : am_Ref} (hv : am_get ls i.val = some (.inr (.inr z))) (hd : decode (am_X.bytes X) pc = .ok (.aload_n i, 1)) (k : am_W X (pc + 1) ls (.inr (.inr z) :: st) V R T cc cs) : am_W X pc ls st V R T cc cs := by
  obtain ⟨p, e, Rm, s, m, args, below, meth, c, QQ, G, own, bytes, nL, Bc, Bs, V0, T0⟩ := X
  obtain ⟨hx, hb, hml, hown, hts, hK, hRc, hRs⟩ := cx
  intro la H locs hf
  have ho := hf.oL.2.2 _ _ hv
  have ha := hf.oL.at hv
  match z, ho, ha with
  | none, ho, ha =>
    refine lv_aload_nN hx hb hd rfl ha ?_
    exact k la H locs (hf.push ho)
  | some (.inl a), ho, ha =>
    refine lv_aload_n hx hb hd rfl ha ?_
    exact k la H locs (hf.push ho)
  | some (.inr (a, i)), ho, ha =>
    refine lv_aload_n hx hb hd rfl ha ?_
    exact k la H locs (hf.push ho)
theorem so_istore_n {X : am_X} (cx : am_cx X) {pc : Nat} {ls : am_L} {st : List AV} {V : am_V} {R : am_T} {T cc cs : Nat} {i : Fin 4} {z : Int} (hn : i.val < am_X.nL X) (hd : decode (am_X.bytes X) pc = .ok (.istore_n i, 1)) (k : am_W X (pc + 1) (am_st1 ls i.val (.inl z)) st V R T cc cs) : am_W X pc ls (.inl z :: st) V R T cc cs := by
  obtain ⟨p, e, Rm, s, m, args, below, meth, c, QQ, G, own, bytes, nL, Bc, Bs, V0, T0⟩ := X
  obtain ⟨hx, hb, hml, hown, hts, hK, hRc, hRs⟩ := cx
  intro la H locs hf
  refine lv_istore_n hx hb hd rfl hf.oL.2.1 hn rfl (fun la hl => ?_)
  exact k la H locs (hf.pop.loc (hf.oL.st1 trivial hl) hf.pop.ok)
theorem so_lstore_n {X : am_X} (cx : am_cx X) {pc : Nat} {ls : am_L} {st : List AV} {V : am_V} {R : am_T} {T cc cs : Nat} {i : Fin 4} {z : Int} (hn : i.val + 1 < am_X.nL X) (hd : decode (am_X.bytes X) pc = .ok (.lstore_n i, 1)) (k : am_W X (pc + 1) (am_st2 ls i.val (.inr (.inl z))) st V R T cc cs) : am_W X pc ls (.inr (.inl z) :: st) V R T cc cs := by
  obtain ⟨p, e, Rm, s, m, args, below, meth, c, QQ, G, own, bytes, nL, Bc, Bs, V0, T0⟩ := X
  obtain ⟨hx, hb, hml, hown, hts, hK, hRc, hRs⟩ := cx
  intro la H locs hf
  refine lv_lstore_n hx hb hd rfl hf.oL.2.1 hn rfl (fun la hl => ?_)
  exact k la H locs (hf.pop.loc (hf.oL.st2 trivial hl) hf.pop.ok)
theorem so_astore_n {X : am_X} (cx : am_cx X) {pc : Nat} {ls : am_L} {st : List AV} {V : am_V} {R : am_T} {T cc cs : Nat} {i : Fin 4} {z : am_Ref} (hn : i.val < am_X.nL X) (hd : decode (am_X.bytes X) pc = .ok (.astore_n i, 1)) (k : am_W X (pc + 1) (am_st1 ls i.val (.inr (.inr z))) st V R T cc cs) : am_W X pc ls (.inr (.inr z) :: st) V R T cc cs := by
  obtain ⟨p, e, Rm, s, m, args, below, meth, c, QQ, G, own, bytes, nL, Bc, Bs, V0, T0⟩ := X
  obtain ⟨hx, hb, hml, hown, hts, hK, hRc, hRs⟩ := cx
  intro la H locs hf
  have ho := hf.ok _ List.mem_cons_self
  match z, ho, k, hf with
  | none, ho, k, hf =>
    refine lv_astore_nN hx hb hd rfl hf.oL.2.1 hn rfl (fun la hl => ?_)
    exact k la H locs (hf.pop.loc (hf.oL.st1 ho hl) hf.pop.ok)
  | some (.inl a), ho, k, hf =>
    refine lv_astore_n hx hb hd rfl hf.oL.2.1 hn rfl (fun la hl => ?_)
    exact k la H locs (hf.pop.loc (hf.oL.st1 ho hl) hf.pop.ok)
  | some (.inr (a, j)), ho, k, hf =>
    refine lv_astore_n hx hb hd rfl hf.oL.2.1 hn rfl (fun la hl => ?_)
    exact k la H locs (hf.pop.loc (hf.oL.st1 ho hl) hf.pop.ok)
theorem so_iload {X : am_X} (cx : am_cx X) {pc : Nat} {ls : am_L} {st : List AV} {V : am_V} {R : am_T} {T cc cs : Nat} {i : Nat} {z : Int} (hv : am_get ls i = some (.inl z)) (hd : decode (am_X.bytes X) pc = .ok (.iload i, 2)) (k : am_W X (pc + 2) ls (.inl z :: st) V R T cc cs) : am_W X pc ls st V R T cc cs := by
  obtain ⟨p, e, Rm, s, m, args, below, meth, c, QQ, G, own, bytes, nL, Bc, Bs, V0, T0⟩ := X
  obtain ⟨hx, hb, hml, hown, hts, hK, hRc, hRs⟩ := cx
  intro la H locs hf
  refine lv_iload hx hb hd (hf.oL.at hv) ?_
  exact k la H locs (hf.push trivial)
theorem so_lload {X : am_X} (cx : am_cx X) {pc : Nat} {ls : am_L} {st : List AV} {V : am_V} {R : am_T} {T cc cs : Nat} {i : Nat} {z : Int} (hv : am_get ls i = some (.inr (.inl z))) (hd : decode (am_X.bytes X) pc = .ok (.lload i, 2)) (k : am_W X (pc + 2) ls (.inr (.inl z) :: st) V R T cc cs) : am_W X pc ls st V R T cc cs := by
  obtain ⟨p, e, Rm, s, m, args, below, meth, c, QQ, G, own, bytes, nL, Bc, Bs, V0, T0⟩ := X
  obtain ⟨hx, hb, hml, hown, hts, hK, hRc, hRs⟩ := cx
  intro la H locs hf
  refine lv_lload hx hb hd (hf.oL.at hv) ?_
  exact k la H locs (hf.push trivial)
theorem so_aload {X : am_X} (cx : am_cx X) {pc : Nat} {ls : am_L} {st : List AV} {V : am_V} {R : am_T} {T cc cs : Nat} {i : Nat} {z : am_Ref} (hv : am_get ls i = some (.inr (.inr z))) (hd : decode (am_X.bytes X) pc = .ok (.aload i, 2)) (k : am_W X (pc + 2) ls (.inr (.inr z) :: st) V R T cc cs) : am_W X pc ls st V R T cc cs := by
  obtain ⟨p, e, Rm, s, m, args, below, meth, c, QQ, G, own, bytes, nL, Bc, Bs, V0, T0⟩ := X
  obtain ⟨hx, hb, hml, hown, hts, hK, hRc, hRs⟩ := cx
  intro la H locs hf
  have ho := hf.oL.2.2 _ _ hv
  have ha := hf.oL.at hv
  match z, ho, ha with
  | none, ho, ha =>
    refine lv_aloadN hx hb hd ha ?_
    exact k la H locs (hf.push ho)
  | some (.inl a), ho, ha =>
    refine lv_aload hx hb hd ha ?_
    exact k la H locs (hf.push ho)
  | some (.inr (a, i)), ho, ha =>
    refine lv_aload hx hb hd ha ?_
    exact k la H locs (hf.push ho)
theorem so_istore {X : am_X} (cx : am_cx X) {pc : Nat} {ls : am_L} {st : List AV} {V : am_V} {R : am_T} {T cc cs : Nat} {i : Nat} {z : Int} (hn : i < am_X.nL X) (hd : decode (am_X.bytes X) pc = .ok (.istore i, 2)) (k : am_W X (pc + 2) (am_st1 ls i (.inl z)) st V R T cc cs) : am_W X pc ls (.inl z :: st) V R T cc cs := by
  obtain ⟨p, e, Rm, s, m, args, below, meth, c, QQ, G, own, bytes, nL, Bc, Bs, V0, T0⟩ := X
  obtain ⟨hx, hb, hml, hown, hts, hK, hRc, hRs⟩ := cx
  intro la H locs hf
  refine lv_istore hx hb hd hf.oL.2.1 hn rfl (fun la hl => ?_)
  exact k la H locs (hf.pop.loc (hf.oL.st1 trivial hl) hf.pop.ok)
theorem so_lstore {X : am_X} (cx : am_cx X) {pc : Nat} {ls : am_L} {st : List AV} {V : am_V} {R : am_T} {T cc cs : Nat} {i : Nat} {z : Int} (hn : i + 1 < am_X.nL X) (hd : decode (am_X.bytes X) pc = .ok (.lstore i, 2)) (k : am_W X (pc + 2) (am_st2 ls i (.inr (.inl z))) st V R T cc cs) : am_W X pc ls (.inr (.inl z) :: st) V R T cc cs := by
  obtain ⟨p, e, Rm, s, m, args, below, meth, c, QQ, G, own, bytes, nL, Bc, Bs, V0, T0⟩ := X
  obtain ⟨hx, hb, hml, hown, hts, hK, hRc, hRs⟩ := cx
  intro la H locs hf
  refine lv_lstore hx hb hd hf.oL.2.1 hn rfl (fun la hl => ?_)
  exact k la H locs (hf.pop.loc (hf.oL.st2 trivial hl) hf.pop.ok)
theorem so_astore {X : am_X} (cx : am_cx X) {pc : Nat} {ls : am_L} {st : List AV} {V : am_V} {R : am_T} {T cc cs : Nat} {i : Nat} {z : am_Ref} (hn : i < am_X.nL X) (hd : decode (am_X.bytes X) pc = .ok (.astore i, 2)) (k : am_W X (pc + 2) (am_st1 ls i (.inr (.inr z))) st V R T cc cs) : am_W X pc ls (.inr (.inr z) :: st) V R T cc cs := by
  obtain ⟨p, e, Rm, s, m, args, below, meth, c, QQ, G, own, bytes, nL, Bc, Bs, V0, T0⟩ := X
  obtain ⟨hx, hb, hml, hown, hts, hK, hRc, hRs⟩ := cx
  intro la H locs hf
  have ho := hf.ok _ List.mem_cons_self
  match z, ho, k, hf with
  | none, ho, k, hf =>
    refine lv_astoreN hx hb hd hf.oL.2.1 hn rfl (fun la hl => ?_)
    exact k la H locs (hf.pop.loc (hf.oL.st1 ho hl) hf.pop.ok)
  | some (.inl a), ho, k, hf =>
    refine lv_astore hx hb hd hf.oL.2.1 hn rfl (fun la hl => ?_)
    exact k la H locs (hf.pop.loc (hf.oL.st1 ho hl) hf.pop.ok)
  | some (.inr (a, j)), ho, k, hf =>
    refine lv_astore hx hb hd hf.oL.2.1 hn rfl (fun la hl => ?_)
    exact k la H locs (hf.pop.loc (hf.oL.st1 ho hl) hf.pop.ok)
theorem so_iinc {X : am_X} (cx : am_cx X) {pc : Nat} {ls : am_L} {st : List AV} {V : am_V} {R : am_T} {T cc cs : Nat} {i : Nat} {x z : Int} (hv : am_get ls i = some (.inl z)) (hn : i < am_X.nL X) (hd : decode (am_X.bytes X) pc = .ok (.iinc i x, 3)) (k : am_W X (pc + 3) (am_st1 ls i (.inl (z + x))) st V R T cc cs) : am_W X pc ls st V R T cc cs := by
  obtain ⟨p, e, Rm, s, m, args, below, meth, c, QQ, G, own, bytes, nL, Bc, Bs, V0, T0⟩ := X
  obtain ⟨hx, hb, hml, hown, hts, hK, hRc, hRs⟩ := cx
  intro la H locs hf
  have hm := (am_asc_mem (G := G) ls 0 (i, am_cv G (.inl z))).mpr ⟨i, _, hv, by rw [Nat.zero_add]⟩
  obtain ⟨q, hq⟩ := List.getElem?_of_mem hm
  refine lv_iinc (k := q) (v := Int32.ofInt (z + x)) hx hb hd hf.oL.2.1 hq (by rw [Int32.ofInt_add]) hn rfl (fun la hl => ?_)
  exact k la H locs (hf.loc (hf.oL.st1 (v := .inl (z + x)) trivial hl) hf.ok)
theorem so_iconst {X : am_X} (cx : am_cx X) {pc : Nat} {ls : am_L} {st : List AV} {V : am_V} {R : am_T} {T cc cs : Nat} {x : Int} (hd : decode (am_X.bytes X) pc = .ok (.iconst x, 1)) (k : am_W X (pc + 1) ls (.inl x :: st) V R T cc cs) : am_W X pc ls st V R T cc cs := by
  obtain ⟨p, e, Rm, s, m, args, below, meth, c, QQ, G, own, bytes, nL, Bc, Bs, V0, T0⟩ := X
  obtain ⟨hx, hb, hml, hown, hts, hK, hRc, hRs⟩ := cx
  intro la H locs hf
  refine lv_iconst (v := Int32.ofInt x) hx hb hd rfl ?_
  exact k la H locs (hf.push trivial)
theorem so_bipush {X : am_X} (cx : am_cx X) {pc : Nat} {ls : am_L} {st : List AV} {V : am_V} {R : am_T} {T cc cs : Nat} {x : Int} (hv : (Int8.ofInt x).toInt32 = Int32.ofInt x) (hd : decode (am_X.bytes X) pc = .ok (.bipush x, 2)) (k : am_W X (pc + 2) ls (.inl x :: st) V R T cc cs) : am_W X pc ls st V R T cc cs := by
  obtain ⟨p, e, Rm, s, m, args, below, meth, c, QQ, G, own, bytes, nL, Bc, Bs, V0, T0⟩ := X
  obtain ⟨hx, hb, hml, hown, hts, hK, hRc, hRs⟩ := cx
  intro la H locs hf
  refine lv_bipush (v := Int32.ofInt x) hx hb hd hv ?_
  exact k la H locs (hf.push trivial)
theorem so_sipush {X : am_X} (cx : am_cx X) {pc : Nat} {ls : am_L} {st : List AV} {V : am_V} {R : am_T} {T cc cs : Nat} {x : Int} (hv : (Int16.ofInt x).toInt32 = Int32.ofInt x) (hd : decode (am_X.bytes X) pc = .ok (.sipush x, 3)) (k : am_W X (pc + 3) ls (.inl x :: st) V R T cc cs) : am_W X pc ls st V R T cc cs := by
  obtain ⟨p, e, Rm, s, m, args, below, meth, c, QQ, G, own, bytes, nL, Bc, Bs, V0, T0⟩ := X
  obtain ⟨hx, hb, hml, hown, hts, hK, hRc, hRs⟩ := cx
  intro la H locs hf
  refine lv_sipush (v := Int32.ofInt x) hx hb hd hv ?_
  exact k la H locs (hf.push trivial)
theorem so_lconst {X : am_X} (cx : am_cx X) {pc : Nat} {ls : am_L} {st : List AV} {V : am_V} {R : am_T} {T cc cs : Nat} {x : Fin 2} (hd : decode (am_X.bytes X) pc = .ok (.lconst x, 1)) (k : am_W X (pc + 1) ls (.inr (.inl (x.val : Int)) :: st) V R T cc cs) : am_W X pc ls st V R T cc cs := by
  obtain ⟨p, e, Rm, s, m, args, below, meth, c, QQ, G, own, bytes, nL, Bc, Bs, V0, T0⟩ := X
  obtain ⟨hx, hb, hml, hown, hts, hK, hRc, hRs⟩ := cx
  intro la H locs hf
  refine lv_lconst (v := Int64.ofInt (x.val : Int)) hx hb hd (by rw [Int64.ofInt_eq_ofNat]) ?_
  exact k la H locs (hf.push trivial)
theorem so_ldc {X : am_X} (cx : am_cx X) {pc : Nat} {ls : am_L} {st : List AV} {V : am_V} {R : am_T} {T cc cs : Nat} {i w : Nat} {z : Int} (hw : lw_tbl[w]? = some (.constant (am_X.own X) i (Int32.ofInt z))) (hd : decode (am_X.bytes X) pc = .ok (.ldc i, 2)) (k : am_W X (pc + 2) ls (.inl z :: st) V R T cc cs) : am_W X pc ls st V R T cc cs := by
  obtain ⟨p, e, Rm, s, m, args, below, meth, c, QQ, G, own, bytes, nL, Bc, Bs, V0, T0⟩ := X
  obtain ⟨hx, hb, hml, hown, hts, hK, hRc, hRs⟩ := cx
  intro la H locs hf
  refine lv_ldc hx hb hown (hts _ (List.mem_of_getElem? hw) rfl) hd ?_
  exact k la H locs (hf.push trivial)
theorem so_ldc_w {X : am_X} (cx : am_cx X) {pc : Nat} {ls : am_L} {st : List AV} {V : am_V} {R : am_T} {T cc cs : Nat} {i w : Nat} {z : Int} (hw : lw_tbl[w]? = some (.constant (am_X.own X) i (Int32.ofInt z))) (hd : decode (am_X.bytes X) pc = .ok (.ldc_w i, 3)) (k : am_W X (pc + 3) ls (.inl z :: st) V R T cc cs) : am_W X pc ls st V R T cc cs := by
  obtain ⟨p, e, Rm, s, m, args, below, meth, c, QQ, G, own, bytes, nL, Bc, Bs, V0, T0⟩ := X
  obtain ⟨hx, hb, hml, hown, hts, hK, hRc, hRs⟩ := cx
  intro la H locs hf
  refine lv_ldcw hx hb hown (hts _ (List.mem_of_getElem? hw) rfl) hd ?_
  exact k la H locs (hf.push trivial)
theorem so_ldc2_w {X : am_X} (cx : am_cx X) {pc : Nat} {ls : am_L} {st : List AV} {V : am_V} {R : am_T} {T cc cs : Nat} {i w : Nat} {z : Int} (hw : lw_tbl[w]? = some (.constantLong (am_X.own X) i (Int64.ofInt z))) (hd : decode (am_X.bytes X) pc = .ok (.ldc2_w i, 3)) (k : am_W X (pc + 3) ls (.inr (.inl z) :: st) V R T cc cs) : am_W X pc ls st V R T cc cs := by
  obtain ⟨p, e, Rm, s, m, args, below, meth, c, QQ, G, own, bytes, nL, Bc, Bs, V0, T0⟩ := X
  obtain ⟨hx, hb, hml, hown, hts, hK, hRc, hRs⟩ := cx
  intro la H locs hf
  refine lv_ldc2 hx hb hown (hts _ (List.mem_of_getElem? hw) rfl) hd ?_
  exact k la H locs (hf.push trivial)
theorem so_aconst_null {X : am_X} (cx : am_cx X) {pc : Nat} {ls : am_L} {st : List AV} {V : am_V} {R : am_T} {T cc cs : Nat}  (hd : decode (am_X.bytes X) pc = .ok (.aconst_null, 1)) (k : am_W X (pc + 1) ls (.inr (.inr none) :: st) V R T cc cs) : am_W X pc ls st V R T cc cs := by
  obtain ⟨p, e, Rm, s, m, args, below, meth, c, QQ, G, own, bytes, nL, Bc, Bs, V0, T0⟩ := X
  obtain ⟨hx, hb, hml, hown, hts, hK, hRc, hRs⟩ := cx
  intro la H locs hf
  refine lv_null hx hb hd ?_
  exact k la H locs (hf.push trivial)
theorem so_iadd {X : am_X} (cx : am_cx X) {pc : Nat} {ls : am_L} {st : List AV} {V : am_V} {R : am_T} {T cc cs : Nat} {a b : Int} (hd : decode (am_X.bytes X) pc = .ok (.iadd, 1)) (k : am_W X (pc + 1) ls (.inl (a + b) :: st) V R T cc cs) : am_W X pc ls (.inl b :: .inl a :: st) V R T cc cs := by
  obtain ⟨p, e, Rm, s, m, args, below, meth, c, QQ, G, own, bytes, nL, Bc, Bs, V0, T0⟩ := X
  obtain ⟨hx, hb, hml, hown, hts, hK, hRc, hRs⟩ := cx
  intro la H locs hf
  refine lv_iadd hx hb hd ?_
  rw [← Int32.ofInt_add]
  exact k la H locs (hf.pop.pop.push trivial)
theorem so_ladd {X : am_X} (cx : am_cx X) {pc : Nat} {ls : am_L} {st : List AV} {V : am_V} {R : am_T} {T cc cs : Nat} {a b : Int} (hd : decode (am_X.bytes X) pc = .ok (.ladd, 1)) (k : am_W X (pc + 1) ls (.inr (.inl (a + b)) :: st) V R T cc cs) : am_W X pc ls (.inr (.inl b) :: .inr (.inl a) :: st) V R T cc cs := by
  obtain ⟨p, e, Rm, s, m, args, below, meth, c, QQ, G, own, bytes, nL, Bc, Bs, V0, T0⟩ := X
  obtain ⟨hx, hb, hml, hown, hts, hK, hRc, hRs⟩ := cx
  intro la H locs hf
  refine lv_ladd hx hb hd ?_
  rw [← Int64.ofInt_add]
  exact k la H locs (hf.pop.pop.push trivial)
theorem so_isub {X : am_X} (cx : am_cx X) {pc : Nat} {ls : am_L} {st : List AV} {V : am_V} {R : am_T} {T cc cs : Nat} {a b : Int} (hd : decode (am_X.bytes X) pc = .ok (.isub, 1)) (k : am_W X (pc + 1) ls (.inl (a - b) :: st) V R T cc cs) : am_W X pc ls (.inl b :: .inl a :: st) V R T cc cs := by
  obtain ⟨p, e, Rm, s, m, args, below, meth, c, QQ, G, own, bytes, nL, Bc, Bs, V0, T0⟩ := X
  obtain ⟨hx, hb, hml, hown, hts, hK, hRc, hRs⟩ := cx
  intro la H locs hf
  refine lv_isub hx hb hd ?_
  rw [← Int32.ofInt_sub]
  exact k la H locs (hf.pop.pop.push trivial)
theorem so_lsub {X : am_X} (cx : am_cx X) {pc : Nat} {ls : am_L} {st : List AV} {V : am_V} {R : am_T} {T cc cs : Nat} {a b : Int} (hd : decode (am_X.bytes X) pc = .ok (.lsub, 1)) (k : am_W X (pc + 1) ls (.inr (.inl (a - b)) :: st) V R T cc cs) : am_W X pc ls (.inr (.inl b) :: .inr (.inl a) :: st) V R T cc cs := by
  obtain ⟨p, e, Rm, s, m, args, below, meth, c, QQ, G, own, bytes, nL, Bc, Bs, V0, T0⟩ := X
  obtain ⟨hx, hb, hml, hown, hts, hK, hRc, hRs⟩ := cx
  intro la H locs hf
  refine lv_lsub hx hb hd ?_
  rw [← Int64.ofInt_sub]
  exact k la H locs (hf.pop.pop.push trivial)
theorem so_imul {X : am_X} (cx : am_cx X) {pc : Nat} {ls : am_L} {st : List AV} {V : am_V} {R : am_T} {T cc cs : Nat} {a b : Int} (hd : decode (am_X.bytes X) pc = .ok (.imul, 1)) (k : am_W X (pc + 1) ls (.inl (a * b) :: st) V R T cc cs) : am_W X pc ls (.inl b :: .inl a :: st) V R T cc cs := by
  obtain ⟨p, e, Rm, s, m, args, below, meth, c, QQ, G, own, bytes, nL, Bc, Bs, V0, T0⟩ := X
  obtain ⟨hx, hb, hml, hown, hts, hK, hRc, hRs⟩ := cx
  intro la H locs hf
  refine lv_imul hx hb hd ?_
  rw [← Int32.ofInt_mul]
  exact k la H locs (hf.pop.pop.push trivial)
theorem so_lmul {X : am_X} (cx : am_cx X) {pc : Nat} {ls : am_L} {st : List AV} {V : am_V} {R : am_T} {T cc cs : Nat} {a b : Int} (hd : decode (am_X.bytes X) pc = .ok (.lmul, 1)) (k : am_W X (pc + 1) ls (.inr (.inl (a * b)) :: st) V R T cc cs) : am_W X pc ls (.inr (.inl b) :: .inr (.inl a) :: st) V R T cc cs := by
  obtain ⟨p, e, Rm, s, m, args, below, meth, c, QQ, G, own, bytes, nL, Bc, Bs, V0, T0⟩ := X
  obtain ⟨hx, hb, hml, hown, hts, hK, hRc, hRs⟩ := cx
  intro la H locs hf
  refine lv_lmul hx hb hd ?_
  rw [← Int64.ofInt_mul]
  exact k la H locs (hf.pop.pop.push trivial)
theorem so_ineg {X : am_X} (cx : am_cx X) {pc : Nat} {ls : am_L} {st : List AV} {V : am_V} {R : am_T} {T cc cs : Nat} {b : Int} (hd : decode (am_X.bytes X) pc = .ok (.ineg, 1)) (k : am_W X (pc + 1) ls (.inl (-b) :: st) V R T cc cs) : am_W X pc ls (.inl b :: st) V R T cc cs := by
  obtain ⟨p, e, Rm, s, m, args, below, meth, c, QQ, G, own, bytes, nL, Bc, Bs, V0, T0⟩ := X
  obtain ⟨hx, hb, hml, hown, hts, hK, hRc, hRs⟩ := cx
  intro la H locs hf
  refine lv_ineg hx hb hd ?_
  rw [← Int32.ofInt_neg]
  exact k la H locs (hf.pop.push trivial)
theorem so_idiv {X : am_X} (cx : am_cx X) {pc : Nat} {ls : am_L} {st : List AV} {V : am_V} {R : am_T} {T cc cs : Nat} {a b : Int} (ha : 0 ≤ a ∧ a ≤ 2147483647) (hb0 : 0 < b ∧ b ≤ 2147483647) (hd : decode (am_X.bytes X) pc = .ok (.idiv, 1)) (k : am_W X (pc + 1) ls (.inl (a / b) :: st) V R T cc cs) : am_W X pc ls (.inl b :: .inl a :: st) V R T cc cs := by
  obtain ⟨p, e, Rm, s, m, args, below, meth, c, QQ, G, own, bytes, nL, Bc, Bs, V0, T0⟩ := X
  obtain ⟨hx, hb, hml, hown, hts, hK, hRc, hRs⟩ := cx
  intro la H locs hf
  refine lv_idiv hx hb hd (i32_ne0 hb0.1 hb0.2) ?_
  rw [i32_div ha.1 ha.2 hb0.1 hb0.2]
  exact k la H locs (hf.pop.pop.push trivial)
theorem so_irem {X : am_X} (cx : am_cx X) {pc : Nat} {ls : am_L} {st : List AV} {V : am_V} {R : am_T} {T cc cs : Nat} {a b : Int} (ha : 0 ≤ a ∧ a ≤ 2147483647) (hb0 : 0 < b ∧ b ≤ 2147483647) (hd : decode (am_X.bytes X) pc = .ok (.irem, 1)) (k : am_W X (pc + 1) ls (.inl (a % b) :: st) V R T cc cs) : am_W X pc ls (.inl b :: .inl a :: st) V R T cc cs := by
  obtain ⟨p, e, Rm, s, m, args, below, meth, c, QQ, G, own, bytes, nL, Bc, Bs, V0, T0⟩ := X
  obtain ⟨hx, hb, hml, hown, hts, hK, hRc, hRs⟩ := cx
  intro la H locs hf
  refine lv_irem hx hb hd (i32_ne0 hb0.1 hb0.2) ?_
  rw [i32_rem ha.1 ha.2 hb0.1 hb0.2]
  exact k la H locs (hf.pop.pop.push trivial)
theorem so_iand {X : am_X} (cx : am_cx X) {pc : Nat} {ls : am_L} {st : List AV} {V : am_V} {R : am_T} {T cc cs : Nat} {a : Int} (hd : decode (am_X.bytes X) pc = .ok (.iand, 1)) (k : am_W X (pc + 1) ls (.inl (a % 32) :: st) V R T cc cs) : am_W X pc ls (.inl 31 :: .inl a :: st) V R T cc cs := by
  obtain ⟨p, e, Rm, s, m, args, below, meth, c, QQ, G, own, bytes, nL, Bc, Bs, V0, T0⟩ := X
  obtain ⟨hx, hb, hml, hown, hts, hK, hRc, hRs⟩ := cx
  intro la H locs hf
  refine lv_iand hx hb hd ?_
  rw [i32_and31]
  exact k la H locs (hf.pop.pop.push trivial)
theorem so_i2l {X : am_X} (cx : am_cx X) {pc : Nat} {ls : am_L} {st : List AV} {V : am_V} {R : am_T} {T cc cs : Nat} {a : Int} (ha : am_in32 a) (hd : decode (am_X.bytes X) pc = .ok (.i2l, 1)) (k : am_W X (pc + 1) ls (.inr (.inl a) :: st) V R T cc cs) : am_W X pc ls (.inl a :: st) V R T cc cs := by
  obtain ⟨p, e, Rm, s, m, args, below, meth, c, QQ, G, own, bytes, nL, Bc, Bs, V0, T0⟩ := X
  obtain ⟨hx, hb, hml, hown, hts, hK, hRc, hRs⟩ := cx
  intro la H locs hf
  refine lv_i2l hx hb hd (i32_i2l ha) ?_
  exact k la H locs (hf.pop.push trivial)
theorem so_i2b {X : am_X} (cx : am_cx X) {pc : Nat} {ls : am_L} {st : List AV} {V : am_V} {R : am_T} {T cc cs : Nat} {a : Int} (hd : decode (am_X.bytes X) pc = .ok (.i2b, 1)) (k : am_W X (pc + 1) ls (.inl (Int.bmod a 256) :: st) V R T cc cs) : am_W X pc ls (.inl a :: st) V R T cc cs := by
  obtain ⟨p, e, Rm, s, m, args, below, meth, c, QQ, G, own, bytes, nL, Bc, Bs, V0, T0⟩ := X
  obtain ⟨hx, hb, hml, hown, hts, hK, hRc, hRs⟩ := cx
  intro la H locs hf
  refine lv_i2b hx hb hd (i32_i2b a) ?_
  exact k la H locs (hf.pop.push trivial)
theorem so_l2i {X : am_X} (cx : am_cx X) {pc : Nat} {ls : am_L} {st : List AV} {V : am_V} {R : am_T} {T cc cs : Nat} {a : Int} (hd : decode (am_X.bytes X) pc = .ok (.l2i, 1)) (k : am_W X (pc + 1) ls (.inl (Int.bmod a 4294967296) :: st) V R T cc cs) : am_W X pc ls (.inr (.inl a) :: st) V R T cc cs := by
  obtain ⟨p, e, Rm, s, m, args, below, meth, c, QQ, G, own, bytes, nL, Bc, Bs, V0, T0⟩ := X
  obtain ⟨hx, hb, hml, hown, hts, hK, hRc, hRs⟩ := cx
  intro la H locs hf
  refine lv_l2i hx hb hd (i64_l2i a) ?_
  exact k la H locs (hf.pop.push trivial)
theorem so_ldiv {X : am_X} (cx : am_cx X) {pc : Nat} {ls : am_L} {st : List AV} {V : am_V} {R : am_T} {T cc cs : Nat} {a b : Int} (ha : 0 ≤ a ∧ a ≤ 9223372036854775807) (hb0 : 0 < b ∧ b ≤ 9223372036854775807) (hd : decode (am_X.bytes X) pc = .ok (.ldiv, 1)) (k : am_W X (pc + 1) ls (.inr (.inl (a / b)) :: st) V R T cc cs) : am_W X pc ls (.inr (.inl b) :: .inr (.inl a) :: st) V R T cc cs := by
  obtain ⟨p, e, Rm, s, m, args, below, meth, c, QQ, G, own, bytes, nL, Bc, Bs, V0, T0⟩ := X
  obtain ⟨hx, hb, hml, hown, hts, hK, hRc, hRs⟩ := cx
  intro la H locs hf
  refine lv_ldiv hx hb hd (i64_ne0 hb0.1 hb0.2) ?_
  rw [i64_div ha.1 ha.2 hb0.1 hb0.2]
  exact k la H locs (hf.pop.pop.push trivial)
theorem so_lrem {X : am_X} (cx : am_cx X) {pc : Nat} {ls : am_L} {st : List AV} {V : am_V} {R : am_T} {T cc cs : Nat} {a b : Int} (ha : am_in64 a) (hb0 : 0 < b ∧ b ≤ 9223372036854775807) (hd : decode (am_X.bytes X) pc = .ok (.lrem, 1)) (k : am_W X (pc + 1) ls (.inr (.inl (Int.tmod a b)) :: st) V R T cc cs) : am_W X pc ls (.inr (.inl b) :: .inr (.inl a) :: st) V R T cc cs := by
  obtain ⟨p, e, Rm, s, m, args, below, meth, c, QQ, G, own, bytes, nL, Bc, Bs, V0, T0⟩ := X
  obtain ⟨hx, hb, hml, hown, hts, hK, hRc, hRs⟩ := cx
  intro la H locs hf
  refine lv_lrem hx hb hd (i64_ne0 hb0.1 hb0.2) ?_
  rw [i64_rem ha hb0.1 hb0.2]
  exact k la H locs (hf.pop.pop.push trivial)
theorem so_land {X : am_X} (cx : am_cx X) {pc : Nat} {ls : am_L} {st : List AV} {V : am_V} {R : am_T} {T cc cs : Nat} {a : Int} (hd : decode (am_X.bytes X) pc = .ok (.land, 1)) (k : am_W X (pc + 1) ls (.inr (.inl (a % 4294967296)) :: st) V R T cc cs) : am_W X pc ls (.inr (.inl 4294967295) :: .inr (.inl a) :: st) V R T cc cs := by
  obtain ⟨p, e, Rm, s, m, args, below, meth, c, QQ, G, own, bytes, nL, Bc, Bs, V0, T0⟩ := X
  obtain ⟨hx, hb, hml, hown, hts, hK, hRc, hRs⟩ := cx
  intro la H locs hf
  refine lv_land hx hb hd ?_
  rw [i64_and32]
  exact k la H locs (hf.pop.pop.push trivial)
theorem so_lor {X : am_X} (cx : am_cx X) {pc : Nat} {ls : am_L} {st : List AV} {V : am_V} {R : am_T} {T cc cs : Nat} {a b : Int} (ha : a % 4294967296 = 0) (hb0 : 0 ≤ b ∧ b < 4294967296) (hd : decode (am_X.bytes X) pc = .ok (.lor, 1)) (k : am_W X (pc + 1) ls (.inr (.inl (a + b)) :: st) V R T cc cs) : am_W X pc ls (.inr (.inl b) :: .inr (.inl a) :: st) V R T cc cs := by
  obtain ⟨p, e, Rm, s, m, args, below, meth, c, QQ, G, own, bytes, nL, Bc, Bs, V0, T0⟩ := X
  obtain ⟨hx, hb, hml, hown, hts, hK, hRc, hRs⟩ := cx
  intro la H locs hf
  refine lv_lor hx hb hd ?_
  rw [i64_or32 ha hb0.1 hb0.2]
  exact k la H locs (hf.pop.pop.push trivial)
theorem so_lxor {X : am_X} (cx : am_cx X) {pc : Nat} {ls : am_L} {st : List AV} {V : am_V} {R : am_T} {T cc cs : Nat} {a b : Int} (ha : am_in64 a) (hb0 : am_in64 b) (hd : decode (am_X.bytes X) pc = .ok (.lxor, 1)) (k : ∀ x : Int, am_in64 x → (x < 0 ↔ ((a < 0 ∧ 0 ≤ b) ∨ (0 ≤ a ∧ b < 0))) → am_W X (pc + 1) ls (.inr (.inl x) :: st) V R T cc cs) : am_W X pc ls (.inr (.inl b) :: .inr (.inl a) :: st) V R T cc cs := by
  obtain ⟨p, e, Rm, s, m, args, below, meth, c, QQ, G, own, bytes, nL, Bc, Bs, V0, T0⟩ := X
  obtain ⟨hx, hb, hml, hown, hts, hK, hRc, hRs⟩ := cx
  intro la H locs hf
  refine lv_lxor hx hb hd ?_
  obtain ⟨x, h1, h2, h3⟩ := i64_xor_sign ha hb0
  rw [h3]
  exact k x h1 h2 la H locs (hf.pop.pop.push trivial)
theorem so_lshl {X : am_X} (cx : am_cx X) {pc : Nat} {ls : am_L} {st : List AV} {V : am_V} {R : am_T} {T cc cs : Nat} {a : Int} (hd : decode (am_X.bytes X) pc = .ok (.lshl, 1)) (k : am_W X (pc + 1) ls (.inr (.inl (a * 4294967296)) :: st) V R T cc cs) : am_W X pc ls (.inl 32 :: .inr (.inl a) :: st) V R T cc cs := by
  obtain ⟨p, e, Rm, s, m, args, below, meth, c, QQ, G, own, bytes, nL, Bc, Bs, V0, T0⟩ := X
  obtain ⟨hx, hb, hml, hown, hts, hK, hRc, hRs⟩ := cx
  intro la H locs hf
  refine lv_lshl hx hb hd (i64_shl32 a) ?_
  exact k la H locs (hf.pop.pop.push trivial)
theorem so_dup {X : am_X} (cx : am_cx X) {pc : Nat} {ls : am_L} {st : List AV} {V : am_V} {R : am_T} {T cc cs : Nat} {v : AV} (hv : ∀ z, v ≠ .inr (.inl z)) (hd : decode (am_X.bytes X) pc = .ok (.dup, 1)) (k : am_W X (pc + 1) ls (v :: v :: st) V R T cc cs) : am_W X pc ls (v :: st) V R T cc cs := by
  obtain ⟨p, e, Rm, s, m, args, below, meth, c, QQ, G, own, bytes, nL, Bc, Bs, V0, T0⟩ := X
  obtain ⟨hx, hb, hml, hown, hts, hK, hRc, hRs⟩ := cx
  intro la H locs hf
  refine lv_dup hx hb hd (am_cat1 hv) ?_
  exact k la H locs (hf.push (hf.ok v List.mem_cons_self))
theorem so_pop {X : am_X} (cx : am_cx X) {pc : Nat} {ls : am_L} {st : List AV} {V : am_V} {R : am_T} {T cc cs : Nat} {v : AV} (hv : ∀ z, v ≠ .inr (.inl z)) (hd : decode (am_X.bytes X) pc = .ok (.pop, 1)) (k : am_W X (pc + 1) ls st V R T cc cs) : am_W X pc ls (v :: st) V R T cc cs := by
  obtain ⟨p, e, Rm, s, m, args, below, meth, c, QQ, G, own, bytes, nL, Bc, Bs, V0, T0⟩ := X
  obtain ⟨hx, hb, hml, hown, hts, hK, hRc, hRs⟩ := cx
  intro la H locs hf
  refine lv_pop hx hb hd (am_cat1 hv) ?_
  exact k la H locs hf.pop
theorem so_dup2 {X : am_X} (cx : am_cx X) {pc : Nat} {ls : am_L} {st : List AV} {V : am_V} {R : am_T} {T cc cs : Nat} {b : Int} {a : am_Ref} (hd : decode (am_X.bytes X) pc = .ok (.dup2, 1)) (k : am_W X (pc + 1) ls (.inl b :: .inr (.inr a) :: .inl b :: .inr (.inr a) :: st) V R T cc cs) : am_W X pc ls (.inl b :: .inr (.inr a) :: st) V R T cc cs := by
  obtain ⟨p, e, Rm, s, m, args, below, meth, c, QQ, G, own, bytes, nL, Bc, Bs, V0, T0⟩ := X
  obtain ⟨hx, hb, hml, hown, hts, hK, hRc, hRs⟩ := cx
  intro la H locs hf
  refine lv_dup2_11 hx hb hd rfl (am_cat1 (v := .inr (.inr a)) (fun z h => by cases h)) ?_
  exact k la H locs ((hf.push (hf.pop.ok _ List.mem_cons_self)).push trivial)
theorem so_goto {X : am_X} (cx : am_cx X) {pc : Nat} {ls : am_L} {st : List AV} {V : am_V} {R : am_T} {T cc cs : Nat} {x : Int} {t : Nat} (ht : (pc : Int) + x = (t : Int)) (hd : decode (am_X.bytes X) pc = .ok (.goto x, 3)) (k : am_W X t ls st V R T cc cs) : am_W X pc ls st V R T cc cs := by
  obtain ⟨p, e, Rm, s, m, args, below, meth, c, QQ, G, own, bytes, nL, Bc, Bs, V0, T0⟩ := X
  obtain ⟨hx, hb, hml, hown, hts, hK, hRc, hRs⟩ := cx
  intro la H locs hf
  refine lv_goto hx hb hd ht ?_
  exact k la H locs hf
theorem so_if_icmp {X : am_X} (cx : am_cx X) {pc : Nat} {ls : am_L} {st : List AV} {V : am_V} {R : am_T} {T cc cs : Nat} {q : ClassFile.Cond} {a b x : Int} {t : Nat} (ha : am_in32 a) (hb0 : am_in32 b) (ht : (pc : Int) + x = (t : Int)) (hd : decode (am_X.bytes X) pc = .ok (.if_icmp q x, 3)) (k : am_br q a b (am_W X t ls st V R T cc cs) (am_W X (pc + 3) ls st V R T cc cs)) : am_W X pc ls (.inl b :: .inl a :: st) V R T cc cs := by
  obtain ⟨p, e, Rm, s, m, args, below, meth, c, QQ, G, own, bytes, nL, Bc, Bs, V0, T0⟩ := X
  obtain ⟨hx, hb, hml, hown, hts, hK, hRc, hRs⟩ := cx
  intro la H locs hf
  have hb1 : am_in32 b := hb0
  have eL := i32_lt ha hb1
  have eE := i32_eq ha hb1
  have eM := i32_lt hb1 ha
  have eN := i32_le ha hb1
  have eO := i32_le hb1 ha
  have hp : am_fr G s V0 T0 nL Bc Bs ls st V R T cc cs la H locs := hf.pop.pop
  cases q with
  | eq =>
    refine lv_icmp_eq hx hb hd ht (fun h => ?_) (fun h => ?_)
    · exact k.1 (eE.mp h) la H locs hp
    · exact k.2 (fun w => h (eE.mpr w)) la H locs hp
  | ne =>
    refine lv_icmp_ne hx hb hd ht (fun h => ?_) (fun h => ?_)
    · exact k.1 (fun w => by first | exact h (eE.mpr w) | exact absurd (eE.mpr w) h) la H locs hp
    · exact k.2 (eE.mp (by first | exact h | exact Decidable.of_not_not h)) la H locs hp
  | lt =>
    refine lv_icmp_lt hx hb hd ht (fun h => ?_) (fun h => ?_)
    · exact k.1 (eL.mp h) la H locs hp
    · exact k.2 (Int.not_lt.mp (fun w => h (eL.mpr w))) la H locs hp
  | ge =>
    refine lv_icmp_ge hx hb hd ht (fun h => ?_) (fun h => ?_)
    · exact k.1 (eO.mp h) la H locs hp
    · exact k.2 (Int.not_le.mp (fun w => h (eO.mpr w))) la H locs hp
  | gt =>
    refine lv_icmp_gt hx hb hd ht (fun h => ?_) (fun h => ?_)
    · exact k.1 (eM.mp h) la H locs hp
    · exact k.2 (Int.not_lt.mp (fun w => h (eM.mpr w))) la H locs hp
  | le =>
    refine lv_icmp_le hx hb hd ht (fun h => ?_) (fun h => ?_)
    · exact k.1 (eN.mp h) la H locs hp
    · exact k.2 (Int.not_le.mp (fun w => h (eN.mpr w))) la H locs hp
theorem so_ifCond {X : am_X} (cx : am_cx X) {pc : Nat} {ls : am_L} {st : List AV} {V : am_V} {R : am_T} {T cc cs : Nat} {q : ClassFile.Cond} {a x : Int} {t : Nat} (ha : am_in32 a) (ht : (pc : Int) + x = (t : Int)) (hd : decode (am_X.bytes X) pc = .ok (.ifCond q x, 3)) (k : am_br q a 0 (am_W X t ls st V R T cc cs) (am_W X (pc + 3) ls st V R T cc cs)) : am_W X pc ls (.inl a :: st) V R T cc cs := by
  obtain ⟨p, e, Rm, s, m, args, below, meth, c, QQ, G, own, bytes, nL, Bc, Bs, V0, T0⟩ := X
  obtain ⟨hx, hb, hml, hown, hts, hK, hRc, hRs⟩ := cx
  intro la H locs hf
  have hb1 : am_in32 0 := ⟨by decide, by decide⟩
  have eL := i32_lt ha hb1
  have eE := i32_eq ha hb1
  have eM := i32_lt hb1 ha
  have eN := i32_le ha hb1
  have eO := i32_le hb1 ha
  have hp : am_fr G s V0 T0 nL Bc Bs ls st V R T cc cs la H locs := hf.pop
  cases q with
  | eq =>
    refine lv_if_eq hx hb hd ht (fun h => ?_) (fun h => ?_)
    · exact k.1 (eE.mp h) la H locs hp
    · exact k.2 (fun w => h (eE.mpr w)) la H locs hp
  | ne =>
    refine lv_if_ne hx hb hd ht (fun h => ?_) (fun h => ?_)
    · exact k.1 (fun w => by first | exact h (eE.mpr w) | exact absurd (eE.mpr w) h) la H locs hp
    · exact k.2 (eE.mp (by first | exact h | exact Decidable.of_not_not h)) la H locs hp
  | lt =>
    refine lv_if_lt hx hb hd ht (fun h => ?_) (fun h => ?_)
    · exact k.1 (eL.mp h) la H locs hp
    · exact k.2 (Int.not_lt.mp (fun w => h (eL.mpr w))) la H locs hp
  | ge =>
    refine lv_if_ge hx hb hd ht (fun h => ?_) (fun h => ?_)
    · exact k.1 (eO.mp h) la H locs hp
    · exact k.2 (Int.not_le.mp (fun w => h (eO.mpr w))) la H locs hp
  | gt =>
    refine lv_if_gt hx hb hd ht (fun h => ?_) (fun h => ?_)
    · exact k.1 (eM.mp h) la H locs hp
    · exact k.2 (Int.not_lt.mp (fun w => h (eM.mpr w))) la H locs hp
  | le =>
    refine lv_if_le hx hb hd ht (fun h => ?_) (fun h => ?_)
    · exact k.1 (eN.mp h) la H locs hp
    · exact k.2 (Int.not_le.mp (fun w => h (eN.mpr w))) la H locs hp
theorem so_ifnull {X : am_X} (cx : am_cx X) {pc : Nat} {ls : am_L} {st : List AV} {V : am_V} {R : am_T} {T cc cs : Nat} {z : am_Ref} {x : Int} {t : Nat} (ht : (pc : Int) + x = (t : Int)) (hd : decode (am_X.bytes X) pc = .ok (.ifnull x, 3)) (k : (z = none → am_W X t ls st V R T cc cs) ∧ (∀ y, z = some y → am_W X (pc + 3) ls st V R T cc cs)) : am_W X pc ls (.inr (.inr z) :: st) V R T cc cs := by
  obtain ⟨p, e, Rm, s, m, args, below, meth, c, QQ, G, own, bytes, nL, Bc, Bs, V0, T0⟩ := X
  obtain ⟨hx, hb, hml, hown, hts, hK, hRc, hRs⟩ := cx
  intro la H locs hf
  match z, k, hf with
  | none, k, hf =>
    refine lv_ifnullN hx hb hd ht ?_
    exact k.1 rfl la H locs hf.pop
  | some (.inl a), k, hf =>
    refine lv_ifnull hx hb hd ?_
    exact k.2 _ rfl la H locs hf.pop
  | some (.inr (a, i)), k, hf =>
    refine lv_ifnull hx hb hd ?_
    exact k.2 _ rfl la H locs hf.pop
theorem so_ifnonnull {X : am_X} (cx : am_cx X) {pc : Nat} {ls : am_L} {st : List AV} {V : am_V} {R : am_T} {T cc cs : Nat} {z : am_Ref} {x : Int} {t : Nat} (ht : (pc : Int) + x = (t : Int)) (hd : decode (am_X.bytes X) pc = .ok (.ifnonnull x, 3)) (k : (∀ y, z = some y → am_W X t ls st V R T cc cs) ∧ (z = none → am_W X (pc + 3) ls st V R T cc cs)) : am_W X pc ls (.inr (.inr z) :: st) V R T cc cs := by
  obtain ⟨p, e, Rm, s, m, args, below, meth, c, QQ, G, own, bytes, nL, Bc, Bs, V0, T0⟩ := X
  obtain ⟨hx, hb, hml, hown, hts, hK, hRc, hRs⟩ := cx
  intro la H locs hf
  match z, k, hf with
  | none, k, hf =>
    refine lv_ifnonnullN hx hb hd ?_
    exact k.2 rfl la H locs hf.pop
  | some (.inl a), k, hf =>
    refine lv_ifnonnull hx hb hd ht ?_
    exact k.1 _ rfl la H locs hf.pop
  | some (.inr (a, i)), k, hf =>
    refine lv_ifnonnull hx hb hd ht ?_
    exact k.1 _ rfl la H locs hf.pop
