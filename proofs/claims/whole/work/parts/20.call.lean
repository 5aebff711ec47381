/-! calls: Math's, and our own -/
theorem so_mmax {X : am_X} (cx : am_cx X) {pc : Nat} {ls : am_L} {st : List AV} {V : am_V} {R : am_T} {T cc cs : Nat} {i w1 w2 w3 w4 : Nat} {a b : Int} (hd : decode (am_X.bytes X) pc = .ok (.invokestatic i, 3)) (h1 : lw_tbl[w1]? = some (.methodLink (am_X.own X) i Lib.Math.max.name)) (h2 : lw_tbl[w2]? = some (.static Lib.Math.max.name)) (h3 : lw_tbl[w3]? = some (.code Lib.Math.max.name Lib.Math.max.code 2 (some .int))) (h4 : lw_tbl[w4]? = some (.initialized "java/lang/Math")) (hfr : 1 ≤ (am_X.Rm X).frames) (hlo : 36 ≤ (am_X.Rm X).locals) (hc : am_cats st ≤ 8) (ha : am_in32 a) (hb0 : am_in32 b) (k1 : a < b → am_W X (pc + 3) ls (.inl b :: st) V R T cc cs) (k2 : b ≤ a → am_W X (pc + 3) ls (.inl a :: st) V R T cc cs) : am_W X pc ls (.inl b :: .inl a :: st) V R T cc cs := by
  obtain ⟨p, e, Rm, s, me, args, below, meth, c, QQ, G, own, bytes, nL, Bc, Bs, V0, T0⟩ := X
  obtain ⟨hx, hb, hml, hown, hts, hK, hRc, hRs⟩ := cx
  intro la H locs hf
  have hlo : 36 ≤ Rm.locals := hlo
  have hcs := am_cats_sum (G := G) st
  refine va_mmax hx hb (by rw [hml]; exact hf.oL.2.1.1.symm) hown (hts _ (List.mem_of_getElem? h1) rfl) (hts _ (List.mem_of_getElem? h2) rfl) (hts _ (List.mem_of_getElem? h4) rfl) (hts _ (List.mem_of_getElem? h3) rfl) hfr (by omega) (by rw [hRc]; exact hf.oB.1) (by rw [hRs]; exact hf.oB.2) hd ?_
  by_cases h : a < b
  · rw [if_pos ((i32_lt ha hb0).mpr h)]
    exact k1 h la H locs (hf.pop.pop.push trivial)
  · rw [if_neg (fun q => h ((i32_lt ha hb0).mp q))]
    exact k2 (by omega) la H locs (hf.pop.pop.push trivial)
theorem so_mmin {X : am_X} (cx : am_cx X) {pc : Nat} {ls : am_L} {st : List AV} {V : am_V} {R : am_T} {T cc cs : Nat} {i w1 w2 w3 w4 : Nat} {a b : Int} (hd : decode (am_X.bytes X) pc = .ok (.invokestatic i, 3)) (h1 : lw_tbl[w1]? = some (.methodLink (am_X.own X) i Lib.Math.min.name)) (h2 : lw_tbl[w2]? = some (.static Lib.Math.min.name)) (h3 : lw_tbl[w3]? = some (.code Lib.Math.min.name Lib.Math.min.code 2 (some .int))) (h4 : lw_tbl[w4]? = some (.initialized "java/lang/Math")) (hfr : 1 ≤ (am_X.Rm X).frames) (hlo : 36 ≤ (am_X.Rm X).locals) (hc : am_cats st ≤ 8) (ha : am_in32 a) (hb0 : am_in32 b) (k1 : a ≤ b → am_W X (pc + 3) ls (.inl a :: st) V R T cc cs) (k2 : b < a → am_W X (pc + 3) ls (.inl b :: st) V R T cc cs) : am_W X pc ls (.inl b :: .inl a :: st) V R T cc cs := by
  obtain ⟨p, e, Rm, s, me, args, below, meth, c, QQ, G, own, bytes, nL, Bc, Bs, V0, T0⟩ := X
  obtain ⟨hx, hb, hml, hown, hts, hK, hRc, hRs⟩ := cx
  intro la H locs hf
  have hlo : 36 ≤ Rm.locals := hlo
  have hcs := am_cats_sum (G := G) st
  refine va_mmin hx hb (by rw [hml]; exact hf.oL.2.1.1.symm) hown (hts _ (List.mem_of_getElem? h1) rfl) (hts _ (List.mem_of_getElem? h2) rfl) (hts _ (List.mem_of_getElem? h4) rfl) (hts _ (List.mem_of_getElem? h3) rfl) hfr (by omega) (by rw [hRc]; exact hf.oB.1) (by rw [hRs]; exact hf.oB.2) hd ?_
  by_cases h : b < a
  · rw [if_pos ((i32_lt hb0 ha).mpr h)]
    exact k2 h la H locs (hf.pop.pop.push trivial)
  · rw [if_neg (fun q => h ((i32_lt hb0 ha).mp q))]
    exact k1 (by omega) la H locs (hf.pop.pop.push trivial)
theorem am_tmod_neg {a b : Int} (ha : a < 0) (hb : 0 < b) : (a.tmod b = 0 → a % b = 0) ∧ (a.tmod b ≠ 0 → a % b = a.tmod b + b) ∧ -b < a.tmod b ∧ a.tmod b ≤ 0 := by
  have e := Int.mul_tdiv_add_tmod a b
  have h1 : -b < a.tmod b := (tmod_bounds hb).1
  have h2 : a.tmod b ≤ 0 := by
    have := Int.tmod_nonneg b (show 0 ≤ -a by omega)
    rw [Int.neg_tmod] at this
    omega
  have h3 : a % b = (a.tmod b) % b := by
    conv => lhs; rw [← e]
    rw [Int.mul_add_emod_self_left]
  refine ⟨fun h => by rw [h3, h]; exact Int.zero_emod b, fun h => ?_, h1, h2⟩
  rw [h3, ← Int.add_emod_right, Int.emod_eq_of_lt (by omega) (by omega)]
theorem am_floorMod {a b : Int} (ha : am_in64 a) (hb : 0 < b) (hb2 : b ≤ 9223372036854775807) : Jvm.Free.JP.Math_floorMod_JJ.val (Int64.ofInt a) (Int64.ofInt b) = Int64.ofInt (a % b) := by
  unfold Jvm.Free.JP.Math_floorMod_JJ.val
  have hbi : am_in64 b := ⟨by omega, hb2⟩
  obtain ⟨x, x1, x2, x3⟩ := i64_xor_sign ha hbi
  rw [x3, i64_rem ha hb hb2]
  have h0 : Int64.ofInt x < 0 ↔ x < 0 := i64_lt x1 (show am_in64 0 from ⟨by decide, by decide⟩)
  have hr : am_in64 (a.tmod b) := by
    have := tmod_bounds (a := a) hb
    exact ⟨by omega, by omega⟩
  have h1 : Int64.ofInt (a.tmod b) = 0 ↔ a.tmod b = 0 := i64_eq hr (show am_in64 0 from ⟨by decide, by decide⟩)
  by_cases hneg : a < 0
  · obtain ⟨n1, n2, -, -⟩ := am_tmod_neg hneg hb
    rw [if_pos (h0.mpr (x2.mpr (Or.inl ⟨hneg, by omega⟩)))]
    by_cases hz : a.tmod b = 0
    · rw [if_pos (h1.mpr hz), hz, n1 hz]
    · rw [if_neg (fun q => hz (h1.mp q)), n2 hz, Int64.ofInt_add]
  · rw [if_neg (fun q => by have := x2.mp (h0.mp q); omega), Int.tmod_eq_emod_of_nonneg (by omega)]
theorem so_floorMod {X : am_X} (cx : am_cx X) {pc : Nat} {ls : am_L} {st : List AV} {V : am_V} {R : am_T} {T cc cs : Nat} {i w1 w2 w3 w4 : Nat} {a b : Int} (hd : decode (am_X.bytes X) pc = .ok (.invokestatic i, 3)) (h1 : lw_tbl[w1]? = some (.methodLink (am_X.own X) i Jvm.Free.JP.Math_floorMod_JJ.yN)) (h2 : lw_tbl[w2]? = some (.static Jvm.Free.JP.Math_floorMod_JJ.yN)) (h3 : lw_tbl[w3]? = some (.code Jvm.Free.JP.Math_floorMod_JJ.yN Jvm.Free.JP.Math_floorMod_JJ.yB 6 (some .long))) (h4 : lw_tbl[w4]? = some (.initialized "java/lang/Math")) (hfr : 1 ≤ (am_X.Rm X).frames) (hlo : 36 ≤ (am_X.Rm X).locals) (hc : am_cats st ≤ 8) (ha : am_in64 a) (hb0 : 0 < b) (hb1 : b ≤ 9223372036854775807) (kk : am_W X (pc + 3) ls (.inr (.inl (a % b)) :: st) V R T cc cs) : am_W X pc ls (.inr (.inl b) :: .inr (.inl a) :: st) V R T cc cs := by
  obtain ⟨p, e, Rm, s, me, args, below, meth, c, QQ, G, own, bytes, nL, Bc, Bs, V0, T0⟩ := X
  obtain ⟨hx, hb, hml, hown, hts, hK, hRc, hRs⟩ := cx
  intro la H locs hf
  have hlo : 36 ≤ Rm.locals := hlo
  have hcs := am_cats_sum (G := G) st
  have q1 := hts _ (List.mem_of_getElem? h1) rfl
  have q2 := hts _ (List.mem_of_getElem? h2) rfl
  have q3 := hts _ (List.mem_of_getElem? h3) rfl
  have q4 := hts _ (List.mem_of_getElem? h4) rfl
  have htab : Jvm.Free.JP.Math_floorMod_JJ.tab.before args s = true := Jvm.Free.XT.unparts q3 (fun w hw => by
    have : w = .initialized Jvm.Free.JP.Math_floorMod_JJ.yN.cls := by
      simpa [Jvm.Free.JP.Math_floorMod_JJ.site] using hw
    rw [this]
    exact q4)
  intro T' hT' Xs
  obtain ⟨v, vm₁, ⟨U', l2, c2, s2⟩, hW₁, X', ⟨⟨hE1, hE2⟩, g1, g2, g3⟩, step⟩ := callS Xs hx (bytes := Jvm.Free.JP.Math_floorMod_JJ.yB) (maxL := 6) (ret := some .long) hown q1 q2 q4 q3 ⟨by decide, by decide⟩ (Jvm.Free.JP.Math_floorMod_JJ.pays (W := 8) (Int64.ofInt a) (Int64.ofInt b) htab hfr (by omega)) (g := F0 me pc la (.long (Int64.ofInt b) :: .long (Int64.ofInt a) :: st.map (am_cv G))) rfl (by rw [hml]; exact hf.oL.2.1.1) (argsL := [.long (Int64.ofInt a), .long (Int64.ofInt b)]) (rest := st.map (am_cv G)) (fun sig h => by
      have e9 : (parseMethodDescriptor Jvm.Free.JP.Math_floorMod_JJ.yN.desc).map (fun d => d.parameters.length) = some 2 := by decide +kernel
      rw [h] at e9
      exact (Option.some.inj e9).symm) rfl (lv_room (by omega)) (by rw [hb]; exact hd) (fun vm₁ _ => ⟨by show cc + 0 ≤ _; rw [hRc]; exact hf.oB.1, by show cs + 0 ≤ _; rw [hRs]; exact hf.oB.2, rfl, i64_ne0 hb0 hb1⟩)
  dsimp only [Pt.U, Pt.locs, Pt.cells, Pt.slots] at X' hE2 g1 g2 g3 step
  subst g1; subst g2; subst g3
  subst hE1
  rw [List.append_nil] at X'
  rw [am_floorMod ha hb0 hb1] at step
  obtain ⟨t, a1, b1⟩ := kk la H locs (hf.pop.pop.push trivial) U' (by rw [hE2]; exact hT') X'
  exact ⟨t, step t a1, b1⟩
def am_room0 (d bc bs : Nat) : Room := { frames := d, cells := bc, slots := bs, locals := 36 * d }
def am_words (μ : am_M) : List Jvm.Cond := .code (am_M.y μ) (am_M.bytes μ) (am_M.nL μ) (am_M.ret μ) :: am_gw
def am_Pc (G : am_G) (as : List AV) (V : am_V) (R : am_T) (T : Nat) : Array Value → State → Prop := fun a U => a = (as.map (am_cv G)).toArray ∧ U.heap.size = am_G.b G + (T - 3) ∧ 3 ≤ T ∧ va_P (am_G.D G) am_cls (am_ws G V R T) U.heap ∧ am_okR R T ∧ (∀ v ∈ as, am_okv T v) ∧ am_K G V U
def am_Qc (G : am_G) (V : am_V) (T : Nat) (Q : Option AV → am_V → am_T → Nat → Prop) : Array Value → State → Outcome → State → Prop := fun _ st o t => (∃ (v : Option AV) (V' : am_V) (R' : am_T) (T' : Nat), o = .returned (v.map (am_cv G)) ∧ Q v V' R' T' ∧ t.heap.size = am_G.b G + (T' - 3) ∧ T ≤ T' ∧ va_P (am_G.D G) am_cls (am_ws G V' R' T') t.heap ∧ am_okR R' T' ∧ (∀ e, e < 3 → V' e = V e) ∧ (∀ x, v = some x → am_okv T' x)) ∧ va_F (fun q => am_G.b G ≤ q) st t
/-- a call of method ix, d frames deep at most, from this memory: it comes back with Q -/
def am_Calls (G : am_G) (d ix : Nat) (as : List AV) (V : am_V) (R : am_T) (T : Nat) (Q : Option AV → am_V → am_T → Nat → Prop) : Prop := ∃ μ, am_mt[ix]? = some μ ∧ Met (am_G.l G) (am_M.y μ) (am_words μ) (am_room0 d (am_M.bc μ) (am_M.bs μ)) (am_Pc G as V R T) (am_Qc G V T Q) (am_M.bc μ) (am_M.bs μ) (fun q => am_G.b G ≤ q)
theorem am_K.moved {G : am_G} {V0 : am_V} {u U : State} (hvm : u.vm.Alike U.vm) (hh : ∀ q, q < u.heap.size → ¬ am_G.b G ≤ q → U.heap[q]? = u.heap[q]?) (h : am_K G V0 u) : am_K G V0 U := by
  obtain ⟨h1, h2, h3, h4, h5, h6, h7, h8, h9, h10⟩ := h
  exact ⟨va_K.moved hvm h1, va_AO.moved hvm h2, Jvm.Stand.arrayOver_alikeB hvm h3, Jvm.Stand.arrayOver_alikeB hvm h4, (va_Z.moved hvm h5).kept hh, (va_Z.moved hvm h6).kept hh, h7, (va_T.moved hvm h8).kept hh, (va_T.moved hvm h9).kept hh, (va_T.moved hvm h10).kept hh⟩
theorem am_blind {G : am_G} {as : List AV} {V : am_V} {R : am_T} {T : Nat} : FrameBlind (am_Pc G as V R T) := by
  intro a U g mk q
  obtain ⟨q0, q1, q2, q3, q4, q5, q6⟩ := q
  exact ⟨q0, q1, q2, q3, q4, q5, am_K.moved (u := U) (U := U.calling g mk a) (Vm.Alike.refl U.vm) (fun _ _ _ => rfl) q6⟩
