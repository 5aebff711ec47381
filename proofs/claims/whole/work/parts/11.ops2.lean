theorem am_if_of {b : Bool} {P : Prop} (h : am_if b P) : b = true ∧ P := by
  cases b with
  | true => exact ⟨rfl, h⟩
  | false => exact False.elim h
theorem am_len31 (a : Nat) : (am_lay a).2.1 < 2 ^ 31 := Nat.lt_trans (am_lay_len a).1 (by decide)
theorem so_lcmp {X : am_X} (cx : am_cx X) {pc : Nat} {ls : am_L} {st : List AV} {V : am_V} {R : am_T} {T cc cs : Nat} {q : ClassFile.Cond} {a b x : Int} {t : Nat} (ha : am_in64 a) (hb0 : am_in64 b) (ht : ((pc + 1 : Nat) : Int) + x = (t : Int)) (hd : decode (am_X.bytes X) pc = .ok (.lcmp, 1)) (hd2 : decode (am_X.bytes X) (pc + 1) = .ok (.ifCond q x, 3)) (k : am_br q a b (am_W X t ls st V R T cc cs) (am_W X (pc + 1 + 3) ls st V R T cc cs)) : am_W X pc ls (.inr (.inl b) :: .inr (.inl a) :: st) V R T cc cs := by
  obtain ⟨p, e, Rm, s, m, args, below, meth, c, QQ, G, own, bytes, nL, Bc, Bs, V0, T0⟩ := X
  obtain ⟨hx, hb, hml, hown, hts, hK, hRc, hRs⟩ := cx
  intro la H locs hf
  have eL := i64_lt ha hb0
  have eE := i64_eq ha hb0
  have eM := i64_lt hb0 ha
  have eN := i64_le ha hb0
  have eO := i64_le hb0 ha
  have hp : am_fr G s V0 T0 nL Bc Bs ls st V R T cc cs la H locs := hf.pop.pop
  refine W.lcmp hx hb hd ?_
  cases q with
  | eq =>
    refine lv_if_eq hx hb hd2 ht (fun h => ?_) (fun h => ?_)
    · exact k.1 (eE.mp ((lg_cmp_eq _ _).mp h)) la H locs hp
    · exact k.2 (fun w => h ((lg_cmp_eq _ _).mpr (eE.mpr w))) la H locs hp
  | ne =>
    refine lv_if_ne hx hb hd2 ht (fun h => ?_) (fun h => ?_)
    · exact k.1 (fun w => absurd ((lg_cmp_eq _ _).mpr (eE.mpr w)) h) la H locs hp
    · exact k.2 (eE.mp ((lg_cmp_eq _ _).mp (by first | exact h | exact Decidable.of_not_not h))) la H locs hp
  | lt =>
    refine lv_if_lt hx hb hd2 ht (fun h => ?_) (fun h => ?_)
    · exact k.1 (eL.mp ((lg_cmp_lt _ _).mp h)) la H locs hp
    · exact k.2 (Int.not_lt.mp (fun w => h ((lg_cmp_lt _ _).mpr (eL.mpr w)))) la H locs hp
  | ge =>
    refine lv_if_ge hx hb hd2 ht (fun h => ?_) (fun h => ?_)
    · exact k.1 (eO.mp ((lg_cmp_ge _ _).mp h)) la H locs hp
    · exact k.2 (Int.not_le.mp (fun w => h ((lg_cmp_ge _ _).mpr (eO.mpr w)))) la H locs hp
  | gt =>
    refine lv_if_gt hx hb hd2 ht (fun h => ?_) (fun h => ?_)
    · exact k.1 (eM.mp ((lg_cmp_gt _ _).mp h)) la H locs hp
    · exact k.2 (Int.not_lt.mp (fun w => h ((lg_cmp_gt _ _).mpr (eM.mpr w)))) la H locs hp
  | le =>
    refine lv_if_le hx hb hd2 ht (fun h => ?_) (fun h => ?_)
    · exact k.1 (eN.mp ((lg_cmp_le _ _).mp h)) la H locs hp
    · exact k.2 (Int.not_le.mp (fun w => h ((lg_cmp_le _ _).mpr (eN.mpr w)))) la H locs hp
theorem am_sw_at {k : Nat → Prop} : ∀ (l : List Nat) (z lo : Int) (d : Nat), am_sw l z lo k d → (∀ (i t : Nat), l[i]? = some t → z = lo + (i : Int) → k t) ∧ ((z < lo ∨ lo + l.length ≤ z) → k d)
  | [], z, lo, d, h => ⟨fun i t hi => by simp at hi, fun _ => h⟩
  | t :: l, z, lo, d, h => by
    obtain ⟨h1, h2⟩ := h
    refine ⟨fun i t' hi hz => ?_, fun hz => ?_⟩
    · cases i with
      | zero =>
        have : t = t' := by simpa using hi
        subst this
        exact h1 (by simpa using hz)
      | succ i =>
        have hne : ¬ z = lo := by omega
        exact (am_sw_at l z (lo + 1) d (h2 hne)).1 i t' (by simpa using hi) (by omega)
    · have hl : (t :: l).length = l.length + 1 := rfl
      have hne : ¬ z = lo := by omega
      exact (am_sw_at l z (lo + 1) d (h2 hne)).2 (by omega)
theorem so_tableswitch {X : am_X} (cx : am_cx X) {pc len : Nat} {ls : am_L} {st : List AV} {V : am_V} {R : am_T} {T cc cs : Nat} {a dflt lo hi : Int} {offs : Array Int} {ts : List Nat} {d : Nat} {k : Nat → Prop} (ha : am_in32 a) (hd : decode (am_X.bytes X) pc = .ok (.tableswitch dflt lo hi offs, len)) (hdd : (pc : Int) + dflt = (d : Int)) (hts' : offs.toList.map (fun o => (pc : Int) + o) = ts.map (fun t : Nat => (t : Int))) (hhi : hi = lo + ts.length - 1) (h : am_sw ts a lo k d) (hk : ∀ t, k t → am_W X t ls st V R T cc cs) : am_W X pc ls (.inl a :: st) V R T cc cs := by
  obtain ⟨p, e, Rm, s, m, args, below, meth, c, QQ, G, own, bytes, nL, Bc, Bs, V0, T0⟩ := X
  obtain ⟨hx, hb, hml, hown, hts, hK, hRc, hRs⟩ := cx
  intro la H locs hf
  obtain ⟨h1, h2⟩ := am_sw_at ts a lo d h
  have ei := i32_toInt ha
  by_cases hr : a < lo ∨ hi < a
  · refine lv_tableOut (x := Int32.ofInt a) hx hb hd (by rw [ei]; exact hr) hdd ?_
    exact hk d (h2 (by omega)) la H locs hf.pop
  · have hlt : (a - lo).toNat < ts.length := by omega
    have hlen : offs.toList.length = ts.length := by
      have := congrArg List.length hts'
      simpa using this
    have e1 : ts[(a - lo).toNat]? = some ts[(a - lo).toNat] := List.getElem?_eq_getElem hlt
    have hlt2 : (a - lo).toNat < offs.size := by rw [← Array.length_toList, hlen]; exact hlt
    have e2 : offs[(a - lo).toNat]? = some offs[(a - lo).toNat] := Array.getElem?_eq_getElem hlt2
    have e3 : (pc : Int) + offs[(a - lo).toNat] = (ts[(a - lo).toNat] : Int) := by
      have q := congrArg (fun l => l[(a - lo).toNat]?) hts'
      simp only [List.getElem?_map, Array.getElem?_toList, e1, e2, Option.map_some] at q
      exact Option.some.inj q
    refine lv_tableIn (x := Int32.ofInt a) (off := offs[(a - lo).toNat]) (tgt := ts[(a - lo).toNat]) hx hb hd (by rw [ei]; omega) (by rw [ei]; omega) (by rw [ei]; exact e2) e3 ?_
    exact hk _ (h1 _ _ e1 (by omega)) la H locs hf.pop
/-- the entry of a cell by its kind -/
theorem am_e0 {G : am_G} {V : am_V} {R : am_T} {a n w x : Nat} (h : am_lay a = (0, n, w, x)) : am_e G V R a = .inl (am_G.cy G 0, n, .inl (fun j => Int32.ofInt (V a j))) := by unfold am_e; rw [h]; rfl
theorem am_e1 {G : am_G} {V : am_V} {R : am_T} {a n w x : Nat} (h : am_lay a = (1, n, w, x)) : am_e G V R a = .inl (am_G.cy G 1, n, .inr (.inl (fun j => Int64.ofInt (V a j)))) := by unfold am_e; rw [h]; rfl
theorem am_e2 {G : am_G} {V : am_V} {R : am_T} {a n w x : Nat} (h : am_lay a = (2, n, w, x)) : am_e G V R a = .inl (am_G.cy G 2, n, .inl (fun j => Int32.ofInt (V a j))) := by unfold am_e; rw [h]; rfl
theorem am_e3 {G : am_G} {V : am_V} {R : am_T} {a n w x : Nat} (h : am_lay a = (3, n, w, x)) : am_e G V R a = .inl (am_G.cy G 3, n, .inr (.inr (.inr (.inr (fun j => if j < n then some (am_ad G a + 1 + j) else none))))) := by unfold am_e; rw [h]; rfl
theorem am_e4 {G : am_G} {V : am_V} {R : am_T} {a n w x : Nat} (h : am_lay a = (4, n, w, x)) : am_e G V R a = .inl (am_G.cy G 4, n, .inr (.inr (.inr (.inr (fun j => if j < n then some (am_ad G a + 1 + j) else none))))) := by unfold am_e; rw [h]; rfl
theorem am_e5 {G : am_G} {V : am_V} {R : am_T} {a n w x : Nat} (h : am_lay a = (5, n, w, x)) : am_e G V R a = .inl (am_G.cy G 5, n, .inr (.inr (.inr (.inr (fun j => (R a j).map (am_ad G)))))) := by unfold am_e; rw [h]; rfl
theorem am_e6 {G : am_G} {V : am_V} {R : am_T} {a n w x : Nat} (h : am_lay a = (6, n, w, x)) : am_e G V R a = .inl (am_G.cy G 1, n, .inr (.inl (fun j => if j < n then Int64.ofInt (V w (64 * (x : Int) + j)) else 0))) := by unfold am_e; rw [h]; rfl
theorem am_e7 {G : am_G} {V : am_V} {R : am_T} {a n w x : Nat} (h : am_lay a = (7, n, w, x)) : am_e G V R a = .inl (am_G.cy G 0, n, .inl (fun j => if j < n then Int32.ofInt (V w (64 * (x : Int) + j)) else 0)) := by unfold am_e; rw [h]; rfl
theorem am_eO {G : am_G} {V : am_V} {R : am_T} {a c n w x : Nat} (h : am_lay a = (10 + c, n, w, x)) : am_e G V R a = .inr (c, (List.range n).map (am_fv G V R c a)) := by
  unfold am_e
  rw [h]
  split <;> rename_i q <;> first | (cases q; done) | skip
  all_goals (try (simp only [Prod.mk.injEq] at q; omega))
  rename_i k n' _ _ _ _ _ _ _ _ _ _
  simp only [Prod.mk.injEq] at q
  obtain ⟨rfl, rfl, -, -⟩ := q
  rw [show 10 + c - 10 = c by omega]
/-- where a row of a table lies -/
theorem am_rowcell {G : am_G} {T a : Nat} {q : Int} (h : am_okv T (.inr (.inr (some (.inr (a, q)))))) : am_ad G a + 1 + q.toNat = am_ad G (a + 1 + q.toNat) ∧ 3 ≤ a + 1 + q.toNat ∧ a + 1 + q.toNat < T ∧ q.toNat < (am_lay a).2.1 := by
  obtain ⟨h1, h2, h3, h4, h5⟩ := h
  rw [am_ad_ge h1, am_ad_ge (by omega)]
  omega
theorem am_row3 {T a n w x : Nat} {q : Int} (h : am_okv T (.inr (.inr (some (.inr (a, q)))))) (hl : am_lay a = (3, n, w, x)) : am_lay (a + 1 + q.toNat) = (6, w, a, q.toNat) ∧ w ≤ 64 := by
  obtain ⟨h1, h2, h3, h4, h5⟩ := h
  have h6 := (am_lay_len a).2.2 h2
  rw [hl] at h5 h6
  have h5 : q < (n : Int) := h5
  exact am_grid3 hl (by omega) h6
theorem am_row4 {T a n w x : Nat} {q : Int} (h : am_okv T (.inr (.inr (some (.inr (a, q)))))) (hl : am_lay a = (4, n, w, x)) : am_lay (a + 1 + q.toNat) = (7, w, a, q.toNat) ∧ w ≤ 64 := by
  obtain ⟨h1, h2, h3, h4, h5⟩ := h
  have h6 := (am_lay_len a).2.2 h2
  rw [hl] at h5 h6
  have h5 : q < (n : Int) := h5
  exact am_grid4 hl (by omega) h6
