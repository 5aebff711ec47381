/-! fields, references, new cells -/
theorem am_objN : (List.range 107).all (fun a => Nat.blt (am_lay a).1 10 || (decide ((am_lay a).1 - 10 < 6) && decide ((am_lay a).2.1 = am_NN ((am_lay a).1 - 10)))) = true := by decide +kernel
theorem am_obj {a c n w x : Nat} (h : am_lay a = (10 + c, n, w, x)) : c < 6 ∧ n = am_NN c ∧ 3 ≤ a := by
  have h3 : 3 ≤ a := by
    match a, h with
    | 0, h => simp [am_lay, am_layG, am_layT] at h; omega
    | 1, h => simp [am_lay, am_layG, am_layT] at h; omega
    | 2, h => simp [am_lay, am_layG, am_layT] at h; omega
    | a + 3, _ => omega
  rcases Nat.lt_or_ge a 107 with q | q
  · have h1 := List.all_eq_true.mp am_objN a (List.mem_range.mpr q)
    rw [h] at h1
    simp only [Bool.or_eq_true, Bool.and_eq_true, decide_eq_true_eq] at h1
    rcases h1 with h1 | h1
    · have := Nat.le_of_ble_eq_true h1
      omega
    · rw [show 10 + c - 10 = c by omega] at h1
      exact ⟨h1.1, h1.2, h3⟩
  · rcases am_lay_hi q with r | r
    · rw [h] at r
      simp only [Prod.mk.injEq] at r
      have hc : c = 3 := by omega
      subst hc
      exact ⟨by decide, r.2.1, h3⟩
    · rw [h] at r
      simp only [Prod.mk.injEq] at r
      omega
theorem am_hts {args : Array Value} {s : State} (hts : ∀ w, w ∈ lw_tbl → goodWord w = true → w.before args s = true) : ∀ w ∈ am_gw, w.before args s = true := fun w hw => hts w (List.mem_filter.mp hw).1 (List.mem_filter.mp hw).2
/-- a field is read -/
theorem so_get {X : am_X} (cx : am_cx X) {pc : Nat} {ls : am_L} {st : List AV} {V : am_V} {R : am_T} {T cc cs : Nat} {o i k c wi : Nat} {v : AV} (hd : decode (am_X.bytes X) pc = .ok (.getfield i, 3)) (hl : (am_lay o).1 = 10 + c) (hk : k < am_NN c) (hw : lw_tbl[wi]? = some (.fieldLink (am_X.own X) i (am_TT c k).1 (am_TT c k).2.1 (am_TT c k).2.2.1)) (hv : am_fv (am_X.g X) V R c o k = am_cv (am_X.g X) v) (ho : o < T → am_okR R T → am_okv T v) (kk : am_W X (pc + 3) ls (v :: st) V R T cc cs) : am_W X pc ls (.inr (.inr (some (.inl o))) :: st) V R T cc cs := by
  obtain ⟨p, e, Rm, s, m, args, below, meth, cd, QQ, G, own, bytes, nL, Bc, Bs, V0, T0⟩ := X
  obtain ⟨hx, hb, hml, hown, hts, hK, hRc, hRs⟩ := cx
  intro la H locs hf
  have hoT : o < T := hf.ok _ List.mem_cons_self
  obtain ⟨⟨kd, n, w, y⟩, hq⟩ : ∃ q, am_lay o = q := ⟨_, rfl⟩
  rw [hq] at hl
  have hl : kd = 10 + c := hl
  subst hl
  obtain ⟨hc, hn, h3⟩ := am_obj hq
  subst hn
  have hat := am_ws_at (G := G) (V := V) (R := R) (T := T) h3 hoT
  rw [am_eO hq] at hat
  refine va_get (ci := c) (v := am_cv G v) hx hb (am_hts hts) (am_inc c hc) hown hK.1 hf.oP (o - 3) hat (am_cls_at c hc) k hk (hts _ (List.mem_of_getElem? hw) rfl) (fun _ h => h) (by rw [am_fld hk, hv]) hd ?_
  exact kk la H locs (hf.pop.push (ho hoT hf.oR))
theorem am_set_fld {n k : Nat} {f g : Nat → Value} {v : Value} (hv : g k = v) (ho : ∀ j, j ≠ k → g j = f j) : ((List.range n).map f).set k v = (List.range n).map g := by
  apply List.ext_getElem?
  intro j
  by_cases hj : j < n
  · by_cases e : j = k
    · subst e
      rw [List.getElem?_set_self (by simpa using hj), am_fld hj, hv]
    · rw [List.getElem?_set_ne (fun q => e q.symm), am_fld hj, am_fld hj, ho j e]
  · rw [List.getElem?_eq_none (by simp; omega), List.getElem?_eq_none (by simp; omega)]
/-- a field is written -/
theorem so_put {X : am_X} (cx : am_cx X) {pc : Nat} {ls : am_L} {st : List AV} {V V' : am_V} {R R' : am_T} {T cc cs : Nat} {o i k c wi : Nat} {v : AV} (hd : decode (am_X.bytes X) pc = .ok (.putfield i, 3)) (hl : (am_lay o).1 = 10 + c) (hk : k < am_NN c) (hw : lw_tbl[wi]? = some (.fieldLink (am_X.own X) i (am_TT c k).1 (am_TT c k).2.1 (am_TT c k).2.2.1)) (hfin : (am_TT c k).2.2.2 = false ∨ ((am_TT c k).2.2.2 = true ∧ (am_X.meth X).name = "<init>" ∧ (am_TT c k).1 = am_X.own X))
    (hn : narrow (am_ty c k) (am_cv (am_X.g X) v) = am_cv (am_X.g X) v) (hfit : fits (am_ty c k) (am_cv (am_X.g X) v) = true) (hV : ∀ x, x ≠ o → V' x = V x) (hR : ∀ x, x ≠ o → R' x = R x) (hv : am_fv (am_X.g X) V' R' c o k = am_cv (am_X.g X) v) (hoth : ∀ j, j ≠ k → am_fv (am_X.g X) V' R' c o j = am_fv (am_X.g X) V R c o j) (hokR : am_okv T v → am_okR R T → am_okR R' T) (kk : am_W X (pc + 3) ls st V' R' T cc cs) : am_W X pc ls (v :: .inr (.inr (some (.inl o))) :: st) V R T cc cs := by
  obtain ⟨p, e, Rm, s, m, args, below, meth, cd, QQ, G, own, bytes, nL, Bc, Bs, V0, T0⟩ := X
  obtain ⟨hx, hb, hml, hown, hts, hK, hRc, hRs⟩ := cx
  intro la H locs hf
  have hoT : o < T := hf.pop.ok _ List.mem_cons_self
  obtain ⟨⟨kd, n, w, y⟩, hq⟩ : ∃ q, am_lay o = q := ⟨_, rfl⟩
  rw [hq] at hl
  have hl : kd = 10 + c := hl
  subst hl
  obtain ⟨hc, hn', h3⟩ := am_obj hq
  subst hn'
  have hat := am_ws_at (G := G) (V := V) (R := R) (T := T) h3 hoT
  rw [am_eO hq] at hat
  have hgt := am_hts hts
  have hin := am_inc c hc
  have hcl := am_cls_at c hc
  have hap := va_apart (own := own) hgt hin (am_ty c) (am_tyok c hc) (am_nm c hc) hK.1 hcl
  obtain ⟨r, h1, cell, q1, q2, q3, q4⟩ := hf.oP _ _ hat
  have hr : r = (am_RR c, am_TT c, am_NN c) := Option.some.inj (h1.symm.trans hcl)
  subst hr
  obtain ⟨hS, hfc, kC, hkC, hkind⟩ := hK.1.1 c _ hcl
  obtain ⟨cf, kf, fi, f, hi, hsl⟩ := hS k hk
  have hlay := hgt _ (hin _ (u_in_lay hk))
  unfold u_lay at hlay
  have hst := (u_facts hfc hkC (u_lays hgt hin hk) hi).1
  have hlk := hts _ (List.mem_of_getElem? hw) rfl
  have hfin2 : ∀ H' : Heap, H'[am_ad G o]? = some (cell.setSlot f.slot (am_cv G v)) → H'.size = H.size → (∀ q, q ≠ am_ad G o → H'[q]? = H[q]?) → W p (am_G.l G) e Rm s m args below meth cd H' (locs ++ [⟨am_ad G o, f.slot⟩]) cc cs QQ (F0 m (pc + 3) la (st.map (am_cv G))) := by
    intro H' e1 e2 e3
    rw [hsl] at e1
    have key : va_at (am_G.D G) am_cls (am_ad G o, am_e G V' R' o) H' := by
      rw [am_eO hq, ← am_set_fld (f := am_fv G V R c o) hv hoth]
      exact ⟨_, hcl, t_OB.to (V := updV (vp_V ((List.range (am_NN c)).map (am_fv G V R c o))) k (am_cv G v)) ⟨_, e1, q2, q3, t_set q4 hap hk (am_cv G v)⟩ (fun j _ => vp_updV_set (by simpa using hk) (am_cv G v) j)⟩
    refine kk la H' _ (am_wr hf.pop.pop h3 hoT (fun y _ hy => am_e_off hV hR (by rw [hq]; constructor <;> (intro z; simp at z; omega)) hy) (hokR (hf.ok _ List.mem_cons_self) hf.oR) (fun e he => hV e (by omega)) key e2 e3)
  rcases hfin with hfin | ⟨hfin, hin2, hdecl⟩
  · rw [if_neg (by rw [hfin]; decide)] at hlay
    have h6 := u_store hfc hkC hkind hlay hi (am_tyok c hc k hk) hn hfit
    exact W.putK hx hb (f := f) ⟨hown, hlk, ⟨_, _, _, hi⟩, hst⟩ (by rw [q2]; exact h6) q1 q3 (by rw [hsl]; exact k2_hasslot (q4 k hk)) rfl rfl hd hfin2
  · rw [if_pos hfin] at hlay
    have hcf : m.cls = cf := by
      obtain ⟨_, _, c', _, _, _, -, -, hf', -, -, -, hown2, -⟩ := Cond.laysFinal_spec hlay
      have e1 : c' = cf := by have := hi.symm.trans hf'; simp at this; exact this.1.symm
      rw [hdecl] at hown2
      rw [← e1]; exact Option.some.inj (hown.symm.trans hown2)
    have h6 := u_fits hfc hkC hkind (Or.inr hlay) hi (am_tyok c hc k hk) hn hfit
    exact W.putFinK hx hb hown hlk hi hst hcf hin2 (by rw [q2]; exact h6) q1 q3 (by rw [hsl]; exact k2_hasslot (q4 k hk)) rfl rfl hd hfin2
theorem so_getstatic1 {X : am_X} (cx : am_cx X) {pc : Nat} {ls : am_L} {st : List AV} {V : am_V} {R : am_T} {T cc cs : Nat} {i wi : Nat} (hd : decode (am_X.bytes X) pc = .ok (.getstatic i, 3)) (hw : lw_tbl[wi]? = some (.fieldLink (am_X.own X) i "FreeParts" "FREE_ONES" "[I")) (kk : am_W X (pc + 3) ls (.inr (.inr (some (.inl 1))) :: st) V R T cc cs) : am_W X pc ls st V R T cc cs := by
  obtain ⟨p, e, Rm, s, m, args, below, meth, cd, QQ, G, own, bytes, nL, Bc, Bs, V0, T0⟩ := X
  obtain ⟨hx, hb, hml, hown, hts, hK, hRc, hRs⟩ := cx
  intro la H locs hf
  refine va_gets hx hb hK.2.2.2.2.1 hf.oS hown (hts _ (List.mem_of_getElem? hw) rfl) (fun _ h => h) hd ?_
  exact kk la H locs (hf.push (Nat.lt_of_lt_of_le (by decide : 1 < 3) hf.T3))
theorem so_getstatic2 {X : am_X} (cx : am_cx X) {pc : Nat} {ls : am_L} {st : List AV} {V : am_V} {R : am_T} {T cc cs : Nat} {i wi : Nat} (hd : decode (am_X.bytes X) pc = .ok (.getstatic i, 3)) (hw : lw_tbl[wi]? = some (.fieldLink (am_X.own X) i "FreeParts" "WEIGHTS" "[I")) (kk : am_W X (pc + 3) ls (.inr (.inr (some (.inl 2))) :: st) V R T cc cs) : am_W X pc ls st V R T cc cs := by
  obtain ⟨p, e, Rm, s, m, args, below, meth, cd, QQ, G, own, bytes, nL, Bc, Bs, V0, T0⟩ := X
  obtain ⟨hx, hb, hml, hown, hts, hK, hRc, hRs⟩ := cx
  intro la H locs hf
  refine va_gets hx hb hK.2.2.2.2.2.1 hf.oS hown (hts _ (List.mem_of_getElem? hw) rfl) (fun _ h => h) hd ?_
  exact kk la H locs (hf.push (Nat.lt_of_lt_of_le (by decide : 2 < 3) hf.T3))
