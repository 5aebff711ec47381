theorem am_smallw : (List.range 107).all (fun a => decide ((am_lay a).2.2.1 < 3000)) = true := by decide +kernel
theorem am_lay_w (a : Nat) : (am_lay a).2.2.1 < 3000 := by
  rcases Nat.lt_or_ge a 107 with q | q
  · simpa using List.all_eq_true.mp am_smallw a (List.mem_range.mpr q)
  · rcases am_lay_hi q with r | r <;> rw [r] <;> decide
theorem am_zeroRn_lo {R : am_T} {T n b : Nat} (h : b < T) : am_zeroRn R T n b = R b := by
  funext j
  unfold am_zeroRn
  rw [if_neg (by omega)]
theorem am_e_newL {G : am_G} {V V' : am_V} {R R' : am_T} {T b : Nat} (hV : ∀ x, x < T → V' x = V x) (hR : ∀ x, x < T → R' x = R x) (hb : b < T) : am_e G V' R' b = am_e G V R b := by
  have e1 := hV b hb
  have e2 := hR b hb
  have key : ∀ k n o i, am_lay b = (k, n, o, i) → (k = 6 ∨ k = 7) → V' o = V o := by
    intro k n o i h hk
    apply hV
    have h1 := (am_row_of h hk).1
    omega
  have fe : ∀ c, am_fv G V' R' c b = am_fv G V R c b := by
    intro c
    funext j
    unfold am_fv
    rw [e1, e2]
  unfold am_e
  split <;> rename_i h
  · rw [e1]
  · rw [e1]
  · rw [e1]
  · rfl
  · rfl
  · rw [e2]
  · rw [key _ _ _ _ h (Or.inl rfl)]
  · rw [key _ _ _ _ h (Or.inr rfl)]
  · rw [fe]
theorem vr_outer (c : ClassId) (N h0 : Nat) : ∀ i : Nat, Jvm.Free.Multi.outerC c N h0 i = arrV c N (fun j => va_rf (if j < i then some (h0 + 1 + j) else none))
  | 0 => by
    show ({ cls := c, slots := Array.replicate N .null, vm := .none } : Cell) = _
    rw [arrV_new]
    refine congrArg (arrV c N) (funext fun j => ?_)
    simp [va_rf]
  | i + 1 => by
    show (Jvm.Free.Multi.outerC c N h0 i).setSlot i (.ref (h0 + 1 + i)) = _
    rw [vr_outer c N h0 i, arrV_store]
    refine congrArg (arrV c N) (funext fun j => ?_)
    by_cases e : j = i
    · subst e
      simp [updV, va_rf]
    · by_cases h : j < i
      · simp [updV, e, h, Nat.lt_succ_of_lt h]
      · simp [updV, e, h, show ¬ j < i + 1 by omega]
/-- a table of numbers -/
theorem so_multi {X : am_X} (cx : am_cx X) {pc : Nat} {ls : am_L} {st : List AV} {V : am_V} {R : am_T} {T cc cs : Nat} {i kd n w y w1 w2 : Nat} {ty : FieldType} (hd : decode (am_X.bytes X) pc = .ok (.multianewarray i 2, 4)) (hl : am_lay T = (kd, n, w, y)) (hk : (kd = 3 ∧ ty = .long) ∨ (kd = 4 ∧ ty = .int)) (h1 : lw_tbl[w1]? = some (.classLink (am_X.own X) i ("[" ++ (FieldType.array ty).toString))) (h2 : lw_tbl[w2]? = some (.arrayClass ty)) (hB : cc + (1 + n) ≤ (am_X.Rm X).cells ∧ cs + (n + n * w) ≤ (am_X.Rm X).slots) (kk : am_W X (pc + 4) ls (.inr (.inr (some (.inl T))) :: st) (am_zero V T) (am_zeroRn R T (1 + n)) (T + (1 + n)) (cc + (1 + n)) (cs + (n + n * w))) : am_W X pc ls (.inl (w : Int) :: .inl (n : Int) :: st) V R T cc cs := by
  obtain ⟨p, e, Rm, s, m, args, below, meth, cd, QQ, G, own, bytes, nL, Bc, Bs, V0, T0⟩ := X
  obtain ⟨hx, hb, hml, hown, hts, hK, hRc, hRs⟩ := cx
  intro la H locs hf
  have hkd : (am_lay T).1 = 3 ∨ (am_lay T).1 = 4 := by rw [hl]; rcases hk with ⟨rfl, -⟩ | ⟨rfl, -⟩ <;> simp
  have hn : n ≤ 64 := by have := (am_lay_len T).2.2 hkd; rw [hl] at this; exact this
  have hT3 := hf.T3
  have hHs : H.size = am_ad G T := by rw [am_ad_ge hT3]; exact hf.sz
  have hrow : ∀ j, j < n → am_lay (T + 1 + j) = (kd + 3, w, T, j) ∧ w ≤ 64 := fun j hj => by
    rcases hk with ⟨rfl, -⟩ | ⟨rfl, -⟩
    · exact am_grid3 hl hj hn
    · exact am_grid4 hl hj hn
  have hw : w ≤ 64 ∨ n = 0 := by
    cases n with
    | zero => exact Or.inr rfl
    | succ n => exact Or.inl (hrow 0 (by omega)).2
  have hover : (Jvm.Cond.arrayOver (.array ty)).before args s = true := by
    rcases hk with ⟨-, rfl⟩ | ⟨-, rfl⟩
    · exact hK.2.2.1
    · exact hK.2.2.2.1
  intro T' hT' Xs
  have hcn : (Int32.ofInt (n : Int)).toNatClampNeg = n := by rw [i32_clamp (by omega) (by omega)]; omega
  have hw3 : w < 3000 := by
    have := am_lay_w T
    rw [hl] at this
    exact this
  have hcw : (Int32.ofInt (w : Int)).toNatClampNeg = w := by rw [i32_clamp (by omega) (by omega)]; omega
  have hby : w * componentBytes ty ≤ 536870912 := by
    have : componentBytes ty ≤ 8 := by rcases hk with ⟨-, rfl⟩ | ⟨-, rfl⟩ <;> decide
    have := Nat.mul_le_mul (Nat.le_of_lt hw3) this
    omega
  obtain ⟨vm₁, cA, comp, -, fA, fC, hO, -, X', step⟩ := Xs.multianewarray2F hx hown (hts _ (List.mem_of_getElem? h1) rfl) hover (hts _ (List.mem_of_getElem? h2) rfl) (g := F0 m pc la (.int (Int32.ofInt (w : Int)) :: .int (Int32.ofInt (n : Int)) :: st.map (am_cv G))) rfl (by rw [hb]; exact hd) rfl (i32_nn (by omega) (by omega)) (i32_nn (by omega) (by omega)) (by rw [hcn]; omega) (by rw [hcw]; exact hby) (by rw [hcw]; omega) (by rcases hk with ⟨-, rfl⟩ | ⟨-, rfl⟩ <;> rfl) (by rcases hk with ⟨-, rfl⟩ | ⟨-, rfl⟩ <;> rfl) (by rw [hcn]; exact hB.1) (by rw [hcn, hcw]; exact hB.2)
  rw [hcn, hcw] at X' step
  generalize hF : Jvm.Free.Multi.fill (T'.setVm vm₁) cA comp n w (defaultValue ty) n = F at X' step
  have hTh : (T'.setVm vm₁).heap = H := hT'
  obtain ⟨f1, f2, -, -⟩ := Jvm.Free.Multi.fill_facts (T'.setVm vm₁) cA comp n w (defaultValue ty) n
  rw [hF, hTh] at f1 f2
  have hold : ∀ x : Nat, x < H.size → F.heap[x]? = H[x]? := fun x hx => by
    have := Jvm.Free.Multi.fill_old (T'.setVm vm₁) cA comp n w (defaultValue ty) (a := x) (by rw [hTh]; exact hx) n
    rw [hF, hTh] at this
    exact this
  have hinner : ∀ j : Nat, j < n → F.heap[H.size + 1 + j]? = some (Jvm.Free.Multi.innerC comp w (defaultValue ty)) := fun j hj => by
    have := Jvm.Free.Multi.fill_inner (T'.setVm vm₁) cA comp n w (defaultValue ty) n j hj
    rw [hF, hTh] at this
    exact this
  rw [vr_outer cA n H.size n] at f2
  have hf2 : am_fr G s V0 T0 nL Bc Bs ls st (am_zero V T) (am_zeroRn R T (1 + n)) (T + (1 + n)) (cc + (1 + n)) (cs + (n + n * w)) la F.heap locs := by
    refine am_gr hf.pop.pop (1 + n) (by rw [f1]; omega) hold (fun j hj => ?_) (fun b hb => am_e_newL (fun x hx => am_zero_ne (by omega)) (fun x hx => am_zeroRn_lo hx) hb) (fun x hx => am_zero_ne (by omega)) ⟨fun a k b ha hb => ?_, fun a ha hk' => ?_⟩ ⟨by rw [← hRc]; exact hB.1, by rw [← hRs]; exact hB.2⟩
    · cases j with
      | zero =>
        rw [Nat.add_zero, ← hHs]
        rcases hk with ⟨rfl, rfl⟩ | ⟨rfl, rfl⟩
        · have ec : cA = am_G.cy G 3 := Option.some.inj (fA.symm.trans (hK.1.2 3 _ rfl).2)
          subst ec
          rw [am_e3 hl]
          show F.heap[H.size]? = some (vp_cell _ _)
          rw [f2, vp_cell_q, hHs]
        · have ec : cA = am_G.cy G 4 := Option.some.inj (fA.symm.trans (hK.1.2 4 _ rfl).2)
          subst ec
          rw [am_e4 hl]
          show F.heap[H.size]? = some (vp_cell _ _)
          rw [f2, vp_cell_q, hHs]
      | succ j =>
        have hj : j < n := by omega
        have hr := (hrow j hj).1
        have ead : am_ad G (T + (j + 1)) = H.size + 1 + j := by rw [hHs, am_ad_ge (by omega), am_ad_ge hT3]; omega
        rw [ead, show T + (j + 1) = T + 1 + j by omega]
        rcases hk with ⟨rfl, rfl⟩ | ⟨rfl, rfl⟩
        · have ec : comp = am_G.cy G 1 := Option.some.inj (fC.symm.trans (hK.1.2 1 _ rfl).2)
          subst ec
          rw [am_e6 hr]
          show F.heap[H.size + 1 + j]? = some (vp_cell _ _)
          rw [hinner j hj, vp_cell_l]
          show some ({ cls := am_G.cy G 1, slots := Array.replicate w (.long 0), vm := .none } : Cell) = _
          rw [arrV_new]
          congr 2
          funext z
          rw [am_zero_at]
          split <;> rfl
        · have ec : comp = am_G.cy G 0 := Option.some.inj (fC.symm.trans (hK.1.2 0 _ rfl).2)
          subst ec
          rw [am_e7 hr]
          show F.heap[H.size + 1 + j]? = some (vp_cell _ _)
          rw [hinner j hj, vp_cell_i]
          show some ({ cls := am_G.cy G 0, slots := Array.replicate w (.int 0), vm := .none } : Cell) = _
          rw [arrV_new]
          congr 2
          funext z
          rw [am_zero_at]
          split <;> rfl
    · by_cases e9 : a < T
      · rw [am_zeroRn_lo e9] at hb
        have := hf.oR.1 a k b e9 hb
        omega
      · unfold am_zeroRn at hb
        rw [if_pos ⟨by omega, by omega⟩] at hb
        cases hb
    · by_cases e9 : a < T
      · have := hf.oR.2 a e9 hk'
        omega
      · by_cases e8 : a = T
        · subst e8
          rw [hl]
          show a + n < a + (1 + n)
          omega
        · have hr := (hrow (a - T - 1) (by omega)).1
          rw [show T + 1 + (a - T - 1) = a by omega] at hr
          rw [hr] at hk'
          rcases hk with ⟨rfl, -⟩ | ⟨rfl, -⟩ <;> simp at hk'
  have hst : (.ref H.size :: st.map (am_cv G)) = (.inr (.inr (some (.inl T))) :: st : List AV).map (am_cv G) := by rw [hHs]; rfl
  have k2 := kk la F.heap locs (hf2.push (by show T < T + (1 + n); omega))
  rw [← hst] at k2
  obtain ⟨t, a1, b1⟩ := k2 F rfl (by
    have := X'
    rw [show cc + 1 + n = cc + (1 + n) by omega, show cs + n + n * w = cs + (n + n * w) by omega] at this
    exact this)
  refine ⟨t, step t ?_, b1⟩
  have e : T'.heap.size = H.size := by rw [hT']
  rw [e]
  exact a1
