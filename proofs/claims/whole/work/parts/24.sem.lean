/-! a method's places, its entry -/
def am_rb (μ : am_M) : Bool := match am_M.ret μ with
  | some .boolean => true
  | _ => false
def am_Xm (G : am_G) (d : Nat) (μ : am_M) (V0 : am_V) (T0 : Nat) (Q : Option AV → am_V → am_T → Nat → Prop) (p : Program) (e : Env) (s : State) (m : MethodId) (args : Array Value) (below : List Frame) (meth : Method) (c : Code) : am_X :=
  (p, e, am_room0 (d + 1) (am_M.bc μ) (am_M.bs μ), s, m, args, below, meth, c, MQ below (am_Qc G V0 T0 Q) args s (am_M.bc μ) (am_M.bs μ) (fun q => am_G.b G ≤ q), G, am_M.own μ, am_M.bytes μ, am_M.nL μ, am_M.bc μ, am_M.bs μ, V0, T0)
/-- from this place of method ix on, begun with V0 and T0 cells: it comes back with Q -/
def am_Sem (G : am_G) (d ix : Nat) (V0 : am_V) (T0 : Nat) (Q : Option AV → am_V → am_T → Nat → Prop) (pc : Nat) (ls : am_L) (st : List AV) (V : am_V) (R : am_T) (T cc cs : Nat) : Prop := ∀ μ, am_mt[ix]? = some μ → ∀ p e s m args below meth c, am_cx (am_Xm G d μ V0 T0 Q p e s m args below meth c) → meth.sig.returnType = am_M.ret μ → meth.locks = false → meth.name = (am_M.y μ).name → am_W (am_Xm G d μ V0 T0 Q p e s m args below meth c) pc ls st V R T cc cs
theorem am_chk_good {ix : Nat} {μ : am_M} (hμ : am_mt[ix]? = some μ) (h : am_chk ix = true) : am_good (am_M.own μ) (decide ((am_M.y μ).name = "<init>")) (am_M.ret μ) (am_M.bytes μ) (am_M.nL μ) (am_M.code μ) ∧ (am_M.y μ).cls = am_M.own μ ∧ plainName (am_M.y μ).cls = true := by
  unfold am_chk at h
  rw [hμ] at h
  simp only [Bool.and_eq_true, decide_eq_true_eq] at h
  exact ⟨⟨fun q hq => List.all_eq_true.mp h.1 q hq, h.2.1⟩, h.2.2.1, h.2.2.2⟩
theorem am_go_good {own : String} {init : Bool} {ret : Option FieldType} {bytes : ByteArray} {nL : Nat} {cd : List CI} (h : am_good own init ret bytes nL cd) : am_good own init ret bytes nL (am_go cd) ∧ am_pc (am_go cd) = am_pc cd := by
  cases cd with
  | nil => exact ⟨h, rfl⟩
  | cons q l =>
    refine ⟨⟨fun x hx => ?_, ?_⟩, rfl⟩
    · rcases List.mem_cons.mp hx with e | e
      · subst e
        exact h.1 q List.mem_cons_self
      · exact h.1 x (List.mem_cons_of_mem _ e)
    · have := h.2
      unfold am_lin at this
      unfold am_go am_lin
      exact this
theorem am_run {G : am_G} {d ix : Nat} {μ : am_M} {V0 : am_V} {T0 : Nat} {Q : Option AV → am_V → am_T → Nat → Prop} {pc : Nat} {ls : am_L} {st : List AV} {V : am_V} {R : am_T} {T cc cs : Nat} (n : Nat) (hμ : am_mt[ix]? = some μ) (hk : am_chk ix = true)
    (h : ∀ (K : Nat → List AV → am_V → am_T → Nat → (Option AV → am_V → am_T → Nat → Prop) → Prop) (S : Nat → am_L → List AV → am_V → am_T → Nat → Nat → Nat → Prop), (∀ {ix' : Nat} {as : List AV} {V : am_V} {R : am_T} {T : Nat} {Q : Option AV → am_V → am_T → Nat → Prop}, am_Calls G d ix' as V R T Q → K ix' as V R T Q) → (∀ {pc : Nat} {ls : am_L} {st : List AV} {V : am_V} {R : am_T} {T cc cs : Nat}, am_Sem G d ix V0 T0 Q pc ls st V R T cc cs → S pc ls st V R T cc cs) → am_wp (am_M.code μ) (am_rb μ) (am_M.bc μ) (am_M.bs μ) K S Q n (am_go (am_at (am_M.code μ) pc)) ls st V R T cc cs) : am_Sem G d ix V0 T0 Q pc ls st V R T cc cs := by
  intro μ' hμ' p e s m args below meth c cx hr hlk hnm
  cases hμ.symm.trans hμ'
  have hw := h (am_Calls G d) (am_Sem G d ix V0 T0 Q) (fun q => q) (fun q => q)
  obtain ⟨hg, hcl, hpl⟩ := am_chk_good hμ hk
  obtain ⟨g1, g2⟩ := am_good.at pc hg
  obtain ⟨g3, g4⟩ := am_go_good g1
  have hpc : am_pc (am_go (am_at (am_M.code μ) pc)) = pc := by
    rw [g4]
    cases hc : am_at (am_M.code μ) pc with
    | nil => rw [hc] at hw; cases n <;> exact False.elim hw
    | cons q l => exact g2 q l hc
  intro la H locs hf
  have hB := hf.oB
  have hx := cx.1
  have hb : c.code = am_M.bytes μ := cx.2.1
  have key : ∀ {v : Option AV} {V : am_V} {R : am_T} {T : Nat} {ls : am_L} {st : List AV} {cc cs : Nat} {la : Array Slot} {H : Heap} {locs : List Loc}, Q v V R T → am_fr G s V0 T0 (am_M.nL μ) (am_M.bc μ) (am_M.bs μ) ls st V R T cc cs la H locs → (∀ x, v = some x → am_okv T x) → ∀ t : State, t.heap = H → s.WarmedH t.vm → am_Qc G V0 T0 Q args s (.returned (v.map (am_cv G))) t := by
    intro v V R T ls st cc cs la H locs hq hf hv t ht hW
    exact ⟨⟨v, V, R, T, rfl, hq, by rw [ht]; exact hf.sz, hf.2.2.1, by rw [ht]; exact hf.oP, hf.oR, hf.oV, hv⟩, hf.oS.F ht⟩
  have := am_sound (X := am_Xm G d μ V0 T0 Q p e s m args below meth c) cx (init := decide ((am_M.y μ).name = "<init>")) (ret := am_M.ret μ) (rb := am_rb μ) (d := d) (C := am_M.code μ) (Qc := am_Sem G d ix V0 T0 Q) (Qr := Q) hg (fun q => hnm.trans (of_decide_eq_true q)) (Nat.le_refl _) (Nat.le_refl _) (fun pc ls st V R T cc cs q => q μ hμ p e s m args below meth c cx hr hlk hnm) ?_ ?_ ?_ ?_ n _ ls st V R T cc cs g3 hB hw
  · rw [hpc] at this
    exact this la H locs hf
  · intro pc ls V R T cc cs z hd hret hz hq la H locs hf
    refine W.widen (k := am_M.bc μ) (n := am_M.bs μ) hf.oB.1 hf.oB.2 ?_
    rcases hret with h1 | h1
    · exact W.iret hx hb (by rw [hr, h1]) (key hq hf (fun x hx => by cases hx; trivial)) hf.oS.2.2 hd
    · refine W.zret hx hb (ty := .boolean) (by rw [hr, h1]) ?_ (key hq hf (fun x hx => by cases hx; trivial)) hf.oS.2.2 hd
      have : am_rb μ = true := by unfold am_rb; rw [h1]
      rcases hz this with rfl | rfl <;> rfl
  · intro pc ls V R T cc cs z hd hret hq la H locs hf
    refine W.widen (k := am_M.bc μ) (n := am_M.bs μ) hf.oB.1 hf.oB.2 ?_
    exact W.lret hx hb (by rw [hr, hret]) (key hq hf (fun x hx => by cases hx; trivial)) hf.oS.2.2 hd
  · intro pc ls V R T cc cs o hd hret hq la H locs hf
    refine W.widen (k := am_M.bc μ) (n := am_M.bs μ) hf.oB.1 hf.oB.2 ?_
    have ho := hf.ok _ List.mem_cons_self
    exact W.aret hx hb (by rw [hr, hret]) (Or.inl ⟨_, rfl⟩) (Or.inr ⟨_, rfl⟩) (key hq hf (fun x hx => by cases hx; exact ho)) hf.oS.2.2 hd
  · intro pc ls V R T cc cs hd hret hq la H locs hf
    refine W.widen (k := am_M.bc μ) (n := am_M.bs μ) hf.oB.1 hf.oB.2 ?_
    exact W.vret hx hb (by rw [hr, hret]) (key hq hf (fun x hx => by cases hx)) hf.oS.2.2 hd
def am_ini : List AV → Nat → am_L
  | [], n => List.replicate n none
  | .inr (.inl z) :: l, n => some (.inr (.inl z)) :: none :: am_ini l (n - 2)
  | v :: l, n => some v :: am_ini l (n - 1)
theorem am_asc_rep {G : am_G} : ∀ (n i : Nat), am_asc G i (List.replicate n none) = []
  | 0, _ => rfl
  | n + 1, i => by
    rw [List.replicate_succ, am_asc]
    exact am_asc_rep n (i + 1)
theorem am_ini_asc {G : am_G} : ∀ (l : List AV) (n i : Nat), am_asc G i (am_ini l n) = lv_args i (l.map (am_cv G))
  | [], n, i => by rw [am_ini, am_asc_rep]; rfl
  | .inl z :: l, n, i => by
    show (i, _) :: am_asc G (i + 1) (am_ini l (n - 1)) = _
    rw [am_ini_asc l]
    rfl
  | .inr (.inl z) :: l, n, i => by
    show (i, _) :: am_asc G (i + 1 + 1) (am_ini l (n - 2)) = _
    rw [am_ini_asc l]
    rfl
  | .inr (.inr none) :: l, n, i => by
    show (i, _) :: am_asc G (i + 1) (am_ini l (n - 1)) = _
    rw [am_ini_asc l]
    rfl
  | .inr (.inr (some (.inl a))) :: l, n, i => by
    show (i, _) :: am_asc G (i + 1) (am_ini l (n - 1)) = _
    rw [am_ini_asc l]
    rfl
  | .inr (.inr (some (.inr (a, q)))) :: l, n, i => by
    show (i, _) :: am_asc G (i + 1) (am_ini l (n - 1)) = _
    rw [am_ini_asc l]
    rfl
theorem am_sl_len {G : am_G} : ∀ (l : List AV), (lg_sl (l.map (am_cv G))).length = am_cats l
  | [] => rfl
  | .inl z :: l => by
    have := am_sl_len (G := G) l
    simp only [lg_sl, List.map_cons, List.flatMap_cons, List.length_append] at this ⊢
    rw [this]
    rfl
  | .inr (.inl z) :: l => by
    have := am_sl_len (G := G) l
    simp only [lg_sl, List.map_cons, List.flatMap_cons, List.length_append] at this ⊢
    rw [this]
    rfl
  | .inr (.inr none) :: l => by
    have := am_sl_len (G := G) l
    simp only [lg_sl, List.map_cons, List.flatMap_cons, List.length_append] at this ⊢
    rw [this]
    rfl
  | .inr (.inr (some (.inl a))) :: l => by
    have := am_sl_len (G := G) l
    simp only [lg_sl, List.map_cons, List.flatMap_cons, List.length_append] at this ⊢
    rw [this]
    rfl
  | .inr (.inr (some (.inr (a, q)))) :: l => by
    have := am_sl_len (G := G) l
    simp only [lg_sl, List.map_cons, List.flatMap_cons, List.length_append] at this ⊢
    rw [this]
    rfl
theorem am_ini_len : ∀ (l : List AV) (n : Nat), am_cats l ≤ n → (am_ini l n).length = n
  | [], n, _ => by rw [am_ini, List.length_replicate]
  | .inl z :: l, n, h => by
    have h : 1 + am_cats l ≤ n := h
    show (am_ini l (n - 1)).length + 1 = n
    rw [am_ini_len l _ (by omega)]
    omega
  | .inr (.inl z) :: l, n, h => by
    have h : 2 + am_cats l ≤ n := h
    show (am_ini l (n - 2)).length + 1 + 1 = n
    rw [am_ini_len l _ (by omega)]
    omega
  | .inr (.inr none) :: l, n, h => by
    have h : 1 + am_cats l ≤ n := h
    show (am_ini l (n - 1)).length + 1 = n
    rw [am_ini_len l _ (by omega)]
    omega
  | .inr (.inr (some (.inl a))) :: l, n, h => by
    have h : 1 + am_cats l ≤ n := h
    show (am_ini l (n - 1)).length + 1 = n
    rw [am_ini_len l _ (by omega)]
    omega
  | .inr (.inr (some (.inr (a, q)))) :: l, n, h => by
    have h : 1 + am_cats l ≤ n := h
    show (am_ini l (n - 1)).length + 1 = n
    rw [am_ini_len l _ (by omega)]
    omega
theorem am_get_rep : ∀ (n j : Nat), am_get (List.replicate n none) j = none
  | 0, _ => rfl
  | n + 1, 0 => rfl
  | n + 1, j + 1 => am_get_rep n j
theorem am_ini_get : ∀ (l : List AV) (n j : Nat) (v : AV), am_get (am_ini l n) j = some v → v ∈ l
  | [], n, j, v, h => by rw [am_ini, am_get_rep] at h; cases h
  | .inl z :: l, n, 0, v, h => by cases h; exact List.mem_cons_self
  | .inl z :: l, n, j + 1, v, h => List.mem_cons_of_mem _ (am_ini_get l (n - 1) j v h)
  | .inr (.inl z) :: l, n, 0, v, h => by cases h; exact List.mem_cons_self
  | .inr (.inl z) :: l, n, 1, v, h => by cases h
  | .inr (.inl z) :: l, n, j + 2, v, h => List.mem_cons_of_mem _ (am_ini_get l (n - 2) j v h)
  | .inr (.inr none) :: l, n, 0, v, h => by cases h; exact List.mem_cons_self
  | .inr (.inr none) :: l, n, j + 1, v, h => List.mem_cons_of_mem _ (am_ini_get l (n - 1) j v h)
  | .inr (.inr (some (.inl a))) :: l, n, 0, v, h => by cases h; exact List.mem_cons_self
  | .inr (.inr (some (.inl a))) :: l, n, j + 1, v, h => List.mem_cons_of_mem _ (am_ini_get l (n - 1) j v h)
  | .inr (.inr (some (.inr (a, q)))) :: l, n, 0, v, h => by cases h; exact List.mem_cons_self
  | .inr (.inr (some (.inr (a, q)))) :: l, n, j + 1, v, h => List.mem_cons_of_mem _ (am_ini_get l (n - 1) j v h)
/-- a method is entered -/
theorem am_enter {G : am_G} {d ix : Nat} {μ : am_M} {as : List AV} {V : am_V} {R : am_T} {T : Nat} {Q : Option AV → am_V → am_T → Nat → Prop} (hμ : am_mt[ix]? = some μ) (hk : am_chk ix = true) (hn : Nat.ble (am_cats as) (am_M.nL μ) = true) (h : am_Sem G d ix V T Q 0 (am_ini as (am_M.nL μ)) [] V R T 0 0) : am_Calls G (d + 1) ix as V R T Q := by
  refine ⟨μ, hμ, ?_⟩
  obtain ⟨hg, hcl, hpl⟩ := am_chk_good hμ hk
  refine Met.ofW (cc := am_M.bytes μ) (maxL := am_M.nL μ) (ret := am_M.ret μ) hpl rfl ?_
  intro p e s m args below meth c s₁ B hml hv
  obtain ⟨rfl, hsz, hT3, hP, hR, hok, hK⟩ := hv
  have hts := atoms_spec (ws := am_words μ) B.pre
  have hown : s.vm.findClass (am_M.own μ) = some m.cls := by rw [← hcl]; exact findClass_of_methodNamed B.named
  have hn := Nat.le_of_ble_eq_true hn
  have hl := lv_entry (as.map (am_cv G)) (n := am_M.nL μ) (by rw [am_sl_len]; exact hn)
  rw [lg_entry_eq]
  generalize (lg_sl (as.map (am_cv G)) ++ List.replicate (am_M.nL μ - (lg_sl (as.map (am_cv G))).length) Slot.unset).toArray = la at hl ⊢
  refine h μ hμ p e s m _ below meth c ⟨B.exec, B.bytes, hml, hown, fun w h1 h2 => hts w (List.mem_cons_of_mem _ (am_gw_of h1 h2)), hK, rfl, rfl⟩ B.returns B.notSynchronized (name_of_methodNamed B.named B.method).1 la s.heap [] ⟨hsz, hT3, Nat.le_refl _, hP, va_S.rf, hR, fun _ _ => rfl, ⟨am_ini_len as _ hn, by rw [am_ini_asc]; exact hl, fun j v hv => hok v (am_ini_get as _ j v hv)⟩, fun v hv => (List.not_mem_nil hv).elim, Nat.zero_le _, Nat.zero_le _⟩
