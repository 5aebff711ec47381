/-! the frame: locals, stack, memory against the machine's -/
def am_asc (G : am_G) : Nat → am_L → List (Nat × Value)
  | _, [] => []
  | i, some v :: l => (i, am_cv G v) :: am_asc G (i + 1) l
  | i, none :: l => am_asc G (i + 1) l
theorem am_asc_mem {G : am_G} : ∀ (l : am_L) (i : Nat) (q : Nat × Value), q ∈ am_asc G i l ↔ ∃ j v, am_get l j = some v ∧ q = (i + j, am_cv G v)
  | [], i, q => by simp [am_asc, am_get]
  | some w :: l, i, q => by
    rw [am_asc, List.mem_cons, am_asc_mem l]
    constructor
    · rintro (h | ⟨j, v, h1, h2⟩)
      · exact ⟨0, w, rfl, h⟩
      · exact ⟨j + 1, v, h1, by rw [h2, show i + 1 + j = i + (j + 1) by omega]⟩
    · rintro ⟨j, v, h1, h2⟩
      cases j with
      | zero =>
        left
        have : w = v := by simpa [am_get] using h1
        rw [h2, this]
        rfl
      | succ j => exact Or.inr ⟨j, v, h1, by rw [h2, show i + 1 + j = i + (j + 1) by omega]⟩
  | none :: l, i, q => by
    rw [am_asc, am_asc_mem l]
    constructor
    · rintro ⟨j, v, h1, h2⟩
      exact ⟨j + 1, v, h1, by rw [h2, show i + 1 + j = i + (j + 1) by omega]⟩
    · rintro ⟨j, v, h1, h2⟩
      cases j with
      | zero => simp [am_get] at h1
      | succ j => exact ⟨j, v, h1, by rw [h2, show i + 1 + j = i + (j + 1) by omega]⟩
theorem am_get_set : ∀ (l : am_L) (i j : Nat) (x : Option AV), am_get (am_set l i x) j = if j = i ∧ i < l.length then x else am_get l j
  | [], i, j, x => by simp [am_set, am_get]
  | v :: l, 0, 0, x => by simp [am_set, am_get]
  | v :: l, 0, j + 1, x => by simp [am_set, am_get]
  | v :: l, i + 1, 0, x => by simp [am_set, am_get]
  | v :: l, i + 1, j + 1, x => by simp [am_set, am_get, am_get_set l i j x]
theorem am_set_len : ∀ (l : am_L) (i : Nat) (x : Option AV), (am_set l i x).length = l.length
  | [], _, _ => rfl
  | _ :: _, 0, _ => rfl
  | _ :: l, i + 1, x => by simp [am_set, am_set_len l i x]
theorem am_cut_len (l : am_L) (i : Nat) : (am_cut l i).length = l.length := by
  cases i with
  | zero => rfl
  | succ n =>
    simp only [am_cut]
    split
    · exact am_set_len _ _ _
    · rfl
theorem am_cut_get {l : am_L} {i j : Nat} {v : AV} (h : am_get (am_cut l i) j = some v) : am_get l j = some v ∧ ¬ (j + 1 = i ∧ ∃ z, v = .inr (.inl z)) := by
  cases i with
  | zero => exact ⟨h, fun q => absurd q.1 (by omega)⟩
  | succ n =>
    simp only [am_cut] at h
    split at h
    · rename_i z hz
      rw [am_get_set] at h
      split at h
      · cases h
      · rename_i hn
        refine ⟨h, fun q => ?_⟩
        have hj : j = n := by omega
        subst hj
        have : ¬ j < l.length := fun q => hn ⟨rfl, q⟩
        have hge : ∀ (l : am_L) (j : Nat), ¬ j < l.length → am_get l j = none := by
          intro l
          induction l with
          | nil => intro j _; rfl
          | cons a l ih =>
            intro j hj
            cases j with
            | zero => simp at hj
            | succ j => exact ih j (by simpa using hj)
        rw [hge l j this] at h
        cases h
    · rename_i hne
      refine ⟨h, fun q => ?_⟩
      obtain ⟨q1, z, rfl⟩ := q
      have : j = n := by omega
      subst this
      exact hne z h
def am_okv (T : Nat) : AV → Prop
  | .inr (.inr (some (.inl a))) => a < T
  | .inr (.inr (some (.inr (a, i)))) => 3 ≤ a ∧ ((am_lay a).1 = 3 ∨ (am_lay a).1 = 4) ∧ a + (am_lay a).2.1 < T ∧ 0 ≤ i ∧ i < ((am_lay a).2.1 : Int)
  | _ => True
theorem am_okv.mono {T T' : Nat} {v : AV} (h : am_okv T v) (ht : T ≤ T') : am_okv T' v := by
  match v, h with
  | .inl _, _ => trivial
  | .inr (.inl _), _ => trivial
  | .inr (.inr none), _ => trivial
  | .inr (.inr (some (.inl a))), h => exact Nat.lt_of_lt_of_le h ht
  | .inr (.inr (some (.inr (a, i)))), h => exact ⟨h.1, h.2.1, Nat.lt_of_lt_of_le h.2.2.1 ht, h.2.2.2⟩
def am_okR (R : am_T) (T : Nat) : Prop := (∀ a k b, a < T → R a k = some b → b < T) ∧ ∀ a, a < T → ((am_lay a).1 = 3 ∨ (am_lay a).1 = 4) → a + (am_lay a).2.1 < T
/-- the locals: as many as the machine's, each known one is there, its cells are made -/
def am_loc (G : am_G) (nL T : Nat) (ls : am_L) (la : Array Slot) : Prop := ls.length = nL ∧ lv_has la nL (am_asc G 0 ls) ∧ ∀ j v, am_get ls j = some v → am_okv T v
theorem am_loc.at {G : am_G} {nL T : Nat} {ls : am_L} {la : Array Slot} (h : am_loc G nL T ls la) {i : Nat} {v : AV} (hv : am_get ls i = some v) : la[i]? = some (.val (am_cv G v)) :=
  h.2.1.2.2 (i, am_cv G v) ((am_asc_mem ls 0 _).mpr ⟨i, v, hv, by rw [Nat.zero_add]⟩)
theorem am_cat1 {G : am_G} {v : AV} (h : ∀ z, v ≠ .inr (.inl z)) : (am_cv G v).category = 1 := by
  match v, h with
  | .inl _, _ => rfl
  | .inr (.inl z), h => exact absurd rfl (h z)
  | .inr (.inr none), _ => rfl
  | .inr (.inr (some (.inl a))), _ => rfl
  | .inr (.inr (some (.inr (a, i)))), _ => rfl
theorem am_cat2 {G : am_G} {v : AV} (h : (am_cv G v).category = 2) : ∃ z, v = .inr (.inl z) := by
  match v, h with
  | .inl _, h => cases h
  | .inr (.inl z), h => exact ⟨z, rfl⟩
  | .inr (.inr none), h => cases h
  | .inr (.inr (some (.inl a))), h => cases h
  | .inr (.inr (some (.inr (a, i)))), h => cases h
theorem am_has_sub {la : Array Slot} {nL : Nat} {l l' : List (Nat × Value)} (h : lv_has la nL l) (hs : ∀ q ∈ l', q ∈ l) : lv_has la nL l' := ⟨h.1, h.2.1, fun q hq => h.2.2 q (hs q hq)⟩
theorem am_loc.st1 {G : am_G} {nL T : Nat} {ls : am_L} {la la' : Array Slot} (h : am_loc G nL T ls la) {i : Nat} {v : AV} (ho : am_okv T v)
    (hl : lv_has la' nL ((i, am_cv G v) :: (am_asc G 0 ls).filter (fun q => !(q.1 == i) && !(q.1 + 1 == i && q.2.category == 2)))) : am_loc G nL T (am_st1 ls i v) la' := by
  have key : ∀ j w, am_get (am_st1 ls i v) j = some w → (j = i ∧ w = v) ∨ (j ≠ i ∧ am_get ls j = some w ∧ ¬ (j + 1 = i ∧ ∃ z, w = .inr (.inl z))) := by
    intro j w hw
    unfold am_st1 at hw
    rw [am_get_set] at hw
    split at hw
    · rename_i q
      exact Or.inl ⟨q.1, (Option.some.inj hw).symm⟩
    · rename_i q
      obtain ⟨h1, h2⟩ := am_cut_get hw
      by_cases e : j = i
      · subst e
        exfalso
        apply q
        refine ⟨rfl, ?_⟩
        rw [am_cut_len]
        have hge : ∀ (l : am_L) (j : Nat) (w : AV), am_get l j = some w → j < l.length := by
          intro l
          induction l with
          | nil => intro j w h; cases h
          | cons a l ih =>
            intro j w h
            cases j with
            | zero => simp
            | succ j => simpa using ih j w h
        exact hge _ _ _ h1
      · exact Or.inr ⟨e, h1, h2⟩
  refine ⟨by unfold am_st1; rw [am_set_len, am_cut_len]; exact h.1, am_has_sub hl (fun q hq => ?_), fun j w hw => ?_⟩
  · obtain ⟨j, w, hw, rfl⟩ := (am_asc_mem _ _ _).mp hq
    rw [Nat.zero_add]
    rcases key j w hw with ⟨rfl, rfl⟩ | ⟨h1, h2, h3⟩
    · exact List.mem_cons_self
    · refine List.mem_cons_of_mem _ (List.mem_filter.mpr ⟨(am_asc_mem _ _ _).mpr ⟨j, w, h2, by rw [Nat.zero_add]⟩, ?_⟩)
      have e1 : (j == i) = false := by simpa using h1
      cases e2 : (j + 1 == i) with
      | false => simp [e1, e2]
      | true =>
        have : (am_cv G w).category ≠ 2 := fun c => h3 ⟨by simpa using e2, am_cat2 c⟩
        simp [e1, e2, this]
  · rcases key j w hw with ⟨rfl, rfl⟩ | ⟨h1, h2, h3⟩
    · exact ho
    · exact h.2.2 j w h2
theorem am_loc.st2 {G : am_G} {nL T : Nat} {ls : am_L} {la la' : Array Slot} (h : am_loc G nL T ls la) {i : Nat} {v : AV} (ho : am_okv T v)
    (hl : lv_has la' nL ((i, am_cv G v) :: (am_asc G 0 ls).filter (fun q => !(q.1 == i) && (!(q.1 == i + 1) && !(q.1 + 1 == i && q.2.category == 2))))) : am_loc G nL T (am_st2 ls i v) la' := by
  have hge : ∀ (l : am_L) (j : Nat) (w : AV), am_get l j = some w → j < l.length := by
    intro l
    induction l with
    | nil => intro j w h; cases h
    | cons a l ih =>
      intro j w h
      cases j with
      | zero => simp
      | succ j => simpa using ih j w h
  have key : ∀ j w, am_get (am_st2 ls i v) j = some w → (j = i ∧ w = v) ∨ (j ≠ i ∧ j ≠ i + 1 ∧ am_get ls j = some w ∧ ¬ (j + 1 = i ∧ ∃ z, w = .inr (.inl z))) := by
    intro j w hw
    have hj := hge _ _ _ hw
    unfold am_st2 at hw hj
    rw [am_set_len, am_set_len, am_cut_len] at hj
    rw [am_get_set, am_set_len, am_cut_len] at hw
    split at hw
    · cases hw
    · rename_i q0
      rw [am_get_set, am_cut_len] at hw
      split at hw
      · rename_i q
        exact Or.inl ⟨q.1, (Option.some.inj hw).symm⟩
      · rename_i q
        obtain ⟨h1, h2⟩ := am_cut_get hw
        refine Or.inr ⟨fun e => ?_, fun e => ?_, h1, h2⟩
        · exact q ⟨e, by omega⟩
        · exact q0 ⟨e, by omega⟩
  refine ⟨by unfold am_st2; rw [am_set_len, am_set_len, am_cut_len]; exact h.1, am_has_sub hl (fun q hq => ?_), fun j w hw => ?_⟩
  · obtain ⟨j, w, hw, rfl⟩ := (am_asc_mem _ _ _).mp hq
    rw [Nat.zero_add]
    rcases key j w hw with ⟨rfl, rfl⟩ | ⟨h1, h1', h2, h3⟩
    · exact List.mem_cons_self
    · refine List.mem_cons_of_mem _ (List.mem_filter.mpr ⟨(am_asc_mem _ _ _).mpr ⟨j, w, h2, by rw [Nat.zero_add]⟩, ?_⟩)
      have e1 : (j == i) = false := by simpa using h1
      have e1' : (j == i + 1) = false := by simpa using h1'
      cases e2 : (j + 1 == i) with
      | false => simp [e1, e1', e2]
      | true =>
        have : (am_cv G w).category ≠ 2 := fun c => h3 ⟨by simpa using e2, am_cat2 c⟩
        simp [e1, e1', e2, this]
  · rcases key j w hw with ⟨rfl, rfl⟩ | ⟨h1, h1', h2, h3⟩
    · exact ho
    · exact h.2.2 j w h2
theorem am_loc.mono {G : am_G} {nL T T' : Nat} {ls : am_L} {la : Array Slot} (h : am_loc G nL T ls la) (ht : T ≤ T') : am_loc G nL T' ls la := ⟨h.1, h.2.1, fun j v hv => (h.2.2 j v hv).mono ht⟩
/-- what the tables and the old cells say at a method's start -/
def am_K (G : am_G) (V0 : am_V) (s : State) : Prop :=
  va_K (am_G.D G) am_cls (am_tys G) s ∧ va_AO RX3 s ∧ (Jvm.Cond.arrayOver (.array .long)).before #[] s = true ∧ (Jvm.Cond.arrayOver (.array .int)).before #[] s = true ∧
  va_Z "FreeParts" "FREE_ONES" "[I" (.ref (am_G.ex G 1)) (fun q => am_G.b G ≤ q) s s.heap ∧ va_Z "FreeParts" "WEIGHTS" "[I" (.ref (am_G.ex G 2)) (fun q => am_G.b G ≤ q) s s.heap ∧
  (0 ≤ V0 0 (-1) ∧ V0 0 (-1) ≤ 2147483647) ∧ va_T .int (am_G.ex G 0) (V0 0 (-1)).toNat (fun j => .int (Int32.ofInt (V0 0 j))) (fun q => am_G.b G ≤ q) s s.heap ∧
  va_T .int (am_G.ex G 1) 11 (fun j => .int (Int32.ofInt (V0 1 j))) (fun q => am_G.b G ≤ q) s s.heap ∧ va_T .int (am_G.ex G 2) 11 (fun j => .int (Int32.ofInt (V0 2 j))) (fun q => am_G.b G ≤ q) s s.heap
/-- a frame under way -/
def am_fr (G : am_G) (s : State) (V0 : am_V) (T0 nL Bc Bs : Nat) (ls : am_L) (st : List AV) (V : am_V) (R : am_T) (T cc cs : Nat) (la : Array Slot) (H : Heap) (locs : List Loc) : Prop :=
  H.size = am_G.b G + (T - 3) ∧ 3 ≤ T0 ∧ T0 ≤ T ∧ va_P (am_G.D G) am_cls (am_ws G V R T) H ∧ va_S (fun q => am_G.b G ≤ q) s.heap H locs ∧ am_okR R T ∧ (∀ e, e < 3 → V e = V0 e) ∧ am_loc G nL T ls la ∧ (∀ v ∈ st, am_okv T v) ∧ cc ≤ Bc ∧ cs ≤ Bs
abbrev am_X : Type := Program × Env × Room × State × MethodId × Array Value × List Frame × Method × Code × (State → Prop) × am_G × String × ByteArray × Nat × Nat × Nat × am_V × Nat
def am_W (X : am_X) (pc : Nat) (ls : am_L) (st : List AV) (V : am_V) (R : am_T) (T cc cs : Nat) : Prop := match X with
  | (p, e, Rm, s, m, args, below, meth, c, QQ, G, _, _, nL, Bc, Bs, V0, T0) => ∀ la H locs, am_fr G s V0 T0 nL Bc Bs ls st V R T cc cs la H locs → W p (am_G.l G) e Rm s m args below meth c H locs cc cs QQ (F0 m pc la (st.map (am_cv G)))
def am_cx (X : am_X) : Prop := match X with
  | (p, e, Rm, s, m, args, below, meth, c, QQ, G, own, bytes, nL, Bc, Bs, V0, T0) => p.tables.exec = Jvm.exec ∧ c.code = bytes ∧ c.maxLocals = nL ∧ s.vm.findClass own = some m.cls ∧ (∀ w, w ∈ lw_tbl → goodWord w = true → w.before args s = true) ∧ am_K G V0 s ∧ Rm.cells = Bc ∧ Rm.slots = Bs
abbrev am_X.bytes (X : am_X) : ByteArray := X.2.2.2.2.2.2.2.2.2.2.2.2.1
abbrev am_X.own (X : am_X) : String := X.2.2.2.2.2.2.2.2.2.2.2.1
abbrev am_X.nL (X : am_X) : Nat := X.2.2.2.2.2.2.2.2.2.2.2.2.2.1
abbrev am_X.meth (X : am_X) : Method := X.2.2.2.2.2.2.2.1
abbrev am_X.g (X : am_X) : am_G := X.2.2.2.2.2.2.2.2.2.2.1
abbrev am_X.Rm (X : am_X) : Room := X.2.2.1
