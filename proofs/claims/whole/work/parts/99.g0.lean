/-! before the law: weaker ends, references that are alike, the start -/
theorem am_imp {G : am_G} {d ix : Nat} {as : List AV} {V : am_V} {R : am_T} {T : Nat} {Q Q' : Option AV → am_V → am_T → Nat → Prop} (h : am_Calls G d ix as V R T Q) (hq : ∀ r V' R' T', Q r V' R' T' → Q' r V' R' T') : am_Calls G d ix as V R T Q' := by
  obtain ⟨μ, h1, h2⟩ := h
  refine ⟨μ, h1, MetFree.mono h2 (fun _ _ q => q) (fun _ _ _ _ _ q => q) (fun a s o t _ q => ⟨?_, q.2⟩)⟩
  obtain ⟨⟨v, V', R', T', e1, e2, e3⟩, e4⟩ := q.1
  exact ⟨⟨v, V', R', T', e1, hq _ _ _ _ e2, e3⟩, e4⟩
theorem am_e_eqR {G : am_G} {V : am_V} {R R' : am_T} {a : Nat} (h1 : 7 < (am_lay a).1 → ∀ j : Nat, j < (am_lay a).2.1 → R a j = R' a j) (h2 : (am_lay a).1 = 5 → ∀ j : Nat, R a j = R' a j) : am_e G V R a = am_e G V R' a := by
  unfold am_e
  rcases hl : am_lay a with ⟨k, n, o, i⟩
  rw [hl] at h1 h2
  match k with
  | 0 => rfl
  | 1 => rfl
  | 2 => rfl
  | 3 => rfl
  | 4 => rfl
  | 5 =>
    show (Sum.inl _ : va_E) = Sum.inl _
    have e : (fun j : Nat => (R a j).map (am_ad G)) = (fun j : Nat => (R' a j).map (am_ad G)) := funext fun j => by rw [h2 rfl j]
    rw [e]
  | 6 => rfl
  | 7 => rfl
  | k + 8 =>
    show (Sum.inr _ : va_E) = Sum.inr _
    have e : (List.range n).map (am_fv G V R (k + 8 - 10) a) = (List.range n).map (am_fv G V R' (k + 8 - 10) a) := List.map_congr_left fun j hj => by
      unfold am_fv
      rw [h1 (by show 7 < k + 8; omega) j (List.mem_range.mp hj)]
    rw [e]
theorem am_Sem_R {G : am_G} {d ix : Nat} {V0 : am_V} {T0 : Nat} {Q : Option AV → am_V → am_T → Nat → Prop} {pc : Nat} {ls : am_L} {st : List AV} {V : am_V} {R R' : am_T} {T cc cs : Nat} (h1 : ∀ a, 3 ≤ a → a < T → 7 < (am_lay a).1 → ∀ j : Nat, j < (am_lay a).2.1 → R a j = R' a j) (h2 : ∀ a, 3 ≤ a → a < T → (am_lay a).1 = 5 → ∀ j : Nat, R a j = R' a j) (ho : am_okR R' T) (h : am_Sem G d ix V0 T0 Q pc ls st V R' T cc cs) : am_Sem G d ix V0 T0 Q pc ls st V R T cc cs := by
  intro μ hμ p e s m args below meth c cx hr hlk hnm la H locs hf
  have ew : am_ws G V R T = am_ws G V R' T := by
    unfold am_ws
    refine List.map_congr_left fun i hi => ?_
    have hi := List.mem_range.mp hi
    rw [am_e_eqR (h1 (i + 3) (by omega) (by omega)) (h2 (i + 3) (by omega) (by omega))]
  obtain ⟨f1, f2, f3, f4, f5, f6, f7⟩ := hf
  rw [ew] at f4
  exact h μ hμ p e s m args below meth c cx hr hlk hnm la H locs ⟨f1, f2, f3, f4, f5, ho, f7⟩
def r0 : am_T := am_RF (fun _ => none)
def r2 : am_T := rM (am_zeroR (rF (am_zeroR r0 3)) 86)
theorem r2_ok : ∀ a : Fin 107, ∀ j : Fin 24, r2 a j = r0 a j := by decide +kernel
theorem r0_ok : am_okR r0 107 := by
  have h : ∀ a : Fin 107, ∀ j : Fin 25, (r0 a j).all (fun b => decide (b < 107)) = true := by decide +kernel
  refine ⟨fun a k b ha e => ?_, fun a ha q => ?_⟩
  · by_cases hk : k.toNat < 25
    · have z := h ⟨a, ha⟩ ⟨k.toNat, hk⟩
      have e2 : r0 a ((k.toNat : Nat) : Int) = some b := by
        rw [← e]
        unfold r0 am_RF
        rw [show (((k.toNat : Nat) : Int)).toNat = k.toNat by omega]
        cases q1 : Nat.beq a 15 with
        | true => rfl
        | false =>
          cases q2 : Nat.ble 107 a with
          | true => exact absurd (Nat.le_of_ble_eq_true q2) (by omega)
          | false => rfl
      have z : (r0 a ((k.toNat : Nat) : Int)).all (fun b => decide (b < 107)) = true := z
      rw [e2] at z
      exact of_decide_eq_true z
    · exfalso
      have big : ∀ (l : List (Nat × Nat × Nat)), l.all (fun q => decide (q.2.1 < 25)) = true → am_rsG l a k.toNat = none := by
        intro l
        induction l with
        | nil => intro _; rfl
        | cons q l ih =>
          intro hl
          obtain ⟨x, y, z⟩ := q
          rw [List.all_cons, Bool.and_eq_true] at hl
          have hy : y < 25 := of_decide_eq_true hl.1
          unfold am_rsG
          have : Nat.beq y k.toNat = false := by
            cases q : Nat.beq y k.toNat with
            | false => rfl
            | true => have := Nat.eq_of_beq_eq_true q; omega
          rw [this, Bool.and_false]
          exact ih hl.2
      unfold r0 am_RF at e
      cases q1 : Nat.beq a 15 with
      | true => rw [q1] at e; cases e
      | false =>
        cases q2 : Nat.ble 107 a with
        | true => exact absurd (Nat.le_of_ble_eq_true q2) (by omega)
        | false =>
          rw [q1, q2] at e
          have e : am_rsG am_rsT a k.toNat = some b := e
          rw [big am_rsT (by decide)] at e
          cases e
  · have g : (List.range 107).all (fun a => !decide ((am_lay a).1 = 3 ∨ (am_lay a).1 = 4) || decide (a + (am_lay a).2.1 < 107)) = true := by decide +kernel
    have g := List.all_eq_true.mp g a (List.mem_range.mpr ha)
    rcases Bool.or_eq_true_iff.mp g with z | z
    · have z := of_decide_eq_false (Bool.not_eq_true' _ |>.mp z)
      exact absurd q z
    · exact of_decide_eq_true z
theorem r2_lay : (List.range 107).all (fun a => !decide (7 < (am_lay a).1) || decide ((am_lay a).2.1 ≤ 24)) = true ∧ (List.range 107).all (fun a => !decide ((am_lay a).1 = 5) || decide (a = 15)) = true := by decide +kernel
theorem r2_Sem {G : am_G} {d ix : Nat} {V0 : am_V} {T0 : Nat} {Q : Option AV → am_V → am_T → Nat → Prop} {pc : Nat} {ls : am_L} {st : List AV} {V : am_V} {cc cs : Nat} (h : am_Sem G d ix V0 T0 Q pc ls st V r0 107 cc cs) : am_Sem G d ix V0 T0 Q pc ls st V r2 107 cc cs := by
  refine am_Sem_R (R' := r0) (fun a _ ha hk j hj => ?_) (fun a _ ha hk j => ?_) r0_ok h
  · have z := List.all_eq_true.mp r2_lay.1 a (List.mem_range.mpr ha)
    rcases Bool.or_eq_true_iff.mp z with z | z
    · exact absurd hk (of_decide_eq_false (Bool.not_eq_true' _ |>.mp z))
    · have z := of_decide_eq_true z
      exact r2_ok ⟨a, ha⟩ ⟨j, by omega⟩
  · have z := List.all_eq_true.mp r2_lay.2 a (List.mem_range.mpr ha)
    rcases Bool.or_eq_true_iff.mp z with z | z
    · exact absurd hk (of_decide_eq_false (Bool.not_eq_true' _ |>.mp z))
    · obtain rfl := of_decide_eq_true z
      rfl
theorem pm_ex (x : Int) : ∃ p, pm_p x p ∧ 101 ≤ p ∧ p ≤ 2000000000 := by
  by_cases h : 101 ≤ x ∧ x ≤ 2000000000 ∧ is_pr x
  · exact ⟨x, Or.inl ⟨h, rfl⟩, h.1, h.2.1⟩
  · exact ⟨998244353, Or.inr ⟨h, rfl⟩, by decide, by decide⟩
theorem II_start {V V1 V2 : am_V} {p : Int} (hp : 101 ≤ p ∧ p ≤ 2000000000) (f : fi_0 V V1 p) (fm : ∀ s, 0 ≤ s → s < 8 → V1 32 (64 * s) = 1 ∧ V1 32 (64 * s + 1) = 0) (fp : ∀ h g, 0 ≤ h → h ≤ 10 → 0 ≤ g → g ≤ 5 → V1 50 (64 * h + g) = k_pr h g) (m : mi_0 (am_zero V1 86) V2 p) (ms : ∀ s, 0 ≤ s → s < 8 → V2 98 s = 1) (k : ∀ j, 0 ≤ j → j ≤ 10 → V 1 j = k_cat j ∧ V 2 j = k_wt j) : II V2 (fun _ => none) 107 p (V 0) := by
  obtain ⟨f1, f2, f3, f4, f5, f6, f7, f8, f9, f10, f11, f12, f13⟩ := f
  obtain ⟨m1, m2, m3, m4, m5, m6, m7, m8, m9⟩ := m
  have e : ∀ a, a < 86 → V2 a = V1 a := fun a ha => by rw [m1 a ha, am_zero_ne (by omega)]
  have z1 : V2 86 1 = 0 := by rw [m3]; rfl
  have z12 : V2 86 12 = 0 := by rw [m4]; rfl
  refine ⟨⟨by rw [e 0 (by decide), f1 0 (by decide)], fun s s0 s1 => Or.inl ⟨by rw [e 14 (by decide)]; exact f6 s s0 s1, m5 s s0 s1⟩, fun s s0 s1 i i0 i1 => ?_, ⟨⟨by decide, by decide⟩, fun s s0 s1 => Or.inl ⟨rfl, m7 s s0 s1⟩⟩, ?_, fun s s0 s1 => ?_, ⟨by rw [e 3 (by decide)]; exact f2, m2, by rw [e 63 (by decide)]; exact f9, by rw [e 64 (by decide)]; exact f10, by rw [e 75 (by decide)]; exact f11, hp⟩, ⟨fun j j0 j1 => ⟨?_, m8 j j0 j1, ?_⟩, fun l o l0 o0 lo => by rw [e 17 (by decide)]; exact f7 l o l0 o0 lo, fun j _ _ => ⟨by rw [e 65 (by decide)]; exact f12 j, by rw [e 76 (by decide)]; exact f13 j⟩⟩, fun h g a b c d => by rw [e 50 (by decide)]; exact fp h g a b c d⟩, ?_⟩
  · rw [e 4 (by decide), f5, m6]
    exact ⟨by constructor <;> decide, rfl⟩
  · unfold iv_tr
    rw [e 3 (by decide), f3, z12]
    exact ⟨by decide, rfl, fun j a b => by omega⟩
  · rw [e 41 (by decide), e 32 (by decide), f8 s s0 s1, ms s s0 s1]
    refine ⟨by decide, rfl, (fm s s0 s1).1, fun k k0 k1 => ⟨?_, fun z => ?_⟩⟩
    · rw [m9]; omega
    · rw [m9, show k = 1 by omega]; exact (fm s s0 s1).2
  · rw [e 1 (by decide), f1 1 (by decide)]; exact (k j j0 j1).1
  · rw [e 2 (by decide), f1 2 (by decide)]; exact (k j j0 j1).2
  · unfold iv_st
    rw [z1, e 3 (by decide), f4]
    exact ⟨rfl, by decide, by decide⟩
theorem s_L_cell {G : am_G} {d : Nat} {V : am_V} {R : am_T} {T : Nat} {Q : Option AV → am_V → am_T → Nat → Prop} {n : Int} (hn : V 0 (-1) = n) (h : 0 ≤ n ∧ n ≤ 3073) (hQ : Q (some (vI (if 0 < n then V 0 0 else 0))) V R T) : am_Calls G (d + 1) 167 [vR 0, vI 0] V R T Q := by
  refine am_enter mt_L_cell ok_L_cell rfl ?_
  by_cases q : 0 < n
  · rw [if_pos q] at hQ
    refine am_run 400 mt_L_cell ok_L_cell (fun K S hK hS => ?_)
    iterate 30 (all_goals (first
      | (refine And.intro (by omega) ?_)
      | (refine And.intro (by decide) ?_)
      | (refine And.intro (fun hb => absurd hb (by omega)) (fun hb => ?_))
      | (refine And.intro (fun hb => ?_) (fun hb => absurd hb (by omega)))
      | (refine And.intro (fun hb => ?_) (fun hb => ?_))
      | (intro hb)
      | (simp only [hn])
      | (conv => whnf)))
    exact hQ
  · rw [if_neg q] at hQ
    refine am_run 400 mt_L_cell ok_L_cell (fun K S hK hS => ?_)
    iterate 30 (all_goals (first
      | (refine And.intro (by omega) ?_)
      | (refine And.intro (by decide) ?_)
      | (refine And.intro (fun hb => absurd hb (by omega)) (fun hb => ?_))
      | (refine And.intro (fun hb => ?_) (fun hb => absurd hb (by omega)))
      | (refine And.intro (fun hb => ?_) (fun hb => ?_))
      | (intro hb)
      | (simp only [hn])
      | (conv => whnf)))
    exact hQ
theorem am_sw_j {z : Int} {k : Nat → Prop} {d t : Nat} : ∀ {l : List Nat} {lo : Int} {j : Nat}, z = lo + (j : Int) → l[j]? = some t → k t → am_sw l z lo k d
  | [], _, _, _, h, _ => by cases h
  | u :: l, lo, 0, e, h, q => by
    refine And.intro (fun _ => ?_) (fun n => absurd (by omega) n)
    cases h
    exact q
  | u :: l, lo, j + 1, e, h, q => And.intro (fun n => absurd n (by omega)) (fun _ => am_sw_j (l := l) (lo := lo + 1) (j := j) (by omega) h q)
theorem am_sw_out {z : Int} {k : Nat → Prop} {d : Nat} : ∀ {l : List Nat} {lo : Int}, lo + (l.length : Int) ≤ z → k d → am_sw l z lo k d
  | [], _, _, q => q
  | u :: l, lo, e, q => by
    have e : lo + ((l.length + 1 : Nat) : Int) ≤ z := e
    exact And.intro (fun n => absurd n (by omega)) (fun _ => am_sw_out (l := l) (lo := lo + 1) (by omega) q)
