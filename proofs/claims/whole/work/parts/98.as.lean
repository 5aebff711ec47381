/-! ask: traces -/
def tl (c0 : Nat) (i0 : Int) (c1 s1 s2 : Nat) (l : List Int) (V V' : am_V) : Prop := V' c0 i0 = V c0 i0 + l.length ∧ (∀ j, 0 ≤ j → j < V c0 i0 → V' c1 j = V c1 j) ∧ (∀ i : Nat, i < l.length → V' c1 (V c0 i0 + i) = l.getD i 0) ∧ (∀ a, a ≠ c0 → a ≠ c1 → a ≠ s1 → a ≠ s2 → V' a = V a) ∧ (∀ j, j ≠ i0 → V' c0 j = V c0 j)
theorem tl_trans {c0 c1 s1 s2 : Nat} {i0 : Int} {l m : List Int} {V V' V'' : am_V} (h0 : 0 ≤ V c0 i0) (h : tl c0 i0 c1 s1 s2 l V V') (h' : tl c0 i0 c1 s1 s2 m V' V'') : tl c0 i0 c1 s1 s2 (l ++ m) V V'' := by
  obtain ⟨a1, a2, a3, a4, a5⟩ := h
  obtain ⟨b1, b2, b3, b4, b5⟩ := h'
  refine ⟨by rw [b1, a1, List.length_append]; omega, fun j j0 j1 => by rw [b2 j j0 (by omega), a2 j j0 j1], fun i hi => ?_, fun a z1 z2 z3 z4 => by rw [b4 a z1 z2 z3 z4, a4 a z1 z2 z3 z4], fun j z => by rw [b5 j z, a5 j z]⟩
  by_cases q : i < l.length
  · rw [b2 _ (by omega) (by omega), a3 i q, List.getD_eq_getElem?_getD, List.getD_eq_getElem?_getD, List.getElem?_append_left q]
  · rw [List.length_append] at hi
    have := b3 (i - l.length) (by omega)
    rw [show V' c0 i0 + ((i - l.length : Nat) : Int) = V c0 i0 + i by omega] at this
    rw [this, List.getD_eq_getElem?_getD, List.getD_eq_getElem?_getD, List.getElem?_append_right (by omega)]
theorem tl_nil {c0 c1 s1 s2 : Nat} {i0 : Int} {V V' : am_V} (h01 : c0 ≠ s1 ∧ c0 ≠ s2 ∧ c1 ≠ s1 ∧ c1 ≠ s2) (h : ∀ a, a ≠ s1 → a ≠ s2 → V' a = V a) : tl c0 i0 c1 s1 s2 [] V V' := by
  refine ⟨by rw [h c0 h01.1 h01.2.1]; show _ = _ + (0 : Int); omega, fun j _ _ => by rw [h c1 h01.2.2.1 h01.2.2.2], fun i hi => absurd hi (Nat.not_lt_zero i), fun a _ _ z3 z4 => h a z3 z4, fun j _ => by rw [h c0 h01.1 h01.2.1]⟩
theorem tl_one {c0 c1 s1 s2 : Nat} {i0 b : Int} {V V' : am_V} (h01 : c0 ≠ c1) (h : V' = am_up (am_up V c1 (V c0 i0) b) c0 i0 (V c0 i0 + 1)) : tl c0 i0 c1 s1 s2 [b] V V' := by
  subst h
  refine ⟨by rw [am_up_same]; rfl, fun j _ z => by rw [am_up_ne h01.symm, am_up_at, if_neg (by omega)], fun i hi => ?_, fun a z1 z2 _ _ => by rw [am_up_ne z1, am_up_ne z2], fun j z => by rw [am_up_at, if_neg z, am_up_ne h01]⟩
  have : i = 0 := by have : i < 1 := hi; omega
  subst this
  rw [am_up_ne h01.symm, am_up_at, if_pos (by omega)]; rfl
abbrev cT := tl 3 8 31 30 30
abbrev rT := tl 86 12 95 93 97
theorem s_F_leaveTrace {G : am_G} {d : Nat} {sh : Int → Option Nat} {V : am_V} {T : Nat} {Q : Option AV → am_V → am_T → Nat → Prop} {b : Int} (hc : 0 ≤ V 3 8 ∧ V 3 8 < 16) (hQ : ∀ V', cT [b] V V' → Q none V' (am_RF sh) T) : am_Calls G (d + 1) 50 [vR 3, vI b] V (am_RF sh) T Q := by
  refine am_enter mt_F_leaveTrace ok_F_leaveTrace rfl ?_
  refine am_run 400 mt_F_leaveTrace ok_F_leaveTrace (fun K S hK hS => ?_)
  iterate 30 (all_goals (first
    | (refine And.intro (by omega) ?_)
    | (refine And.intro (by decide) ?_)
    | (refine And.intro (fun hb => absurd hb (by omega)) (fun hb => ?_))
    | (refine And.intro (fun hb => ?_) (fun hb => absurd hb (by omega)))
    | (refine And.intro (fun hb => ?_) (fun hb => ?_))
    | (intro hb)
    | (simp +decide only [am_up_ne, am_up_at, reduceIte])
    | (conv => whnf)))
  exact hQ _ (tl_one (by decide) rfl)
theorem s_M_began' {G : am_G} {d : Nat} {sh : Int → Option Nat} {V : am_V} {T : Nat} {Q : Option AV → am_V → am_T → Nat → Prop} {b : Int} (hc : 0 ≤ V 86 12 ∧ V 86 12 < 16) (hQ : ∀ V', rT [b] V V' → Q none V' (am_RF sh) T) : am_Calls G (d + 1) 103 [vR 86, vI b] V (am_RF sh) T Q :=
  s_M_began (by omega) (fun V' h _ => hQ V' (tl_one (by decide) (h hc.2)))
theorem cT_th {a : Nat} {n : Int} {l : List Int} {V V' : am_V} (h : cT l V V') (ha : th_pl a) (ok : th_ok V a n) : th_ok V' a n := by
  have := ha.1
  exact th_ok_eq ok (h.2.2.2.1 a (by omega) (by omega) (by omega) (by omega)) (h.2.2.2.1 (a + 1) (by omega) (by omega) (by omega) (by omega))
theorem cT_a {a : Nat} {l : List Int} {V V' : am_V} (h : cT l V V') (ha : th_pl a) : V' a = V a ∧ V' (a + 1) = V (a + 1) := by
  have := ha.1
  exact ⟨h.2.2.2.1 a (by omega) (by omega) (by omega) (by omega), h.2.2.2.1 (a + 1) (by omega) (by omega) (by omega) (by omega)⟩
theorem s_F_body10 {G : am_G} {d : Nat} {sh : Int → Option Nat} {V : am_V} {T : Nat} {Q : Option AV → am_V → am_T → Nat → Prop} {a : Nat} {n : Int} (ha : th_pl a) (ok : th_ok V a n) (hc : 0 ≤ V 3 8 ∧ V 3 8 < 8) (hQ : ∀ V', cT [10] V V' → Q (some (vI n)) V' (am_RF sh) T) : am_Calls G (d + 2) 51 [vR 3, vR a] V (am_RF sh) T Q := by
  have ea := ok.1
  have a_0 : 107 ≤ a := ha.1
  have a_l := th_lay ha
  have a_b := th_ble ha
  have a_q := th_beq ha
  have a_m := th_lay1 ha
  have a_c := th_ble1 ha
  have a_r := th_beq1 ha
  have a_R : am_RF sh a 2 = some (a + 1) := th_RF ha
  have a_z : Nat.beq (a + 1) 0 = false := rfl
  have a_3 : Nat.ble 3 (a + 1) = true := th_ble3 ha
  have a_i : ∀ r, am_isr 3 (vR a :: r) = true := th_isr ha
  refine am_enter mt_F_body10 ok_F_body10 rfl ?_
  refine am_run 400 mt_F_body10 ok_F_body10 (fun K S hK hS => ?_)
  iterate 30 (all_goals (first
    | (refine And.intro (by omega) ?_)
    | (refine And.intro (fun hb => absurd hb (by omega)) (fun hb => ?_))
    | (refine And.intro (fun hb => ?_) (fun hb => absurd hb (by omega)))
    | (refine And.intro (fun hb => ?_) (fun hb => ?_))
    | (intro hb)
    | (conv => whnf)))
  refine hK (s_F_leaveTrace (by omega) (fun W w => ?_))
  have e1 : W a 0 = n := by rw [(cT_a w ha).1]; exact ea
  have q := hQ W w
  iterate 30 (all_goals (first
    | (refine And.intro (by omega) ?_)
    | (refine And.intro (by decide) ?_)
    | (refine And.intro (fun hb => absurd hb (by omega)) (fun hb => ?_))
    | (refine And.intro (fun hb => ?_) (fun hb => absurd hb (by omega)))
    | (refine And.intro (fun hb => ?_) (fun hb => ?_))
    | (intro hb)
    | (refine am_if_mk (a_i _) ?_)
    | (simp only [a_l, a_b, a_q, a_m, a_c, a_r, a_R, a_z, a_3, e1])
    | (conv => whnf)))
  exact q
theorem s_F_body20 {G : am_G} {d : Nat} {sh : Int → Option Nat} {V : am_V} {T : Nat} {Q : Option AV → am_V → am_T → Nat → Prop} {a : Nat} {n : Int} (ha : th_pl a) (ok : th_ok V a n) (hc : 0 ≤ V 3 8 ∧ V 3 8 < 8) (hQ : ∀ V', cT [20] V V' → Q (some (vI (V a 1))) V' (am_RF sh) T) : am_Calls G (d + 2) 56 [vR 3, vR a] V (am_RF sh) T Q := by
  have a_0 : 107 ≤ a := ha.1
  have a_l := th_lay ha
  have a_b := th_ble ha
  have a_q := th_beq ha
  have a_m := th_lay1 ha
  have a_c := th_ble1 ha
  have a_r := th_beq1 ha
  have a_R : am_RF sh a 2 = some (a + 1) := th_RF ha
  have a_z : Nat.beq (a + 1) 0 = false := rfl
  have a_3 : Nat.ble 3 (a + 1) = true := th_ble3 ha
  have a_i : ∀ r, am_isr 3 (vR a :: r) = true := th_isr ha
  refine am_enter mt_F_body20 ok_F_body20 rfl ?_
  refine am_run 400 mt_F_body20 ok_F_body20 (fun K S hK hS => ?_)
  iterate 30 (all_goals (first
    | (refine And.intro (by omega) ?_)
    | (refine And.intro (fun hb => absurd hb (by omega)) (fun hb => ?_))
    | (refine And.intro (fun hb => ?_) (fun hb => absurd hb (by omega)))
    | (refine And.intro (fun hb => ?_) (fun hb => ?_))
    | (intro hb)
    | (conv => whnf)))
  refine hK (s_F_leaveTrace (by omega) (fun W w => ?_))
  have e1 : W a 1 = V a 1 := by rw [(cT_a w ha).1]
  have q := hQ W w
  iterate 30 (all_goals (first
    | (refine And.intro (by omega) ?_)
    | (refine And.intro (by decide) ?_)
    | (refine And.intro (fun hb => absurd hb (by omega)) (fun hb => ?_))
    | (refine And.intro (fun hb => ?_) (fun hb => absurd hb (by omega)))
    | (refine And.intro (fun hb => ?_) (fun hb => ?_))
    | (intro hb)
    | (refine am_if_mk (a_i _) ?_)
    | (simp only [a_l, a_b, a_q, a_m, a_c, a_r, a_R, a_z, a_3, e1])
    | (conv => whnf)))
  exact q
theorem s_F_body11 {G : am_G} {d : Nat} {sh : Int → Option Nat} {V : am_V} {T : Nat} {Q : Option AV → am_V → am_T → Nat → Prop} {a : Nat} {n : Int} (ha : th_pl a) (ok : th_ok V a n) (hc : 0 ≤ V 3 8 ∧ V 3 8 < 6) (hQ : ∀ V', cT [11, 10] V V' → Q (some (vI (n + V a 1))) V' (am_RF sh) T) : am_Calls G (d + 3) 52 [vR 3, vR a] V (am_RF sh) T Q := by
  have a_0 : 107 ≤ a := ha.1
  have a_l := th_lay ha
  have a_b := th_ble ha
  have a_q := th_beq ha
  have a_m := th_lay1 ha
  have a_c := th_ble1 ha
  have a_r := th_beq1 ha
  have a_R : am_RF sh a 2 = some (a + 1) := th_RF ha
  have a_z : Nat.beq (a + 1) 0 = false := rfl
  have a_3 : Nat.ble 3 (a + 1) = true := th_ble3 ha
  have a_i : ∀ r, am_isr 3 (vR a :: r) = true := th_isr ha
  refine am_enter mt_F_body11 ok_F_body11 rfl ?_
  refine am_run 400 mt_F_body11 ok_F_body11 (fun K S hK hS => ?_)
  iterate 30 (all_goals (first
    | (refine And.intro (by omega) ?_)
    | (refine And.intro (fun hb => absurd hb (by omega)) (fun hb => ?_))
    | (refine And.intro (fun hb => ?_) (fun hb => absurd hb (by omega)))
    | (refine And.intro (fun hb => ?_) (fun hb => ?_))
    | (intro hb)
    | (conv => whnf)))
  refine hK (s_F_leaveTrace (by omega) (fun W w => ?_))
  have c1 := w.1
  iterate 30 (all_goals (first
    | (refine And.intro (by omega) ?_)
    | (refine And.intro (by decide) ?_)
    | (refine And.intro (fun hb => absurd hb (by omega)) (fun hb => ?_))
    | (refine And.intro (fun hb => ?_) (fun hb => absurd hb (by omega)))
    | (refine And.intro (fun hb => ?_) (fun hb => ?_))
    | (intro hb)
    | (refine am_if_mk (a_i _) ?_)
    | (simp only [a_l, a_b, a_q, a_m, a_c, a_r, a_R, a_z, a_3])
    | (conv => whnf)))
  refine hK (s_F_body10 ha (cT_th w ha ok) (by show 0 ≤ W 3 8 ∧ W 3 8 < 8; rw [c1]; simp only [List.length]; omega) (fun U u => ?_))
  have e1 : U a 1 = V a 1 := by rw [(cT_a u ha).1, (cT_a w ha).1]
  have q := hQ U (tl_trans hc.1 w u)
  iterate 30 (all_goals (first
    | (refine And.intro (by omega) ?_)
    | (refine And.intro (by decide) ?_)
    | (refine And.intro (fun hb => absurd hb (by omega)) (fun hb => ?_))
    | (refine And.intro (fun hb => ?_) (fun hb => absurd hb (by omega)))
    | (refine And.intro (fun hb => ?_) (fun hb => ?_))
    | (intro hb)
    | (refine am_if_mk (a_i _) ?_)
    | (simp only [a_l, a_b, a_q, a_m, a_c, a_r, a_R, a_z, a_3, e1])
    | (conv => whnf)))
  exact q
theorem s_F_body21 {G : am_G} {d : Nat} {sh : Int → Option Nat} {V : am_V} {T : Nat} {Q : Option AV → am_V → am_T → Nat → Prop} {a : Nat} {n : Int} (ha : th_pl a) (ok : th_ok V a n) (hc : 0 ≤ V 3 8 ∧ V 3 8 < 6) (hQ : ∀ V', cT [21, 20] V V' → Q (some (vI (V a 1 + 100))) V' (am_RF sh) T) : am_Calls G (d + 3) 57 [vR 3, vR a] V (am_RF sh) T Q := by
  have a_0 : 107 ≤ a := ha.1
  have a_l := th_lay ha
  have a_b := th_ble ha
  have a_q := th_beq ha
  have a_m := th_lay1 ha
  have a_c := th_ble1 ha
  have a_r := th_beq1 ha
  have a_R : am_RF sh a 2 = some (a + 1) := th_RF ha
  have a_z : Nat.beq (a + 1) 0 = false := rfl
  have a_3 : Nat.ble 3 (a + 1) = true := th_ble3 ha
  have a_i : ∀ r, am_isr 3 (vR a :: r) = true := th_isr ha
  refine am_enter mt_F_body21 ok_F_body21 rfl ?_
  refine am_run 400 mt_F_body21 ok_F_body21 (fun K S hK hS => ?_)
  iterate 30 (all_goals (first
    | (refine And.intro (by omega) ?_)
    | (refine And.intro (fun hb => absurd hb (by omega)) (fun hb => ?_))
    | (refine And.intro (fun hb => ?_) (fun hb => absurd hb (by omega)))
    | (refine And.intro (fun hb => ?_) (fun hb => ?_))
    | (intro hb)
    | (conv => whnf)))
  refine hK (s_F_leaveTrace (by omega) (fun W w => ?_))
  have c1 := w.1
  iterate 30 (all_goals (first
    | (refine And.intro (by omega) ?_)
    | (refine And.intro (by decide) ?_)
    | (refine And.intro (fun hb => absurd hb (by omega)) (fun hb => ?_))
    | (refine And.intro (fun hb => ?_) (fun hb => absurd hb (by omega)))
    | (refine And.intro (fun hb => ?_) (fun hb => ?_))
    | (intro hb)
    | (refine am_if_mk (a_i _) ?_)
    | (simp only [a_l, a_b, a_q, a_m, a_c, a_r, a_R, a_z, a_3])
    | (conv => whnf)))
  refine hK (s_F_body20 ha (cT_th w ha ok) (by show 0 ≤ W 3 8 ∧ W 3 8 < 8; rw [c1]; simp only [List.length]; omega) (fun U u => ?_))
  have q := hQ U (tl_trans hc.1 w u)
  rw [(cT_a w ha).1]
  iterate 30 (all_goals (first
    | (refine And.intro (by omega) ?_)
    | (refine And.intro (by decide) ?_)
    | (refine And.intro (fun hb => absurd hb (by omega)) (fun hb => ?_))
    | (refine And.intro (fun hb => ?_) (fun hb => absurd hb (by omega)))
    | (refine And.intro (fun hb => ?_) (fun hb => ?_))
    | (intro hb)
    | (refine am_if_mk (a_i _) ?_)
    | (simp only [a_l, a_b, a_q, a_m, a_c, a_r, a_R, a_z, a_3])
    | (conv => whnf)))
  exact q
theorem s_F_body12 {G : am_G} {d : Nat} {sh : Int → Option Nat} {V : am_V} {T : Nat} {Q : Option AV → am_V → am_T → Nat → Prop} {a : Nat} {n : Int} (ha : th_pl a) (ok : th_ok V a n) (hc : 0 ≤ V 3 8 ∧ V 3 8 < 4) (hQ : ∀ V', cT [12, 11, 10] V V' → Q (some (vI (2 * (n + V a 1)))) V' (am_RF sh) T) : am_Calls G (d + 4) 53 [vR 3, vR a] V (am_RF sh) T Q := by
  have a_0 : 107 ≤ a := ha.1
  have a_l := th_lay ha
  have a_b := th_ble ha
  have a_q := th_beq ha
  have a_m := th_lay1 ha
  have a_c := th_ble1 ha
  have a_r := th_beq1 ha
  have a_R : am_RF sh a 2 = some (a + 1) := th_RF ha
  have a_z : Nat.beq (a + 1) 0 = false := rfl
  have a_3 : Nat.ble 3 (a + 1) = true := th_ble3 ha
  have a_i : ∀ r, am_isr 3 (vR a :: r) = true := th_isr ha
  refine am_enter mt_F_body12 ok_F_body12 rfl ?_
  refine am_run 400 mt_F_body12 ok_F_body12 (fun K S hK hS => ?_)
  iterate 30 (all_goals (first
    | (refine And.intro (by omega) ?_)
    | (refine And.intro (fun hb => absurd hb (by omega)) (fun hb => ?_))
    | (refine And.intro (fun hb => ?_) (fun hb => absurd hb (by omega)))
    | (refine And.intro (fun hb => ?_) (fun hb => ?_))
    | (intro hb)
    | (conv => whnf)))
  refine hK (s_F_leaveTrace (by omega) (fun W w => ?_))
  have c1 := w.1
  iterate 30 (all_goals (first
    | (refine And.intro (by omega) ?_)
    | (refine And.intro (by decide) ?_)
    | (refine And.intro (fun hb => absurd hb (by omega)) (fun hb => ?_))
    | (refine And.intro (fun hb => ?_) (fun hb => absurd hb (by omega)))
    | (refine And.intro (fun hb => ?_) (fun hb => ?_))
    | (intro hb)
    | (refine am_if_mk (a_i _) ?_)
    | (simp only [a_l, a_b, a_q, a_m, a_c, a_r, a_R, a_z, a_3])
    | (conv => whnf)))
  refine hK (s_F_body11 ha (cT_th w ha ok) (by show 0 ≤ W 3 8 ∧ W 3 8 < 6; rw [c1]; simp only [List.length]; omega) (fun U u => ?_))
  have q := hQ U (tl_trans hc.1 w u)
  rw [(cT_a w ha).1]
  iterate 30 (all_goals (first
    | (refine And.intro (by omega) ?_)
    | (refine And.intro (by decide) ?_)
    | (refine And.intro (fun hb => absurd hb (by omega)) (fun hb => ?_))
    | (refine And.intro (fun hb => ?_) (fun hb => absurd hb (by omega)))
    | (refine And.intro (fun hb => ?_) (fun hb => ?_))
    | (intro hb)
    | (refine am_if_mk (a_i _) ?_)
    | (simp only [a_l, a_b, a_q, a_m, a_c, a_r, a_R, a_z, a_3])
    | (conv => whnf)))
  exact q
theorem s_F_body13 {G : am_G} {d : Nat} {sh : Int → Option Nat} {V : am_V} {T : Nat} {Q : Option AV → am_V → am_T → Nat → Prop} {a : Nat} {n : Int} (ha : th_pl a) (ok : th_ok V a n) (hc : 0 ≤ V 3 8 ∧ V 3 8 < 2) (hQ : ∀ V', cT [13, 11, 10, 21, 20] V V' → Q (some (vI (n + V a 1 + (V a 1 + 100)))) V' (am_RF sh) T) : am_Calls G (d + 4) 54 [vR 3, vR a] V (am_RF sh) T Q := by
  have a_0 : 107 ≤ a := ha.1
  have a_l := th_lay ha
  have a_b := th_ble ha
  have a_q := th_beq ha
  have a_m := th_lay1 ha
  have a_c := th_ble1 ha
  have a_r := th_beq1 ha
  have a_R : am_RF sh a 2 = some (a + 1) := th_RF ha
  have a_z : Nat.beq (a + 1) 0 = false := rfl
  have a_3 : Nat.ble 3 (a + 1) = true := th_ble3 ha
  have a_i : ∀ r, am_isr 3 (vR a :: r) = true := th_isr ha
  refine am_enter mt_F_body13 ok_F_body13 rfl ?_
  refine am_run 400 mt_F_body13 ok_F_body13 (fun K S hK hS => ?_)
  iterate 30 (all_goals (first
    | (refine And.intro (by omega) ?_)
    | (refine And.intro (fun hb => absurd hb (by omega)) (fun hb => ?_))
    | (refine And.intro (fun hb => ?_) (fun hb => absurd hb (by omega)))
    | (refine And.intro (fun hb => ?_) (fun hb => ?_))
    | (intro hb)
    | (conv => whnf)))
  refine hK (s_F_leaveTrace (by omega) (fun W w => ?_))
  have c1 := w.1
  iterate 30 (all_goals (first
    | (refine And.intro (by omega) ?_)
    | (refine And.intro (by decide) ?_)
    | (refine And.intro (fun hb => absurd hb (by omega)) (fun hb => ?_))
    | (refine And.intro (fun hb => ?_) (fun hb => absurd hb (by omega)))
    | (refine And.intro (fun hb => ?_) (fun hb => ?_))
    | (intro hb)
    | (refine am_if_mk (a_i _) ?_)
    | (simp only [a_l, a_b, a_q, a_m, a_c, a_r, a_R, a_z, a_3])
    | (conv => whnf)))
  refine hK (s_F_body11 ha (cT_th w ha ok) (by show 0 ≤ W 3 8 ∧ W 3 8 < 6; rw [c1]; simp only [List.length]; omega) (fun U u => ?_))
  have t2 := tl_trans hc.1 w u
  have c2 := t2.1
  rw [(cT_a w ha).1]
  iterate 30 (all_goals (first
    | (refine And.intro (by omega) ?_)
    | (refine And.intro (by decide) ?_)
    | (refine And.intro (fun hb => absurd hb (by omega)) (fun hb => ?_))
    | (refine And.intro (fun hb => ?_) (fun hb => absurd hb (by omega)))
    | (refine And.intro (fun hb => ?_) (fun hb => ?_))
    | (intro hb)
    | (refine am_if_mk (a_i _) ?_)
    | (simp only [a_l, a_b, a_q, a_m, a_c, a_r, a_R, a_z, a_3])
    | (conv => whnf)))
  refine hK (s_F_body21 ha (cT_th t2 ha ok) (by show 0 ≤ U 3 8 ∧ U 3 8 < 6; rw [c2]; simp only [List.length, List.length_append]; omega) (fun X x => ?_))
  have q := hQ X (tl_trans hc.1 t2 x)
  rw [(cT_a t2 ha).1]
  iterate 30 (all_goals (first
    | (refine And.intro (by omega) ?_)
    | (refine And.intro (by decide) ?_)
    | (refine And.intro (fun hb => absurd hb (by omega)) (fun hb => ?_))
    | (refine And.intro (fun hb => ?_) (fun hb => absurd hb (by omega)))
    | (refine And.intro (fun hb => ?_) (fun hb => ?_))
    | (intro hb)
    | (refine am_if_mk (a_i _) ?_)
    | (simp only [a_l, a_b, a_q, a_m, a_c, a_r, a_R, a_z, a_3])
    | (conv => whnf)))
  exact q
theorem s_F_body14 {G : am_G} {d : Nat} {sh : Int → Option Nat} {V : am_V} {T : Nat} {Q : Option AV → am_V → am_T → Nat → Prop} {a : Nat} {n : Int} {P : Int → Int} (ha : th_pl a) (ok : th_ok V a n) (hc : 0 ≤ V 3 8 ∧ V 3 8 < 4) (hP : m_P (V (a + 1)) n P) (hQ : ∀ V' r L, cT [14, 10] V V' → ob_out (ob_C (V (a + 1)) n) n L n r → 0 ≤ r → r ≤ n / 2 + 1 → Q (some (vI (n * ((n / 2 + 1 - r) / 2)))) V' (am_RF sh) T) : am_Calls G (d + 5) 55 [vR 3, vR a] V (am_RF sh) T Q := by
  have a_0 : 107 ≤ a := ha.1
  have a_l := th_lay ha
  have a_b := th_ble ha
  have a_q := th_beq ha
  have a_m := th_lay1 ha
  have a_c := th_ble1 ha
  have a_r := th_beq1 ha
  have a_R : am_RF sh a 2 = some (a + 1) := th_RF ha
  have a_z : Nat.beq (a + 1) 0 = false := rfl
  have a_3 : Nat.ble 3 (a + 1) = true := th_ble3 ha
  have a_i : ∀ r, am_isr 3 (vR a :: r) = true := th_isr ha
  refine am_enter mt_F_body14 ok_F_body14 rfl ?_
  refine am_run 400 mt_F_body14 ok_F_body14 (fun K S hK hS => ?_)
  iterate 30 (all_goals (first
    | (refine And.intro (by omega) ?_)
    | (refine And.intro (fun hb => absurd hb (by omega)) (fun hb => ?_))
    | (refine And.intro (fun hb => ?_) (fun hb => absurd hb (by omega)))
    | (refine And.intro (fun hb => ?_) (fun hb => ?_))
    | (intro hb)
    | (conv => whnf)))
  refine hK (s_F_leaveTrace (by omega) (fun W w => ?_))
  have c1 := w.1
  iterate 30 (all_goals (first
    | (refine And.intro (by omega) ?_)
    | (refine And.intro (by decide) ?_)
    | (refine And.intro (fun hb => absurd hb (by omega)) (fun hb => ?_))
    | (refine And.intro (fun hb => ?_) (fun hb => absurd hb (by omega)))
    | (refine And.intro (fun hb => ?_) (fun hb => ?_))
    | (intro hb)
    | (refine am_if_mk (a_i _) ?_)
    | (simp only [a_l, a_b, a_q, a_m, a_c, a_r, a_R, a_z, a_3])
    | (conv => whnf)))
  refine hK (s_F_body10 ha (cT_th w ha ok) (by show 0 ≤ W 3 8 ∧ W 3 8 < 8; rw [c1]; simp only [List.length]; omega) (fun U u => ?_))
  have t2 := tl_trans hc.1 w u
  have e2 : U (a + 1) = V (a + 1) := (cT_a t2 ha).2
  have ok2 := cT_th t2 ha ok
  iterate 30 (all_goals (first
    | (refine And.intro (by omega) ?_)
    | (refine And.intro (by decide) ?_)
    | (refine And.intro (fun hb => absurd hb (by omega)) (fun hb => ?_))
    | (refine And.intro (fun hb => ?_) (fun hb => absurd hb (by omega)))
    | (refine And.intro (fun hb => ?_) (fun hb => ?_))
    | (intro hb)
    | (refine am_if_mk (a_i _) ?_)
    | (simp only [a_l, a_b, a_q, a_m, a_c, a_r, a_R, a_z, a_3])
    | (conv => whnf)))
  refine hK (s_F_handlesOf (P := P) ha ok.2.1 ok2.1 (fun i z0 z1 => by have := m_rgs_lt ok2.2.2.1 z0 z1; have := ok.2.1; omega) (by rw [e2]; exact hP) (fun X r L x1 o r0 r1 => ?_))
  rw [e2] at o
  have q := hQ X r L (by have := tl_trans hc.1 t2 (tl_nil (by decide) (fun a z _ => x1 a z)); exact this) o r0 r1
  iterate 30 (all_goals (first
    | (refine And.intro (by omega) ?_)
    | (refine And.intro (by decide) ?_)
    | (refine And.intro (fun hb => absurd hb (by omega)) (fun hb => ?_))
    | (refine And.intro (fun hb => ?_) (fun hb => absurd hb (by omega)))
    | (refine And.intro (fun hb => ?_) (fun hb => ?_))
    | (intro hb)
    | (refine am_if_mk (a_i _) ?_)
    | (simp only [a_l, a_b, a_q, a_m, a_c, a_r, a_R, a_z, a_3])
    | (conv => whnf)))
  exact q
theorem s_F_body22 {G : am_G} {d : Nat} {sh : Int → Option Nat} {V : am_V} {T : Nat} {Q : Option AV → am_V → am_T → Nat → Prop} {a : Nat} {n : Int} {P : Int → Int} (ha : th_pl a) (ok : th_ok V a n) (hc : 0 ≤ V 3 8 ∧ V 3 8 < 2) (hP : m_P (V (a + 1)) n P) (hQ : ∀ V' r L, cT [22, 20, 14, 10] V V' → ob_out (ob_C (V (a + 1)) n) n L n r → 0 ≤ r → r ≤ n / 2 + 1 → Q (some (vI (V a 1 + n * ((n / 2 + 1 - r) / 2)))) V' (am_RF sh) T) : am_Calls G (d + 6) 58 [vR 3, vR a] V (am_RF sh) T Q := by
  have a_0 : 107 ≤ a := ha.1
  have a_l := th_lay ha
  have a_b := th_ble ha
  have a_q := th_beq ha
  have a_m := th_lay1 ha
  have a_c := th_ble1 ha
  have a_r := th_beq1 ha
  have a_R : am_RF sh a 2 = some (a + 1) := th_RF ha
  have a_z : Nat.beq (a + 1) 0 = false := rfl
  have a_3 : Nat.ble 3 (a + 1) = true := th_ble3 ha
  have a_i : ∀ r, am_isr 3 (vR a :: r) = true := th_isr ha
  refine am_enter mt_F_body22 ok_F_body22 rfl ?_
  refine am_run 400 mt_F_body22 ok_F_body22 (fun K S hK hS => ?_)
  iterate 30 (all_goals (first
    | (refine And.intro (by omega) ?_)
    | (refine And.intro (fun hb => absurd hb (by omega)) (fun hb => ?_))
    | (refine And.intro (fun hb => ?_) (fun hb => absurd hb (by omega)))
    | (refine And.intro (fun hb => ?_) (fun hb => ?_))
    | (intro hb)
    | (conv => whnf)))
  refine hK (s_F_leaveTrace (by omega) (fun W w => ?_))
  have c1 := w.1
  iterate 30 (all_goals (first
    | (refine And.intro (by omega) ?_)
    | (refine And.intro (by decide) ?_)
    | (refine And.intro (fun hb => absurd hb (by omega)) (fun hb => ?_))
    | (refine And.intro (fun hb => ?_) (fun hb => absurd hb (by omega)))
    | (refine And.intro (fun hb => ?_) (fun hb => ?_))
    | (intro hb)
    | (refine am_if_mk (a_i _) ?_)
    | (simp only [a_l, a_b, a_q, a_m, a_c, a_r, a_R, a_z, a_3])
    | (conv => whnf)))
  refine hK (s_F_body20 ha (cT_th w ha ok) (by show 0 ≤ W 3 8 ∧ W 3 8 < 8; rw [c1]; simp only [List.length]; omega) (fun U u => ?_))
  have t2 := tl_trans hc.1 w u
  have c2 := t2.1
  have e2 : U (a + 1) = V (a + 1) := (cT_a t2 ha).2
  rw [(cT_a w ha).1]
  iterate 30 (all_goals (first
    | (refine And.intro (by omega) ?_)
    | (refine And.intro (by decide) ?_)
    | (refine And.intro (fun hb => absurd hb (by omega)) (fun hb => ?_))
    | (refine And.intro (fun hb => ?_) (fun hb => absurd hb (by omega)))
    | (refine And.intro (fun hb => ?_) (fun hb => ?_))
    | (intro hb)
    | (refine am_if_mk (a_i _) ?_)
    | (simp only [a_l, a_b, a_q, a_m, a_c, a_r, a_R, a_z, a_3])
    | (conv => whnf)))
  refine hK (s_F_body14 (P := P) ha (cT_th t2 ha ok) (by show 0 ≤ U 3 8 ∧ U 3 8 < 4; rw [c2]; simp only [List.length, List.length_append]; omega) (by rw [e2]; exact hP) (fun X r L x1 o r0 r1 => ?_))
  rw [e2] at o
  have q := hQ X r L (tl_trans hc.1 t2 x1) o r0 r1
  iterate 30 (all_goals (first
    | (refine And.intro (by omega) ?_)
    | (refine And.intro (by decide) ?_)
    | (refine And.intro (fun hb => absurd hb (by omega)) (fun hb => ?_))
    | (refine And.intro (fun hb => ?_) (fun hb => absurd hb (by omega)))
    | (refine And.intro (fun hb => ?_) (fun hb => ?_))
    | (intro hb)
    | (refine am_if_mk (a_i _) ?_)
    | (simp only [a_l, a_b, a_q, a_m, a_c, a_r, a_R, a_z, a_3])
    | (conv => whnf)))
  exact q
/-- what is answered, and what is left in the trace -/
def as_I (kd w n b : Int) (g : Int → Int) (l : List Int) (v : Int) : Prop :=
  (w = 0 ∧ ((kd = 0 ∧ l = [10] ∧ v = n) ∨ (kd = 1 ∧ l = [11, 10] ∧ v = n + b) ∨ (kd = 2 ∧ l = [12, 11, 10] ∧ v = 2 * (n + b)) ∨ (kd = 3 ∧ l = [13, 11, 10, 21, 20] ∧ v = n + b + (b + 100)) ∨ (kd = 4 ∧ l = [14, 10] ∧ ∃ r L, ob_out (ob_C g n) n L n r ∧ 0 ≤ r ∧ r ≤ n / 2 + 1 ∧ v = n * ((n / 2 + 1 - r) / 2)))) ∨ (w = 1 ∧ ((kd = 0 ∧ l = [20] ∧ v = b) ∨ ((kd = 1 ∨ kd = 2 ∨ kd = 3) ∧ l = [21, 20] ∧ v = b + 100) ∨ (kd = 4 ∧ l = [22, 20, 14, 10] ∧ ∃ r L, ob_out (ob_C g n) n L n r ∧ 0 ≤ r ∧ r ≤ n / 2 + 1 ∧ v = b + n * ((n / 2 + 1 - r) / 2))))
theorem m_kd_prs {g : Int → Int} {n r : Int} (h : m_kd g n r) (hr : r = 4) : m_prs g n := by
  rcases h with ⟨a, b, c⟩ | ⟨a, b, c, f⟩ | ⟨a, b, c, f⟩ | ⟨a, b, c⟩ | ⟨a, b, c⟩
  · omega
  · exact f
  · omega
  · exact c
  · omega
theorem s_F_sizeOf {G : am_G} {d : Nat} {sh : Int → Option Nat} {V : am_V} {T : Nat} {Q : Option AV → am_V → am_T → Nat → Prop} {a : Nat} {n : Int} (ha : th_pl a) (ok : th_ok V a n) (hc : V 3 8 = 0) (hQ : ∀ V' l v, cT l V V' → as_I (V a 4) 0 n (V a 1) (V (a + 1)) l v → Q (some (vI v)) V' (am_RF sh) T) : am_Calls G (d + 6) 48 [vR 3, vR a] V (am_RF sh) T Q := by
  have xk := m_kd_rng ok.2.2.2.2.2
  have a_0 : 107 ≤ a := ha.1
  have a_l := th_lay ha
  have a_b := th_ble ha
  have a_q := th_beq ha
  have a_m := th_lay1 ha
  have a_c := th_ble1 ha
  have a_r := th_beq1 ha
  have a_R : am_RF sh a 2 = some (a + 1) := th_RF ha
  have a_z : Nat.beq (a + 1) 0 = false := rfl
  have a_3 : Nat.ble 3 (a + 1) = true := th_ble3 ha
  have a_i : ∀ r, am_isr 3 (vR a :: r) = true := th_isr ha
  by_cases k4 : V a 4 = 4
  · obtain ⟨P, hP⟩ := m_P_ex (m_kd_prs ok.2.2.2.2.2 k4)
    refine am_enter mt_F_sizeOf ok_F_sizeOf rfl ?_
    refine am_run 400 mt_F_sizeOf ok_F_sizeOf (fun K S hK hS => ?_)
    iterate 30 (all_goals (first
      | (refine And.intro (by omega) ?_)
      | (refine And.intro (by decide) ?_)
      | (refine And.intro (fun hb => absurd hb (by omega)) (fun hb => ?_))
      | (refine And.intro (fun hb => ?_) (fun hb => absurd hb (by omega)))
      | (refine And.intro (fun hb => ?_) (fun hb => ?_))
      | (intro hb)
      | (refine am_if_mk (a_i _) ?_)
      | (simp only [a_l, a_b, a_q, a_m, a_c, a_r, a_R, a_z, a_3, k4])
      | (conv => whnf)))
    refine hK (s_F_body14 ha ok (by omega) hP (fun U r L u o r0 r1 => ?_))
    have q := hQ U _ _ u (Or.inl ⟨rfl, Or.inr (Or.inr (Or.inr (Or.inr ⟨k4, rfl, r, L, o, r0, r1, rfl⟩)))⟩)
    iterate 30 (all_goals (first
      | (refine And.intro (by omega) ?_)
      | (refine And.intro (fun hb => absurd hb (by omega)) (fun hb => ?_))
      | (refine And.intro (fun hb => ?_) (fun hb => absurd hb (by omega)))
      | (refine And.intro (fun hb => ?_) (fun hb => ?_))
      | (intro hb)
      | (conv => whnf)))
    exact q
  by_cases k3 : V a 4 = 3
  · refine am_enter mt_F_sizeOf ok_F_sizeOf rfl ?_
    refine am_run 400 mt_F_sizeOf ok_F_sizeOf (fun K S hK hS => ?_)
    iterate 30 (all_goals (first
      | (refine And.intro (by omega) ?_)
      | (refine And.intro (by decide) ?_)
      | (refine And.intro (fun hb => absurd hb (by omega)) (fun hb => ?_))
      | (refine And.intro (fun hb => ?_) (fun hb => absurd hb (by omega)))
      | (refine And.intro (fun hb => ?_) (fun hb => ?_))
      | (intro hb)
      | (refine am_if_mk (a_i _) ?_)
      | (simp only [a_l, a_b, a_q, a_m, a_c, a_r, a_R, a_z, a_3, k3])
      | (conv => whnf)))
    refine hK (s_F_body13 ha ok (by omega) (fun U u => ?_))
    have q := hQ U _ _ u (Or.inl ⟨rfl, Or.inr (Or.inr (Or.inr (Or.inl ⟨k3, rfl, rfl⟩)))⟩)
    iterate 30 (all_goals (first
      | (refine And.intro (by omega) ?_)
      | (refine And.intro (fun hb => absurd hb (by omega)) (fun hb => ?_))
      | (refine And.intro (fun hb => ?_) (fun hb => absurd hb (by omega)))
      | (refine And.intro (fun hb => ?_) (fun hb => ?_))
      | (intro hb)
      | (conv => whnf)))
    exact q
  by_cases k2 : V a 4 = 2
  · refine am_enter mt_F_sizeOf ok_F_sizeOf rfl ?_
    refine am_run 400 mt_F_sizeOf ok_F_sizeOf (fun K S hK hS => ?_)
    iterate 30 (all_goals (first
      | (refine And.intro (by omega) ?_)
      | (refine And.intro (by decide) ?_)
      | (refine And.intro (fun hb => absurd hb (by omega)) (fun hb => ?_))
      | (refine And.intro (fun hb => ?_) (fun hb => absurd hb (by omega)))
      | (refine And.intro (fun hb => ?_) (fun hb => ?_))
      | (intro hb)
      | (refine am_if_mk (a_i _) ?_)
      | (simp only [a_l, a_b, a_q, a_m, a_c, a_r, a_R, a_z, a_3, k2])
      | (conv => whnf)))
    refine hK (s_F_body12 ha ok (by omega) (fun U u => ?_))
    have q := hQ U _ _ u (Or.inl ⟨rfl, Or.inr (Or.inr (Or.inl ⟨k2, rfl, rfl⟩))⟩)
    iterate 30 (all_goals (first
      | (refine And.intro (by omega) ?_)
      | (refine And.intro (fun hb => absurd hb (by omega)) (fun hb => ?_))
      | (refine And.intro (fun hb => ?_) (fun hb => absurd hb (by omega)))
      | (refine And.intro (fun hb => ?_) (fun hb => ?_))
      | (intro hb)
      | (conv => whnf)))
    exact q
  by_cases k1 : V a 4 = 1
  · refine am_enter mt_F_sizeOf ok_F_sizeOf rfl ?_
    refine am_run 400 mt_F_sizeOf ok_F_sizeOf (fun K S hK hS => ?_)
    iterate 30 (all_goals (first
      | (refine And.intro (by omega) ?_)
      | (refine And.intro (by decide) ?_)
      | (refine And.intro (fun hb => absurd hb (by omega)) (fun hb => ?_))
      | (refine And.intro (fun hb => ?_) (fun hb => absurd hb (by omega)))
      | (refine And.intro (fun hb => ?_) (fun hb => ?_))
      | (intro hb)
      | (refine am_if_mk (a_i _) ?_)
      | (simp only [a_l, a_b, a_q, a_m, a_c, a_r, a_R, a_z, a_3, k1])
      | (conv => whnf)))
    refine hK (s_F_body11 ha ok (by omega) (fun U u => ?_))
    have q := hQ U _ _ u (Or.inl ⟨rfl, Or.inr (Or.inl ⟨k1, rfl, rfl⟩)⟩)
    iterate 30 (all_goals (first
      | (refine And.intro (by omega) ?_)
      | (refine And.intro (fun hb => absurd hb (by omega)) (fun hb => ?_))
      | (refine And.intro (fun hb => ?_) (fun hb => absurd hb (by omega)))
      | (refine And.intro (fun hb => ?_) (fun hb => ?_))
      | (intro hb)
      | (conv => whnf)))
    exact q
  have k0 : V a 4 = 0 := by omega
  refine am_enter mt_F_sizeOf ok_F_sizeOf rfl ?_
  refine am_run 400 mt_F_sizeOf ok_F_sizeOf (fun K S hK hS => ?_)
  iterate 30 (all_goals (first
    | (refine And.intro (by omega) ?_)
    | (refine And.intro (by decide) ?_)
    | (refine And.intro (fun hb => absurd hb (by omega)) (fun hb => ?_))
    | (refine And.intro (fun hb => ?_) (fun hb => absurd hb (by omega)))
    | (refine And.intro (fun hb => ?_) (fun hb => ?_))
    | (intro hb)
    | (refine am_if_mk (a_i _) ?_)
    | (simp only [a_l, a_b, a_q, a_m, a_c, a_r, a_R, a_z, a_3, k0])
    | (conv => whnf)))
  refine hK (s_F_body10 ha ok (by omega) (fun U u => ?_))
  have q := hQ U _ _ u (Or.inl ⟨rfl, Or.inl ⟨k0, rfl, rfl⟩⟩)
  iterate 30 (all_goals (first
    | (refine And.intro (by omega) ?_)
    | (refine And.intro (fun hb => absurd hb (by omega)) (fun hb => ?_))
    | (refine And.intro (fun hb => ?_) (fun hb => absurd hb (by omega)))
    | (refine And.intro (fun hb => ?_) (fun hb => ?_))
    | (intro hb)
    | (conv => whnf)))
  exact q
theorem s_F_markOf {G : am_G} {d : Nat} {sh : Int → Option Nat} {V : am_V} {T : Nat} {Q : Option AV → am_V → am_T → Nat → Prop} {a : Nat} {n : Int} (ha : th_pl a) (ok : th_ok V a n) (hc : V 3 8 = 0) (hQ : ∀ V' l v, cT l V V' → as_I (V a 4) 1 n (V a 1) (V (a + 1)) l v → Q (some (vI v)) V' (am_RF sh) T) : am_Calls G (d + 7) 49 [vR 3, vR a] V (am_RF sh) T Q := by
  have xk := m_kd_rng ok.2.2.2.2.2
  have a_0 : 107 ≤ a := ha.1
  have a_l := th_lay ha
  have a_b := th_ble ha
  have a_q := th_beq ha
  have a_m := th_lay1 ha
  have a_c := th_ble1 ha
  have a_r := th_beq1 ha
  have a_R : am_RF sh a 2 = some (a + 1) := th_RF ha
  have a_z : Nat.beq (a + 1) 0 = false := rfl
  have a_3 : Nat.ble 3 (a + 1) = true := th_ble3 ha
  have a_i : ∀ r, am_isr 3 (vR a :: r) = true := th_isr ha
  refine am_enter mt_F_markOf ok_F_markOf rfl ?_
  refine am_run 400 mt_F_markOf ok_F_markOf (fun K S hK hS => ?_)
  iterate 30 (all_goals (first
    | (refine And.intro (by omega) ?_)
    | (refine And.intro (by decide) ?_)
    | (refine And.intro (fun hb => absurd hb (by omega)) (fun hb => ?_))
    | (refine And.intro (fun hb => ?_) (fun hb => absurd hb (by omega)))
    | (refine And.intro (fun hb => ?_) (fun hb => ?_))
    | (intro hb)
    | (refine am_if_mk (a_i _) ?_)
    | (simp only [a_l, a_b, a_q, a_m, a_c, a_r, a_R, a_z, a_3])
    | (conv => whnf)))
  refine hK (s_T_isOf ha (by omega) xk (fun r5 hr5 => ?_))
  by_cases k4 : V a 4 = 4
  · obtain ⟨P, hP⟩ := m_P_ex (m_kd_prs ok.2.2.2.2.2 k4)
    obtain rfl : r5 = 0 := by omega
    iterate 30 (all_goals (first
      | (refine And.intro (by omega) ?_)
      | (refine And.intro (by decide) ?_)
      | (refine And.intro (fun hb => absurd hb (by omega)) (fun hb => ?_))
      | (refine And.intro (fun hb => ?_) (fun hb => absurd hb (by omega)))
      | (refine And.intro (fun hb => ?_) (fun hb => ?_))
      | (intro hb)
      | (refine am_if_mk (a_i _) ?_)
      | (simp only [a_l, a_b, a_q, a_m, a_c, a_r, a_R, a_z, a_3, k4])
      | (conv => whnf)))
    refine hK (s_F_body22 ha ok (by omega) hP (fun U r L u o r0 r1 => ?_))
    have q := hQ U _ _ u (Or.inr ⟨rfl, Or.inr (Or.inr ⟨k4, rfl, r, L, o, r0, r1, rfl⟩)⟩)
    iterate 30 (all_goals (first
      | (refine And.intro (by omega) ?_)
      | (refine And.intro (fun hb => absurd hb (by omega)) (fun hb => ?_))
      | (refine And.intro (fun hb => ?_) (fun hb => absurd hb (by omega)))
      | (refine And.intro (fun hb => ?_) (fun hb => ?_))
      | (intro hb)
      | (conv => whnf)))
    exact q
  by_cases k3 : V a 4 = 1 ∨ V a 4 = 2 ∨ V a 4 = 3
  · obtain rfl : r5 = 1 := by omega
    iterate 30 (all_goals (first
      | (refine And.intro (by omega) ?_)
      | (refine And.intro (by decide) ?_)
      | (refine And.intro (fun hb => absurd hb (by omega)) (fun hb => ?_))
      | (refine And.intro (fun hb => ?_) (fun hb => absurd hb (by omega)))
      | (refine And.intro (fun hb => ?_) (fun hb => ?_))
      | (intro hb)
      | (refine am_if_mk (a_i _) ?_)
      | (simp only [a_l, a_b, a_q, a_m, a_c, a_r, a_R, a_z, a_3])
      | (conv => whnf)))
    refine hK (s_F_body21 ha ok (by omega) (fun U u => ?_))
    have q := hQ U _ _ u (Or.inr ⟨rfl, Or.inr (Or.inl ⟨k3, rfl, rfl⟩)⟩)
    iterate 30 (all_goals (first
      | (refine And.intro (by omega) ?_)
      | (refine And.intro (fun hb => absurd hb (by omega)) (fun hb => ?_))
      | (refine And.intro (fun hb => ?_) (fun hb => absurd hb (by omega)))
      | (refine And.intro (fun hb => ?_) (fun hb => ?_))
      | (intro hb)
      | (conv => whnf)))
    exact q
  have k0 : V a 4 = 0 := by omega
  obtain rfl : r5 = 0 := by omega
  iterate 30 (all_goals (first
    | (refine And.intro (by omega) ?_)
    | (refine And.intro (by decide) ?_)
    | (refine And.intro (fun hb => absurd hb (by omega)) (fun hb => ?_))
    | (refine And.intro (fun hb => ?_) (fun hb => absurd hb (by omega)))
    | (refine And.intro (fun hb => ?_) (fun hb => ?_))
    | (intro hb)
    | (refine am_if_mk (a_i _) ?_)
    | (simp only [a_l, a_b, a_q, a_m, a_c, a_r, a_R, a_z, a_3, k0])
    | (conv => whnf)))
  refine hK (s_F_body20 ha ok (by omega) (fun U u => ?_))
  have q := hQ U _ _ u (Or.inr ⟨rfl, Or.inl ⟨k0, rfl, rfl⟩⟩)
  iterate 30 (all_goals (first
    | (refine And.intro (by omega) ?_)
    | (refine And.intro (fun hb => absurd hb (by omega)) (fun hb => ?_))
    | (refine And.intro (fun hb => ?_) (fun hb => absurd hb (by omega)))
    | (refine And.intro (fun hb => ?_) (fun hb => ?_))
    | (intro hb)
    | (conv => whnf)))
  exact q
