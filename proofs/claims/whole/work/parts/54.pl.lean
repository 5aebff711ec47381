/-! places: kind, is, as, clear, block, trace, status -/
theorem am_aN {α : Option Nat} {X : Prop} {Y : Nat → Prop} (h : α = none) (x : X) : (α = none → X) ∧ (∀ x, α = some x → Y x) := ⟨fun _ => x, fun y hy => by rw [h] at hy; cases hy⟩
theorem am_aS {α : Option Nat} {X : Prop} {Y : Nat → Prop} {a : Nat} (h : α = some a) (y : Y a) : (α = none → X) ∧ (∀ x, α = some x → Y x) := ⟨fun q => (by rw [h] at q; cases q), fun x hx => (by rw [h] at hx; cases hx; exact y)⟩
theorem am_nN {α : Type} {X Y : Prop} (x : X) : ((none : Option α) = none → X) ∧ (∀ x, (none : Option α) = some x → Y) := ⟨fun _ => x, fun _ h => (nomatch h)⟩
theorem am_nS {α : Type} {X Y : Prop} {a : α} (y : Y) : (some a = none → X) ∧ (∀ x, some a = some x → Y) := ⟨fun h => (nomatch h), fun _ _ => y⟩
theorem am_mN {α : Type} {X Y : Prop} (y : Y) : (∀ x, (none : Option α) = some x → X) ∧ ((none : Option α) = none → Y) := ⟨fun _ h => (nomatch h), fun _ => y⟩
theorem am_mS {α : Type} {X Y : Prop} {a : α} (x : X) : (∀ x, some a = some x → X) ∧ (some a = none → Y) := ⟨fun _ _ => x, fun h => (nomatch h)⟩
theorem pr_k {p : Int} {f0 : Int → Int} {r : Option AV} {sh : Int → Option Nat} {V : am_V} {T : Nat} (h : II V sh T p f0) : pr_end p f0 r r V (am_RF sh) T := ⟨rfl, sh, rfl, h⟩
theorem pr_k2 {p : Int} {f0 : Int → Int} {sh : Int → Option Nat} {V : am_V} {T : Nat} (h : II V sh T p f0) : ∃ sh2, am_RF sh = am_RF sh2 ∧ II V sh2 T p f0 := ⟨sh, rfl, h⟩
theorem II_bad {p : Int} {f0 : Int → Int} {sh : Int → Option Nat} {V : am_V} {T : Nat} (h : II V sh T p f0) : II (am_up V 86 0 0) sh T p f0 := by
  obtain ⟨hJ, h1, h2, h3⟩ := h
  refine ⟨IJ_86 hJ (Or.inl rfl), ?_⟩
  unfold iv_st
  simp +decide [am_up_ne, am_up_at, reduceIte]
  exact ⟨h1, h2, h3⟩
theorem II_find {p c : Int} {f0 : Int → Int} {sh : Int → Option Nat} {V : am_V} {T : Nat} (h : II V sh T p f0) (hc : 0 ≤ c ∧ c ≤ 5) : II (am_up (am_up (am_up (am_up V 3 17 c) 86 0 0) 86 1 0) 86 1 c) sh T p f0 := by
  refine ⟨IJ_86 (IJ_86 (IJ_86 (IJ_3 h.1) (Or.inl rfl)) (Or.inr rfl)) (Or.inr rfl), ?_⟩
  unfold iv_st
  simp +decide [am_up_ne, am_up_at, reduceIte]
  exact hc
theorem II_find2 {p c : Int} {f0 : Int → Int} {sh : Int → Option Nat} {V : am_V} {T : Nat} (h : II V sh T p f0) (hc : 0 ≤ c ∧ c ≤ 5) : II (am_up (am_up (am_up V 3 17 c) 86 0 0) 86 1 c) sh T p f0 := by
  refine ⟨IJ_86 (IJ_86 (IJ_3 h.1) (Or.inl rfl)) (Or.inr rfl), ?_⟩
  unfold iv_st
  simp +decide [am_up_ne, am_up_at, reduceIte]
  exact hc
theorem th_kd {V : am_V} {T : Nat} {k n : Int} {a : Nat} (h : iv_th V T k a n) : 0 ≤ V a 4 ∧ V a 4 ≤ 4 := m_kd_rng h.2.2.1.2.2.2.2.2
theorem pr_kind {G : am_G} {d : Nat} {sh : Int → Option Nat} {V : am_V} {T : Nat} {p : Int} {f0 : Int → Int} {k : Int} (hI : II V sh T p f0) (h0 : am_in32 k) : am_Calls G (d + 9) 10 [vR 3, vI k] V (am_RF sh) T (pr_int G (d + 9) 99 [vR 86, vI k] p f0) := by
  have hJ := hI.1
  by_cases hk : 0 ≤ k ∧ k < 10
  · rcases hJ.2.2.2.1.2 k hk.1 hk.2 with ⟨e1, e2⟩ | ⟨a, n, e1, e2⟩
    · refine am_enter mt_F_kind ok_F_kind rfl ?_
      refine am_run 400 mt_F_kind ok_F_kind (fun K S hK hS => ?_)
      iterate 30 (all_goals (first
        | (refine And.intro (by omega) ?_)
        | (refine And.intro (fun hb => absurd hb (by omega)) (fun hb => ?_))
        | (refine And.intro (fun hb => ?_) (fun hb => absurd hb (by omega)))
        | (refine And.intro (fun hb => ?_) (fun hb => ?_))
        | (intro hb)
        | (conv => whnf)))
      refine hK (s_F_noPlace h0 (fun r hr => ?_))
      iterate 30 (all_goals (first
        | (refine am_aN e1 ?_)
        | (refine And.intro (by omega) ?_)
        | (refine am_nN ?_)
        | (refine am_nS ?_)
        | (refine am_mN ?_)
        | (refine am_mS ?_)
        | (refine And.intro (fun hb => absurd hb (by omega)) (fun hb => ?_))
        | (refine And.intro (fun hb => ?_) (fun hb => absurd hb (by omega)))
        | (refine And.intro (fun hb => ?_) (fun hb => ?_))
        | (intro hb)
        | (conv => whnf)))
      refine hK (s_F_finding ?_)
      iterate 30 (all_goals (first
        | (refine And.intro (by omega) ?_)
        | (refine And.intro (fun hb => absurd hb (by omega)) (fun hb => ?_))
        | (refine And.intro (fun hb => ?_) (fun hb => absurd hb (by omega)))
        | (refine And.intro (fun hb => ?_) (fun hb => ?_))
        | (intro hb)
        | (conv => whnf)))
      refine pr_i (by omega) (by simp +decide [am_up_ne, am_up_at, reduceIte]; exact hJ.1) ?_
      refine am_enter mt_M_kind ok_M_kind rfl ?_
      refine am_run 400 mt_M_kind ok_M_kind (fun K S hK hS => ?_)
      iterate 30 (all_goals (first
        | (refine And.intro (by omega) ?_)
        | (refine And.intro (fun hb => absurd hb (by omega)) (fun hb => ?_))
        | (refine And.intro (fun hb => ?_) (fun hb => absurd hb (by omega)))
        | (refine And.intro (fun hb => ?_) (fun hb => ?_))
        | (intro hb)
        | (conv => whnf)))
      refine hK (s_M_isPlace h0 (fun r2 hr2 => ?_))
      iterate 30 (all_goals (first
        | (refine And.intro (by omega) ?_)
        | (refine And.intro (by decide) ?_)
        | (refine And.intro (fun hb => absurd hb (by omega)) (fun hb => ?_))
        | (refine And.intro (fun hb => ?_) (fun hb => absurd hb (by omega)))
        | (refine And.intro (fun hb => ?_) (fun hb => ?_))
        | (intro hb)
        | (simp +decide only [am_up_ne, am_up_at, reduceIte])
        | (conv => whnf)))
      refine hK (s_M_found ?_)
      iterate 30 (all_goals (first
        | (refine And.intro (by omega) ?_)
        | (refine And.intro (fun hb => absurd hb (by omega)) (fun hb => ?_))
        | (refine And.intro (fun hb => ?_) (fun hb => absurd hb (by omega)))
        | (refine And.intro (fun hb => ?_) (fun hb => ?_))
        | (intro hb)
        | (conv => whnf)))
      first | exact pr_k (II_find hI (by omega)) | exact pr_k2 (II_find hI (by omega))
    · have ha := e2.1
      have hkd := th_kd e2
      have ek : V 90 k = V a 4 := e2.2.2.2.1
      have a_0 : 107 ≤ a := ha.1
      have a_l := th_lay ha
      have a_b := th_ble ha
      have a_q := th_beq ha
      have a_m := th_lay1 ha
      have a_c := th_ble1 ha
      have a_r := th_beq1 ha
      have a_R : am_RF sh a 2 = some (a + 1) := th_RF ha
      have a_z : Nat.beq (a + 1) 0 = false := rfl
      have a_3 : Nat.ble 3 (a + 1) = true := th_ble3 ha
      have a_i : ∀ r, am_isr 3 (vR a :: r) = true := th_isr ha
      refine am_enter mt_F_kind ok_F_kind rfl ?_
      refine am_run 400 mt_F_kind ok_F_kind (fun K S hK hS => ?_)
      iterate 30 (all_goals (first
        | (refine And.intro (by omega) ?_)
        | (refine And.intro (fun hb => absurd hb (by omega)) (fun hb => ?_))
        | (refine And.intro (fun hb => ?_) (fun hb => absurd hb (by omega)))
        | (refine And.intro (fun hb => ?_) (fun hb => ?_))
        | (intro hb)
        | (conv => whnf)))
      refine hK (s_F_noPlace h0 (fun r hr => ?_))
      iterate 30 (all_goals (first
        | (refine am_aS e1 ?_)
        | (refine And.intro (by omega) ?_)
        | (refine And.intro (by decide) ?_)
        | (refine am_nN ?_)
        | (refine am_nS ?_)
        | (refine am_mN ?_)
        | (refine am_mS ?_)
        | (refine And.intro (fun hb => absurd hb (by omega)) (fun hb => ?_))
        | (refine And.intro (fun hb => ?_) (fun hb => absurd hb (by omega)))
        | (refine And.intro (fun hb => ?_) (fun hb => ?_))
        | (intro hb)
        | (refine am_if_mk (a_i _) ?_)
        | (simp only [a_l, a_b, a_q, a_m, a_c, a_r, a_R, a_z, a_3])
        | (conv => whnf)))
      refine hK (s_F_fine ?_)
      iterate 30 (all_goals (first
        | (refine And.intro (by omega) ?_)
        | (refine And.intro (fun hb => absurd hb (by omega)) (fun hb => ?_))
        | (refine And.intro (fun hb => ?_) (fun hb => absurd hb (by omega)))
        | (refine And.intro (fun hb => ?_) (fun hb => ?_))
        | (intro hb)
        | (conv => whnf)))
      refine pr_i (by omega) (by simp +decide [am_up_ne, am_up_at, reduceIte]; exact hJ.1) ?_
      refine am_enter mt_M_kind ok_M_kind rfl ?_
      refine am_run 400 mt_M_kind ok_M_kind (fun K S hK hS => ?_)
      iterate 30 (all_goals (first
        | (refine And.intro (by omega) ?_)
        | (refine And.intro (fun hb => absurd hb (by omega)) (fun hb => ?_))
        | (refine And.intro (fun hb => ?_) (fun hb => absurd hb (by omega)))
        | (refine And.intro (fun hb => ?_) (fun hb => ?_))
        | (intro hb)
        | (conv => whnf)))
      refine hK (s_M_isPlace h0 (fun r2 hr2 => ?_))
      iterate 30 (all_goals (first
        | (refine And.intro (by omega) ?_)
        | (refine And.intro (by decide) ?_)
        | (refine And.intro (fun hb => absurd hb (by omega)) (fun hb => ?_))
        | (refine And.intro (fun hb => ?_) (fun hb => absurd hb (by omega)))
        | (refine And.intro (fun hb => ?_) (fun hb => ?_))
        | (intro hb)
        | (simp +decide only [am_up_ne, am_up_at, reduceIte, ek])
        | (conv => whnf)))
      first | exact pr_k (II_find2 hI (by omega)) | exact pr_k2 (II_find2 hI (by omega))
  · refine am_enter mt_F_kind ok_F_kind rfl ?_
    refine am_run 400 mt_F_kind ok_F_kind (fun K S hK hS => ?_)
    iterate 30 (all_goals (first
      | (refine And.intro (by omega) ?_)
      | (refine And.intro (fun hb => absurd hb (by omega)) (fun hb => ?_))
      | (refine And.intro (fun hb => ?_) (fun hb => absurd hb (by omega)))
      | (refine And.intro (fun hb => ?_) (fun hb => ?_))
      | (intro hb)
      | (conv => whnf)))
    refine hK (s_F_noPlace h0 (fun r hr => ?_))
    iterate 30 (all_goals (first
      | (refine And.intro (by omega) ?_)
      | (refine And.intro (fun hb => absurd hb (by omega)) (fun hb => ?_))
      | (refine And.intro (fun hb => ?_) (fun hb => absurd hb (by omega)))
      | (refine And.intro (fun hb => ?_) (fun hb => ?_))
      | (intro hb)
      | (conv => whnf)))
    refine pr_i (by omega) hJ.1 ?_
    refine am_enter mt_M_kind ok_M_kind rfl ?_
    refine am_run 400 mt_M_kind ok_M_kind (fun K S hK hS => ?_)
    iterate 30 (all_goals (first
      | (refine And.intro (by omega) ?_)
      | (refine And.intro (fun hb => absurd hb (by omega)) (fun hb => ?_))
      | (refine And.intro (fun hb => ?_) (fun hb => absurd hb (by omega)))
      | (refine And.intro (fun hb => ?_) (fun hb => ?_))
      | (intro hb)
      | (conv => whnf)))
    refine hK (s_M_isPlace h0 (fun r2 hr2 => ?_))
    iterate 30 (all_goals (first
      | (refine And.intro (by omega) ?_)
      | (refine And.intro (fun hb => absurd hb (by omega)) (fun hb => ?_))
      | (refine And.intro (fun hb => ?_) (fun hb => absurd hb (by omega)))
      | (refine And.intro (fun hb => ?_) (fun hb => ?_))
      | (intro hb)
      | (conv => whnf)))
    first | exact pr_k (II_bad hI) | exact pr_k2 (II_bad hI)
theorem pr_is {G : am_G} {d : Nat} {sh : Int → Option Nat} {V : am_V} {T : Nat} {p : Int} {f0 : Int → Int} {k q : Int} (hI : II V sh T p f0) (h0 : am_in32 k) (h1 : am_in32 q) : am_Calls G (d + 9) 11 [vR 3, vI k, vI q] V (am_RF sh) T (pr_int G (d + 9) 100 [vR 86, vI k, vI q] p f0) := by
  have hJ := hI.1
  by_cases hk : (0 ≤ k ∧ k < 10) ∧ 0 ≤ q ∧ q ≤ 4
  · rcases hJ.2.2.2.1.2 k hk.1.1 hk.1.2 with ⟨e1, e2⟩ | ⟨a, n, e1, e2⟩
    · refine am_enter mt_F_is ok_F_is rfl ?_
      refine am_run 400 mt_F_is ok_F_is (fun K S hK hS => ?_)
      iterate 30 (all_goals (first
        | (refine And.intro (by omega) ?_)
        | (refine And.intro (fun hb => absurd hb (by omega)) (fun hb => ?_))
        | (refine And.intro (fun hb => ?_) (fun hb => absurd hb (by omega)))
        | (refine And.intro (fun hb => ?_) (fun hb => ?_))
        | (intro hb)
        | (conv => whnf)))
      refine hK (s_F_noPlace h0 (fun r hr => ?_))
      iterate 40 (all_goals (first
        | (refine am_aN e1 ?_)
        | (refine And.intro (by omega) ?_)
        | (refine am_nN ?_)
        | (refine am_nS ?_)
        | (refine am_mN ?_)
        | (refine am_mS ?_)
        | (refine And.intro (fun hb => absurd hb (by omega)) (fun hb => ?_))
        | (refine And.intro (fun hb => ?_) (fun hb => absurd hb (by omega)))
        | (refine And.intro (fun hb => ?_) (fun hb => ?_))
        | (intro hb)
        | (conv => whnf)))
      refine pr_i (by omega) hJ.1 ?_
      refine am_enter mt_M_is ok_M_is rfl ?_
      refine am_run 400 mt_M_is ok_M_is (fun K S hK hS => ?_)
      iterate 30 (all_goals (first
        | (refine And.intro (by omega) ?_)
        | (refine And.intro (fun hb => absurd hb (by omega)) (fun hb => ?_))
        | (refine And.intro (fun hb => ?_) (fun hb => absurd hb (by omega)))
        | (refine And.intro (fun hb => ?_) (fun hb => ?_))
        | (intro hb)
        | (conv => whnf)))
      refine hK (s_M_isPlace h0 (fun r2 hr2 => ?_))
      iterate 30 (all_goals (first
        | (refine And.intro (by omega) ?_)
        | (refine And.intro (by decide) ?_)
        | (refine And.intro (fun hb => absurd hb (by omega)) (fun hb => ?_))
        | (refine And.intro (fun hb => ?_) (fun hb => absurd hb (by omega)))
        | (refine And.intro (fun hb => ?_) (fun hb => ?_))
        | (intro hb)
        | (simp +decide only [am_up_ne, am_up_at, reduceIte])
        | (conv => whnf)))
      refine hK (s_M_in (by omega) (by omega) (by omega) (fun r3 hr3 => ?_))
      iterate 30 (all_goals (first
        | (refine And.intro (by omega) ?_)
        | (refine And.intro (by decide) ?_)
        | (refine And.intro (fun hb => absurd hb (by omega)) (fun hb => ?_))
        | (refine And.intro (fun hb => ?_) (fun hb => absurd hb (by omega)))
        | (refine And.intro (fun hb => ?_) (fun hb => ?_))
        | (intro hb)
        | (simp +decide only [am_up_ne, am_up_at, reduceIte])
        | (conv => whnf)))
      refine hK (s_M_isOf (by omega) h1 (fun r4 hr4 => ?_))
      iterate 30 (all_goals (first
        | (refine And.intro (by omega) ?_)
        | (refine And.intro (fun hb => absurd hb (by omega)) (fun hb => ?_))
        | (refine And.intro (fun hb => ?_) (fun hb => absurd hb (by omega)))
        | (refine And.intro (fun hb => ?_) (fun hb => ?_))
        | (intro hb)
        | (conv => whnf)))
      first | exact pr_k (II_bad hI) | exact pr_k2 (II_bad hI)
    · have ha := e2.1
      have hkd := th_kd e2
      have ek : V 90 k = V a 4 := e2.2.2.2.1
      have a_0 : 107 ≤ a := ha.1
      have a_l := th_lay ha
      have a_b := th_ble ha
      have a_q := th_beq ha
      have a_m := th_lay1 ha
      have a_c := th_ble1 ha
      have a_r := th_beq1 ha
      have a_R : am_RF sh a 2 = some (a + 1) := th_RF ha
      have a_z : Nat.beq (a + 1) 0 = false := rfl
      have a_3 : Nat.ble 3 (a + 1) = true := th_ble3 ha
      have a_i : ∀ r, am_isr 3 (vR a :: r) = true := th_isr ha
      refine am_enter mt_F_is ok_F_is rfl ?_
      refine am_run 400 mt_F_is ok_F_is (fun K S hK hS => ?_)
      iterate 30 (all_goals (first
        | (refine And.intro (by omega) ?_)
        | (refine And.intro (fun hb => absurd hb (by omega)) (fun hb => ?_))
        | (refine And.intro (fun hb => ?_) (fun hb => absurd hb (by omega)))
        | (refine And.intro (fun hb => ?_) (fun hb => ?_))
        | (intro hb)
        | (conv => whnf)))
      refine hK (s_F_noPlace h0 (fun r hr => ?_))
      iterate 40 (all_goals (first
        | (refine am_aS e1 ?_)
        | (refine And.intro (by omega) ?_)
        | (refine And.intro (by decide) ?_)
        | (refine am_nN ?_)
        | (refine am_nS ?_)
        | (refine am_mN ?_)
        | (refine am_mS ?_)
        | (refine And.intro (fun hb => absurd hb (by omega)) (fun hb => ?_))
        | (refine And.intro (fun hb => ?_) (fun hb => absurd hb (by omega)))
        | (refine And.intro (fun hb => ?_) (fun hb => ?_))
        | (intro hb)
        | (refine am_if_mk (a_i _) ?_)
        | (simp only [a_l, a_b, a_q, a_m, a_c, a_r, a_R, a_z, a_3])
        | (conv => whnf)))
      refine hK (s_T_isOf ha h1 hkd (fun r5 hr5 => ?_))
      iterate 30 (all_goals (first
        | (refine And.intro (by omega) ?_)
        | (refine And.intro (fun hb => absurd hb (by omega)) (fun hb => ?_))
        | (refine And.intro (fun hb => ?_) (fun hb => absurd hb (by omega)))
        | (refine And.intro (fun hb => ?_) (fun hb => ?_))
        | (intro hb)
        | (conv => whnf)))
      all_goals refine pr_i (by omega) hJ.1 ?_
      all_goals refine am_enter mt_M_is ok_M_is rfl ?_
      all_goals refine am_run 400 mt_M_is ok_M_is (fun K S hK hS => ?_)
      iterate 30 (all_goals (first
        | (refine And.intro (by omega) ?_)
        | (refine And.intro (fun hb => absurd hb (by omega)) (fun hb => ?_))
        | (refine And.intro (fun hb => ?_) (fun hb => absurd hb (by omega)))
        | (refine And.intro (fun hb => ?_) (fun hb => ?_))
        | (intro hb)
        | (conv => whnf)))
      all_goals refine hK (s_M_isPlace h0 (fun r2 hr2 => ?_))
      iterate 30 (all_goals (first
        | (refine And.intro (by omega) ?_)
        | (refine And.intro (by decide) ?_)
        | (refine And.intro (fun hb => absurd hb (by omega)) (fun hb => ?_))
        | (refine And.intro (fun hb => ?_) (fun hb => absurd hb (by omega)))
        | (refine And.intro (fun hb => ?_) (fun hb => ?_))
        | (intro hb)
        | (simp +decide only [am_up_ne, am_up_at, reduceIte])
        | (conv => whnf)))
      all_goals refine hK (s_M_in (by omega) (by omega) (by omega) (fun r3 hr3 => ?_))
      iterate 30 (all_goals (first
        | (refine And.intro (by omega) ?_)
        | (refine And.intro (by decide) ?_)
        | (refine And.intro (fun hb => absurd hb (by omega)) (fun hb => ?_))
        | (refine And.intro (fun hb => ?_) (fun hb => absurd hb (by omega)))
        | (refine And.intro (fun hb => ?_) (fun hb => ?_))
        | (intro hb)
        | (simp +decide only [am_up_ne, am_up_at, reduceIte])
        | (conv => whnf)))
      all_goals refine hK (s_M_isOf (by omega) h1 (fun r4 hr4 => ?_))
      iterate 30 (all_goals (first
        | (refine And.intro (by omega) ?_)
        | (refine And.intro (fun hb => absurd hb (by omega)) (fun hb => ?_))
        | (refine And.intro (fun hb => ?_) (fun hb => absurd hb (by omega)))
        | (refine And.intro (fun hb => ?_) (fun hb => ?_))
        | (intro hb)
        | (conv => whnf)))
      · first | exact pr_k (II_bad hI) | exact pr_k2 (II_bad hI)
      · first | exact pr_k (II_bad hI) | exact pr_k2 (II_bad hI)
  · refine am_enter mt_F_is ok_F_is rfl ?_
    refine am_run 400 mt_F_is ok_F_is (fun K S hK hS => ?_)
    iterate 30 (all_goals (first
      | (refine And.intro (by omega) ?_)
      | (refine And.intro (fun hb => absurd hb (by omega)) (fun hb => ?_))
      | (refine And.intro (fun hb => ?_) (fun hb => absurd hb (by omega)))
      | (refine And.intro (fun hb => ?_) (fun hb => ?_))
      | (intro hb)
      | (conv => whnf)))
    refine hK (s_F_noPlace h0 (fun r hr => ?_))
    iterate 30 (all_goals (first
      | (refine And.intro (by omega) ?_)
      | (refine And.intro (fun hb => absurd hb (by omega)) (fun hb => ?_))
      | (refine And.intro (fun hb => ?_) (fun hb => absurd hb (by omega)))
      | (refine And.intro (fun hb => ?_) (fun hb => ?_))
      | (intro hb)
      | (conv => whnf)))
    all_goals refine pr_i (by omega) hJ.1 ?_
    all_goals refine am_enter mt_M_is ok_M_is rfl ?_
    all_goals refine am_run 400 mt_M_is ok_M_is (fun K S hK hS => ?_)
    iterate 30 (all_goals (first
      | (refine And.intro (by omega) ?_)
      | (refine And.intro (fun hb => absurd hb (by omega)) (fun hb => ?_))
      | (refine And.intro (fun hb => ?_) (fun hb => absurd hb (by omega)))
      | (refine And.intro (fun hb => ?_) (fun hb => ?_))
      | (intro hb)
      | (conv => whnf)))
    all_goals refine hK (s_M_isPlace h0 (fun r2 hr2 => ?_))
    iterate 30 (all_goals (first
      | (refine And.intro (by omega) ?_)
      | (refine And.intro (fun hb => absurd hb (by omega)) (fun hb => ?_))
      | (refine And.intro (fun hb => ?_) (fun hb => absurd hb (by omega)))
      | (refine And.intro (fun hb => ?_) (fun hb => ?_))
      | (intro hb)
      | (conv => whnf)))
    all_goals first
      | exact pr_k (II_bad hI)
      | refine hK (s_M_in (by omega) (by omega) (by omega) (fun r3 hr3 => ?_))
    iterate 30 (all_goals (first
      | (refine And.intro (by omega) ?_)
      | (refine And.intro (fun hb => absurd hb (by omega)) (fun hb => ?_))
      | (refine And.intro (fun hb => ?_) (fun hb => absurd hb (by omega)))
      | (refine And.intro (fun hb => ?_) (fun hb => ?_))
      | (intro hb)
      | (conv => whnf)))
    all_goals exact pr_k (II_bad hI)
