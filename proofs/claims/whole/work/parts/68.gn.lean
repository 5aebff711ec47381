/-! genus, same -/
theorem kp_rec0 : ∀ h : Fin 11, ∀ g : Fin 6, 2 ≤ (h : Nat) → (0 ≤ 2 * (2 * ((h : Nat) : Int) - 1) * k_pr (((h : Nat) : Int) - 1) ((g : Nat) : Int) + (if 0 < ((g : Nat) : Int) then (2 * ((h : Nat) : Int) - 1) * (((h : Nat) : Int) - 1) * (2 * ((h : Nat) : Int) - 3) * k_pr (((h : Nat) : Int) - 2) (((g : Nat) : Int) - 1) else 0) ∧ 2 * (2 * ((h : Nat) : Int) - 1) * k_pr (((h : Nat) : Int) - 1) ((g : Nat) : Int) + (if 0 < ((g : Nat) : Int) then (2 * ((h : Nat) : Int) - 1) * (((h : Nat) : Int) - 1) * (2 * ((h : Nat) : Int) - 3) * k_pr (((h : Nat) : Int) - 2) (((g : Nat) : Int) - 1) else 0) ≤ 1000000000000000) ∧ (2 * (2 * ((h : Nat) : Int) - 1) * k_pr (((h : Nat) : Int) - 1) ((g : Nat) : Int) + (if 0 < ((g : Nat) : Int) then (2 * ((h : Nat) : Int) - 1) * (((h : Nat) : Int) - 1) * (2 * ((h : Nat) : Int) - 3) * k_pr (((h : Nat) : Int) - 2) (((g : Nat) : Int) - 1) else 0)) / (((h : Nat) : Int) + 1) = k_pr ((h : Nat) : Int) ((g : Nat) : Int) := by decide +kernel
theorem kp_rec {h g : Int} (h0 : 2 ≤ h) (h1 : h ≤ 10) (g0 : 0 ≤ g) (g1 : g ≤ 5) : (0 ≤ 2 * (2 * h - 1) * k_pr (h - 1) g + (if 0 < g then (2 * h - 1) * (h - 1) * (2 * h - 3) * k_pr (h - 2) (g - 1) else 0) ∧ 2 * (2 * h - 1) * k_pr (h - 1) g + (if 0 < g then (2 * h - 1) * (h - 1) * (2 * h - 3) * k_pr (h - 2) (g - 1) else 0) ≤ 1000000000000000) ∧ (2 * (2 * h - 1) * k_pr (h - 1) g + (if 0 < g then (2 * h - 1) * (h - 1) * (2 * h - 3) * k_pr (h - 2) (g - 1) else 0)) / (h + 1) = k_pr h g := by
  have := kp_rec0 ⟨h.toNat, by omega⟩ ⟨g.toNat, by omega⟩ (by show 2 ≤ h.toNat; omega)
  rw [show (((⟨h.toNat, by omega⟩ : Fin 11) : Nat) : Int) = h from Int.toNat_of_nonneg (by omega), show (((⟨g.toNat, by omega⟩ : Fin 6) : Nat) : Int) = g from Int.toNat_of_nonneg g0] at this
  exact this
theorem kp_small0 : ∀ h : Fin 2, ∀ g : Fin 6, k_pr ((h : Nat) : Int) ((g : Nat) : Int) = if (g : Nat) = 0 then 1 else 0 := by decide +kernel
theorem kp_small {h g : Int} (h0 : 0 ≤ h) (h1 : h ≤ 1) (g0 : 0 ≤ g) (g1 : g ≤ 5) : k_pr h g = if g = 0 then 1 else 0 := by
  have := kp_small0 ⟨h.toNat, by omega⟩ ⟨g.toNat, by omega⟩
  rw [show (((⟨h.toNat, by omega⟩ : Fin 2) : Nat) : Int) = h from Int.toNat_of_nonneg (by omega), show (((⟨g.toNat, by omega⟩ : Fin 6) : Nat) : Int) = g from Int.toNat_of_nonneg g0] at this
  rw [this]
  show (if g.toNat = 0 then (1 : Int) else 0) = _
  by_cases e : g = 0
  · rw [if_pos e, if_pos (by omega)]
  · rw [if_neg e, if_neg (by omega)]
theorem kp_rg0 : ∀ h : Fin 11, ∀ g : Fin 6, 0 ≤ k_pr ((h : Nat) : Int) ((g : Nat) : Int) ∧ k_pr ((h : Nat) : Int) ((g : Nat) : Int) ≤ 1000000000 := by decide +kernel
theorem kp_rg {h g : Int} (h0 : 0 ≤ h) (h1 : h ≤ 10) (g0 : 0 ≤ g) (g1 : g ≤ 5) : 0 ≤ k_pr h g ∧ k_pr h g ≤ 1000000000 := by
  have := kp_rg0 ⟨h.toNat, by omega⟩ ⟨g.toNat, by omega⟩
  rw [show (((⟨h.toNat, by omega⟩ : Fin 11) : Nat) : Int) = h from Int.toNat_of_nonneg (by omega), show (((⟨g.toNat, by omega⟩ : Fin 6) : Nat) : Int) = g from Int.toNat_of_nonneg g0] at this
  exact this
theorem s_M_findPairings {G : am_G} {d : Nat} {sh : Int → Option Nat} {V : am_V} {T : Nat} {Q : Option AV → am_V → am_T → Nat → Prop} (hQ : ∀ V', (∀ a, a ≠ 104 → V' a = V a) → (∀ h g, 0 ≤ h → h ≤ 10 → 0 ≤ g → g ≤ 5 → V' 104 (6 * h + g) = k_pr h g) → Q none V' (am_RF sh) T) : am_Calls G (d + 1) 133 [vR 86] V (am_RF sh) T Q := by
  refine am_enter mt_M_findPairings ok_M_findPairings rfl ?_
  have loop : ∀ (jj : Nat) (h : Int) (x2 x3 : Option AV) (W : am_V), 0 ≤ h → h ≤ 11 → 11 - h < jj → (∀ a, a ≠ 104 → W a = V a) → (∀ h' g, 0 ≤ h' → h' < h → 0 ≤ g → g ≤ 5 → W 104 (6 * h' + g) = k_pr h' g) → am_Sem G d 133 V T Q 2 [some (vR 86), some (vI h), x2, x3, none] [] W (am_RF sh) T 0 0 := by
    intro jj
    induction jj with
    | zero => intro h x2 x3 W a b e; omega
    | succ jj ih =>
      intro h x2 x3 W a b e w1 w2
      by_cases hh : h = 11
      · refine am_run 400 mt_M_findPairings ok_M_findPairings (fun K S hK hS => ?_)
        iterate 30 (all_goals (first
          | (refine And.intro (by omega) ?_)
          | (refine And.intro (fun hb => absurd hb (by omega)) (fun hb => ?_))
          | (refine And.intro (fun hb => ?_) (fun hb => absurd hb (by omega)))
          | (refine And.intro (fun hb => ?_) (fun hb => ?_))
          | (intro hb)
          | (conv => whnf)))
        exact hQ W w1 (fun h' g a1 a2 a3 a4 => w2 h' g a1 (by omega) a3 a4)
      · have inner : ∀ (j2 : Nat) (g : Int) (x3 : Option AV) (U : am_V), 0 ≤ g → g ≤ 6 → 6 - g < j2 → (∀ a, a ≠ 104 → U a = V a) → (∀ h' g', 0 ≤ h' → h' ≤ h → 0 ≤ g' → g' ≤ 5 → (h' < h ∨ g' < g) → U 104 (6 * h' + g') = k_pr h' g') → am_Sem G d 133 V T Q 10 [some (vR 86), some (vI h), some (vI g), x3, none] [] U (am_RF sh) T 0 0 := by
          intro j2
          induction j2 with
          | zero => intro g x3 U a1 a2 a3; omega
          | succ j2 ih2 =>
            intro g x3 U a1 a2 a3 u1 u2
            by_cases hg : g = 6
            · refine am_run 400 mt_M_findPairings ok_M_findPairings (fun K S hK hS => ?_)
              iterate 30 (all_goals (first
                | (refine And.intro (by omega) ?_)
                | (refine And.intro (fun hb => absurd hb (by omega)) (fun hb => ?_))
                | (refine And.intro (fun hb => ?_) (fun hb => absurd hb (by omega)))
                | (refine And.intro (fun hb => ?_) (fun hb => ?_))
                | (intro hb)
                | (conv => whnf)))
              exact hS (ih (h + 1) _ _ U (by omega) (by omega) (by omega) u1 (fun h' g' b1 b2 b3 b4 => u2 h' g' b1 (by omega) b3 b4 (by omega)))
            · have nx : ∀ v, v = k_pr h g → ∀ x3, am_Sem G d 133 V T Q 10 [some (vR 86), some (vI h), some (vI (g + 1)), x3, none] [] (am_up U 104 (6 * h + g) v) (am_RF sh) T 0 0 := fun v hv x3 => by
                refine ih2 (g + 1) x3 _ (by omega) (by omega) (by omega) (fun x hx => by rw [am_up_ne hx, u1 x hx]) (fun h' g' b1 b2 b3 b4 b5 => ?_)
                rw [am_up_at]
                by_cases z : h' = h ∧ g' = g
                · rw [if_pos (by omega), hv, z.1, z.2]
                · rw [if_neg (by omega), u2 h' g' b1 b2 b3 b4 (by omega)]
              by_cases h2 : 2 ≤ h
              · have kr := kp_rec h2 (by omega) a1 (by omega)
                have f1 : U 104 (6 * (h - 1) + g) = k_pr (h - 1) g := u2 (h - 1) g (by omega) (by omega) a1 (by omega) (by omega)
                by_cases g0 : 0 < g
                · have f2 : U 104 (6 * (h - 2) + g - 1) = k_pr (h - 2) (g - 1) := by
                    rw [show 6 * (h - 2) + g - 1 = 6 * (h - 2) + (g - 1) by omega]
                    exact u2 (h - 2) (g - 1) (by omega) (by omega) (by omega) (by omega) (by omega)
                  rw [if_pos g0] at kr
                  obtain ⟨A, hA⟩ : ∃ A, A = k_pr (h - 1) g := ⟨_, rfl⟩
                  obtain ⟨B, hB⟩ : ∃ B, B = k_pr (h - 2) (g - 1) := ⟨_, rfl⟩
                  rw [← hA, ← hB] at kr
                  rw [← hA] at f1
                  rw [← hB] at f2
                  have nx2 := nx _ kr.2
                  have k1 := kr.1
                  clear kr nx hA hB ih ih2 u2 w2
                  have kx : (0 ≤ 2 * (2 * h - 1) * A + (2 * h - 1) * (h - 1) * (2 * h - 3) * B ∧ 2 * (2 * h - 1) * A + (2 * h - 1) * (h - 1) * (2 * h - 3) * B ≤ 9223372036854775807) := ⟨k1.1, by omega⟩
                  clear k1
                  refine am_run 400 mt_M_findPairings ok_M_findPairings (fun K S hK hS => ?_)
                  iterate 60 (all_goals (first
                    | (simp only [am_st2, am_st1, am_set, am_cut, am_get])
                    | (refine And.intro (by omega) ?_)
                    | (refine And.intro (by decide) ?_)
                    | (refine And.intro (⟨by with_reducible assumption, by omega⟩) ?_)
                    | (refine And.intro (fun hb => absurd hb (by omega)) (fun hb => ?_))
                    | (refine And.intro (fun hb => ?_) (fun hb => absurd hb (by omega)))
                    | (refine And.intro (fun hb => ?_) (fun hb => ?_))
                    | (intro hb)
                    | (simp only [f1, f2])
                    | (conv => whnf)))
                  exact hS (nx2 _)
                · rw [if_neg g0, Int.add_zero] at kr
                  obtain ⟨A, hA⟩ : ∃ A, A = k_pr (h - 1) g := ⟨_, rfl⟩
                  rw [← hA] at kr f1
                  have nx2 := nx _ kr.2
                  have k1 := kr.1
                  clear kr nx hA ih ih2 u2 w2
                  rw [← Int.add_zero (2 * (2 * h - 1) * A)] at nx2 k1
                  have kx : (0 ≤ 2 * (2 * h - 1) * A + 0 ∧ 2 * (2 * h - 1) * A + 0 ≤ 9223372036854775807) := ⟨k1.1, by omega⟩
                  clear k1
                  refine am_run 400 mt_M_findPairings ok_M_findPairings (fun K S hK hS => ?_)
                  iterate 60 (all_goals (first
                    | (simp only [am_st2, am_st1, am_set, am_cut, am_get])
                    | (refine And.intro (by omega) ?_)
                    | (refine And.intro (by decide) ?_)
                    | (refine And.intro (⟨by with_reducible assumption, by omega⟩) ?_)
                    | (refine And.intro (fun hb => absurd hb (by omega)) (fun hb => ?_))
                    | (refine And.intro (fun hb => ?_) (fun hb => absurd hb (by omega)))
                    | (refine And.intro (fun hb => ?_) (fun hb => ?_))
                    | (intro hb)
                    | (simp only [f1])
                    | (conv => whnf)))
                  exact hS (nx2 _)
              · have ks := kp_small (h := h) (g := g) a (by omega) a1 (by omega)
                refine am_run 400 mt_M_findPairings ok_M_findPairings (fun K S hK hS => ?_)
                iterate 60 (all_goals (first
                  | (simp only [am_st2, am_st1, am_set, am_cut, am_get])
                  | (refine And.intro (by omega) ?_)
                  | (refine And.intro (fun hb => absurd hb (by omega)) (fun hb => ?_))
                  | (refine And.intro (fun hb => ?_) (fun hb => absurd hb (by omega)))
                  | (refine And.intro (fun hb => ?_) (fun hb => ?_))
                  | (intro hb)
                  | (conv => whnf)))
                all_goals first
                  | exact hS (nx 1 (by rw [ks, if_pos (by omega)]) _)
                  | exact hS (nx 0 (by rw [ks, if_neg (by omega)]) _)
        refine am_run 400 mt_M_findPairings ok_M_findPairings (fun K S hK hS => ?_)
        iterate 30 (all_goals (first
          | (refine And.intro (by omega) ?_)
          | (refine And.intro (fun hb => absurd hb (by omega)) (fun hb => ?_))
          | (refine And.intro (fun hb => ?_) (fun hb => absurd hb (by omega)))
          | (refine And.intro (fun hb => ?_) (fun hb => ?_))
          | (intro hb)
          | (conv => whnf)))
        exact hS (inner 7 0 _ W (by omega) (by omega) (by omega) w1 (fun h' g' b1 b2 b3 b4 b5 => w2 h' g' b1 (by omega) b3 b4))
  refine am_run 400 mt_M_findPairings ok_M_findPairings (fun K S hK hS => ?_)
  iterate 30 (all_goals (first
    | (refine And.intro (by omega) ?_)
    | (refine And.intro (fun hb => absurd hb (by omega)) (fun hb => ?_))
    | (refine And.intro (fun hb => ?_) (fun hb => absurd hb (by omega)))
    | (refine And.intro (fun hb => ?_) (fun hb => ?_))
    | (intro hb)
    | (conv => whnf)))
  exact hS (loop 12 0 _ _ V (by omega) (by omega) (by omega) (fun _ _ => rfl) (fun h' g a b => absurd b (by omega)))
theorem pr_genus {G : am_G} {d : Nat} {sh : Int → Option Nat} {V : am_V} {T : Nat} {p : Int} {f0 : Int → Int} {h g : Int} (hI : II V sh T p f0) (h0 : am_in32 h) (h1 : am_in32 g) : am_Calls G (d + 9) 25 [vR 3, vI h, vI g] V (am_RF sh) T (pr_long G (d + 9) 134 [vR 86, vI h, vI g] p f0) := by
  have hJ := hI.1
  have hq := hJ.2.2.2.2.2.2.2.2
  have fin : ∀ (W : am_V), (∀ a, a ≠ 104 → W a = am_up V 86 0 0 a) → II W sh T p f0 := fun W w1 => II_rd (II_bad hI) (fun a q => w1 a (by omega)) (fun j q => by rw [w1 3 (by decide)]) (fun j q1 q2 => by rw [w1 86 (by decide)]) (w1 65 (by decide)) (w1 76 (by decide)) (by rw [w1 86 (by decide), w1 3 (by decide)]; exact (II_bad hI).2)
  refine am_enter mt_F_genus ok_F_genus rfl ?_
  refine am_run 400 mt_F_genus ok_F_genus (fun K S hK hS => ?_)
  iterate 30 (all_goals (first
    | (refine And.intro (by omega) ?_)
    | (refine And.intro (fun hb => absurd hb (by omega)) (fun hb => ?_))
    | (refine And.intro (fun hb => ?_) (fun hb => absurd hb (by omega)))
    | (refine And.intro (fun hb => ?_) (fun hb => ?_))
    | (intro hb)
    | (conv => whnf)))
  refine hK (s_F_noPairs h0 (fun r hr => ?_))
  by_cases hc : (1 ≤ h ∧ h ≤ 10) ∧ 0 ≤ g
  · by_cases hg : g ≤ 5
    · have e50 := hq h g (by omega) (by omega) (by omega) hg
      have rg := kp_rg (h := h) (g := g) (by omega) (by omega) (by omega) hg
      iterate 30 (all_goals (first
        | (refine And.intro (by omega) ?_)
        | (refine And.intro (by decide) ?_)
        | (refine And.intro (fun hb => absurd hb (by omega)) (fun hb => ?_))
        | (refine And.intro (fun hb => ?_) (fun hb => absurd hb (by omega)))
        | (refine And.intro (fun hb => ?_) (fun hb => ?_))
        | (intro hb)
        | (simp only [e50])
        | (conv => whnf)))
      refine pr_j (by constructor <;> omega) hJ.1 ?_
      refine am_enter mt_M_genus ok_M_genus rfl ?_
      refine am_run 400 mt_M_genus ok_M_genus (fun K S hK hS => ?_)
      iterate 30 (all_goals (first
        | (refine And.intro (by omega) ?_)
        | (refine And.intro (fun hb => absurd hb (by omega)) (fun hb => ?_))
        | (refine And.intro (fun hb => ?_) (fun hb => absurd hb (by omega)))
        | (refine And.intro (fun hb => ?_) (fun hb => ?_))
        | (intro hb)
        | (conv => whnf)))
      refine hK (s_M_in (by omega) (by omega) (by omega) (fun r2 hr2 => ?_))
      iterate 30 (all_goals (first
        | (refine And.intro (by omega) ?_)
        | (refine And.intro (fun hb => absurd hb (by omega)) (fun hb => ?_))
        | (refine And.intro (fun hb => ?_) (fun hb => absurd hb (by omega)))
        | (refine And.intro (fun hb => ?_) (fun hb => ?_))
        | (intro hb)
        | (conv => whnf)))
      refine hK (s_M_findPairings (fun W w1 w2 => ?_))
      have e := w2 h g (by omega) (by omega) (by omega) hg
      iterate 30 (all_goals (first
        | (refine And.intro (by omega) ?_)
        | (refine And.intro (by decide) ?_)
        | (refine And.intro (fun hb => absurd hb (by omega)) (fun hb => ?_))
        | (refine And.intro (fun hb => ?_) (fun hb => absurd hb (by omega)))
        | (refine And.intro (fun hb => ?_) (fun hb => ?_))
        | (intro hb)
        | (simp only [e])
        | (conv => whnf)))
      first | exact pr_k (fin W w1) | exact pr_k2 (fin W w1)
    · iterate 30 (all_goals (first
        | (refine And.intro (by omega) ?_)
        | (refine And.intro (fun hb => absurd hb (by omega)) (fun hb => ?_))
        | (refine And.intro (fun hb => ?_) (fun hb => absurd hb (by omega)))
        | (refine And.intro (fun hb => ?_) (fun hb => ?_))
        | (intro hb)
        | (conv => whnf)))
      refine pr_j (by omega) hJ.1 ?_
      refine am_enter mt_M_genus ok_M_genus rfl ?_
      refine am_run 400 mt_M_genus ok_M_genus (fun K S hK hS => ?_)
      iterate 30 (all_goals (first
        | (refine And.intro (by omega) ?_)
        | (refine And.intro (fun hb => absurd hb (by omega)) (fun hb => ?_))
        | (refine And.intro (fun hb => ?_) (fun hb => absurd hb (by omega)))
        | (refine And.intro (fun hb => ?_) (fun hb => ?_))
        | (intro hb)
        | (conv => whnf)))
      refine hK (s_M_in (by omega) (by omega) (by omega) (fun r2 hr2 => ?_))
      iterate 30 (all_goals (first
        | (refine And.intro (by omega) ?_)
        | (refine And.intro (fun hb => absurd hb (by omega)) (fun hb => ?_))
        | (refine And.intro (fun hb => ?_) (fun hb => absurd hb (by omega)))
        | (refine And.intro (fun hb => ?_) (fun hb => ?_))
        | (intro hb)
        | (conv => whnf)))
      refine hK (s_M_findPairings (fun W w1 w2 => ?_))
      iterate 30 (all_goals (first
        | (refine And.intro (by omega) ?_)
        | (refine And.intro (fun hb => absurd hb (by omega)) (fun hb => ?_))
        | (refine And.intro (fun hb => ?_) (fun hb => absurd hb (by omega)))
        | (refine And.intro (fun hb => ?_) (fun hb => ?_))
        | (intro hb)
        | (conv => whnf)))
      first | exact pr_k (fin W w1) | exact pr_k2 (fin W w1)
  · iterate 30 (all_goals (first
      | (refine And.intro (by omega) ?_)
      | (refine And.intro (fun hb => absurd hb (by omega)) (fun hb => ?_))
      | (refine And.intro (fun hb => ?_) (fun hb => absurd hb (by omega)))
      | (refine And.intro (fun hb => ?_) (fun hb => ?_))
      | (intro hb)
      | (conv => whnf)))
    all_goals refine pr_j (by omega) hJ.1 ?_
    all_goals refine am_enter mt_M_genus ok_M_genus rfl ?_
    all_goals refine am_run 400 mt_M_genus ok_M_genus (fun K S hK hS => ?_)
    iterate 30 (all_goals (first
      | (refine And.intro (by omega) ?_)
      | (refine And.intro (fun hb => absurd hb (by omega)) (fun hb => ?_))
      | (refine And.intro (fun hb => ?_) (fun hb => absurd hb (by omega)))
      | (refine And.intro (fun hb => ?_) (fun hb => ?_))
      | (intro hb)
      | (conv => whnf)))
    all_goals refine hK (s_M_in (by omega) (by omega) (by omega) (fun r2 hr2 => ?_))
    iterate 30 (all_goals (first
      | (refine And.intro (by omega) ?_)
      | (refine And.intro (fun hb => absurd hb (by omega)) (fun hb => ?_))
      | (refine And.intro (fun hb => ?_) (fun hb => absurd hb (by omega)))
      | (refine And.intro (fun hb => ?_) (fun hb => ?_))
      | (intro hb)
      | (conv => whnf)))
    all_goals exact pr_k (II_bad hI)
