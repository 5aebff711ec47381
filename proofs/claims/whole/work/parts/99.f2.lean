/-! the pairings counted, the class -/
theorem kp_hi0 : ∀ h : Fin 11, ∀ g : Fin 6, (h : Nat) / 2 < (g : Nat) → k_pr ((h : Nat) : Int) ((g : Nat) : Int) = 0 := by decide +kernel
theorem kp_hi {h g : Int} (h0 : 0 ≤ h) (h1 : h ≤ 10) (g0 : 0 ≤ g) (g1 : g ≤ 5) (e : h / 2 < g) : k_pr h g = 0 := by
  have := kp_hi0 ⟨h.toNat, by omega⟩ ⟨g.toNat, by omega⟩ (by show h.toNat / 2 < g.toNat; omega)
  rw [show (((⟨h.toNat, by omega⟩ : Fin 11) : Nat) : Int) = h from Int.toNat_of_nonneg (by omega), show (((⟨g.toNat, by omega⟩ : Fin 6) : Nat) : Int) = g from Int.toNat_of_nonneg g0] at this
  exact this
theorem s_F_countPairings {G : am_G} {d : Nat} {V : am_V} {R : am_T} {T : Nat} {Q : Option AV → am_V → am_T → Nat → Prop} (hz : ∀ j, V 50 j = 0) (hQ : ∀ V', (∀ a, a ≠ 50 → V' a = V a) → (∀ h g, 0 ≤ h → h ≤ 10 → 0 ≤ g → g ≤ 5 → V' 50 (64 * h + g) = k_pr h g) → Q none V' R T) : am_Calls G (d + 1) 65 [vR 50] V R T Q := by
  refine am_enter mt_F_countPairings ok_F_countPairings rfl ?_
  have loop : ∀ (jj : Nat) (h : Int) (x2 x3 x5 : Option AV) (W : am_V), 1 ≤ h → h ≤ 11 → 11 - h < jj → (∀ a, a ≠ 50 → W a = V a) → (∀ h' g, 0 ≤ h' → h' ≤ 10 → 0 ≤ g → g ≤ 5 → W 50 (64 * h' + g) = if h' < h then k_pr h' g else 0) → am_Sem G d 65 V T Q 8 [some (vR 50), some (vI h), x2, x3, none, x5, none] [] W R T 0 0 := by
    intro jj
    induction jj with
    | zero => intro h x2 x3 x5 W a b e; omega
    | succ jj ih =>
      intro h x2 x3 x5 W a b e w1 w2
      by_cases hh : h = 11
      · have q := hQ W w1 (fun h' g a1 a2 a3 a4 => by rw [w2 h' g a1 a2 a3 a4, if_pos (by omega)])
        clear hQ ih w2
        refine am_run 400 mt_F_countPairings ok_F_countPairings (fun K S hK hS => ?_)
        iterate 30 (all_goals (first
          | (refine And.intro (by omega) ?_)
          | (refine And.intro (fun hb => absurd hb (by omega)) (fun hb => ?_))
          | (refine And.intro (fun hb => ?_) (fun hb => absurd hb (by omega)))
          | (refine And.intro (fun hb => ?_) (fun hb => ?_))
          | (intro hb)
          | (conv => whnf)))
        exact q
      · have inner : ∀ (j2 : Nat) (g : Int) (x3 x5 : Option AV) (U : am_V), 0 ≤ g → g ≤ h / 2 + 1 → h / 2 + 1 - g < j2 → (∀ a, a ≠ 50 → U a = V a) → (∀ h' g', 0 ≤ h' → h' ≤ 10 → 0 ≤ g' → g' ≤ 5 → U 50 (64 * h' + g') = if h' < h ∨ (h' = h ∧ g' < g) then k_pr h' g' else 0) → am_Sem G d 65 V T Q 16 [some (vR 50), some (vI h), some (vI g), x3, none, x5, none] [] U R T 0 0 := by
          intro j2
          induction j2 with
          | zero => intro g x3 x5 U a1 a2 a3; omega
          | succ j2 ih2 =>
            intro g x3 x5 U a1 a2 a3 u1 u2
            by_cases hg : g = h / 2 + 1
            · have nx := fun x2 x3 x5 => ih (h + 1) x2 x3 x5 U (by omega) (by omega) (by omega) u1 (fun h' g' b1 b2 b3 b4 => by
                rw [u2 h' g' b1 b2 b3 b4]
                by_cases z : h' < h ∨ (h' = h ∧ g' < g)
                · rw [if_pos z, if_pos (by omega)]
                · rw [if_neg z]
                  by_cases z2 : h' < h + 1
                  · rw [if_pos z2, kp_hi b1 b2 b3 b4 (by omega)]
                  · rw [if_neg z2])
              clear hQ ih ih2 u2 w2
              refine am_run 400 mt_F_countPairings ok_F_countPairings (fun K S hK hS => ?_)
              iterate 30 (all_goals (first
                | (refine And.intro (by omega) ?_)
                | (refine And.intro (fun hb => absurd hb (by omega)) (fun hb => ?_))
                | (refine And.intro (fun hb => ?_) (fun hb => absurd hb (by omega)))
                | (refine And.intro (fun hb => ?_) (fun hb => ?_))
                | (intro hb)
                | (conv => whnf)))
              exact hS (nx _ _ _)
            · have nx : ∀ v, v = k_pr h g → ∀ x3 x5, am_Sem G d 65 V T Q 16 [some (vR 50), some (vI h), some (vI (g + 1)), x3, none, x5, none] [] (am_up U 50 (64 * h + g) v) R T 0 0 := fun v hv x3 x5 => by
                refine ih2 (g + 1) x3 x5 _ (by omega) (by omega) (by omega) (fun x hx => by rw [am_up_ne hx, u1 x hx]) (fun h' g' b1 b2 b3 b4 => ?_)
                rw [am_up_at]
                by_cases z : h' = h ∧ g' = g
                · rw [if_pos (by omega), if_pos (by omega), hv, z.1, z.2]
                · rw [if_neg (by omega), u2 h' g' b1 b2 b3 b4]
                  by_cases z2 : h' < h ∨ (h' = h ∧ g' < g)
                  · rw [if_pos z2, if_pos (by omega)]
                  · rw [if_neg z2, if_neg (by omega)]
              have f1 : U 50 (64 * (h - 1) + g) = k_pr (h - 1) g := by rw [u2 (h - 1) g (by omega) (by omega) a1 (by omega), if_pos (by omega)]
              by_cases h2 : 2 ≤ h
              · have kr := kp_rec h2 (by omega) a1 (by omega)
                by_cases g0 : 0 < g
                · have f2 : U 50 (64 * (h - 2) + (g - 1)) = k_pr (h - 2) (g - 1) := by rw [u2 (h - 2) (g - 1) (by omega) (by omega) (by omega) (by omega), if_pos (by omega)]
                  rw [if_pos g0] at kr
                  obtain ⟨A, hA⟩ : ∃ A, A = k_pr (h - 1) g := ⟨_, rfl⟩
                  obtain ⟨B, hB⟩ : ∃ B, B = k_pr (h - 2) (g - 1) := ⟨_, rfl⟩
                  rw [← hA, ← hB] at kr
                  rw [← hA] at f1
                  rw [← hB] at f2
                  have nx2 := nx _ kr.2
                  have k1 := kr.1
                  clear kr nx hA hB ih ih2 u2 w2 hQ
                  have kx : (0 ≤ 2 * (2 * h - 1) * A + (2 * h - 1) * (h - 1) * (2 * h - 3) * B ∧ 2 * (2 * h - 1) * A + (2 * h - 1) * (h - 1) * (2 * h - 3) * B ≤ 9223372036854775807) := ⟨k1.1, by omega⟩
                  clear k1
                  refine am_run 400 mt_F_countPairings ok_F_countPairings (fun K S hK hS => ?_)
                  iterate 60 (all_goals (first
                    | (simp only [am_st2, am_st1, am_set, am_cut, am_get])
                    | (refine And.intro (by omega) ?_)
                    | (refine And.intro (by decide) ?_)
                    | (refine And.intro (⟨by with_reducible assumption, by omega⟩) ?_)
                    | (refine And.intro (fun hb => absurd hb (by omega)) (fun hb => ?_))
                    | (refine And.intro (fun hb => ?_) (fun hb => absurd hb (by omega)))
                    | (refine And.intro (fun hb => ?_) (fun hb => ?_))
                    | (intro hb)
                    | (simp only [f1, f2])
                    | (conv => whnf)))
                  exact hS (nx2 _ _)
                · rw [if_neg g0, Int.add_zero] at kr
                  obtain ⟨A, hA⟩ : ∃ A, A = k_pr (h - 1) g := ⟨_, rfl⟩
                  rw [← hA] at kr f1
                  have nx2 := nx _ kr.2
                  have k1 := kr.1
                  clear kr nx hA ih ih2 u2 w2 hQ
                  rw [← Int.add_zero (2 * (2 * h - 1) * A)] at nx2 k1
                  have kx : (0 ≤ 2 * (2 * h - 1) * A + 0 ∧ 2 * (2 * h - 1) * A + 0 ≤ 9223372036854775807) := ⟨k1.1, by omega⟩
                  clear k1
                  refine am_run 400 mt_F_countPairings ok_F_countPairings (fun K S hK hS => ?_)
                  iterate 60 (all_goals (first
                    | (simp only [am_st2, am_st1, am_set, am_cut, am_get])
                    | (refine And.intro (by omega) ?_)
                    | (refine And.intro (by decide) ?_)
                    | (refine And.intro (⟨by with_reducible assumption, by omega⟩) ?_)
                    | (refine And.intro (fun hb => absurd hb (by omega)) (fun hb => ?_))
                    | (refine And.intro (fun hb => ?_) (fun hb => absurd hb (by omega)))
                    | (refine And.intro (fun hb => ?_) (fun hb => ?_))
                    | (intro hb)
                    | (simp only [f1])
                    | (conv => whnf)))
                  exact hS (nx2 _ _)
              · have h1 : h = 1 := by omega
                have g1 : g = 0 := by omega
                subst h1
                subst g1
                have f1 : U 50 (64 * (1 - 1) + 0) = 1 := by rw [f1]; decide
                have nx2 := nx ((2 * (2 * 1 - 1) * 1 + 0) / (1 + 1)) (by decide)
                clear nx ih ih2 u2 w2 hQ
                refine am_run 400 mt_F_countPairings ok_F_countPairings (fun K S hK hS => ?_)
                iterate 60 (all_goals (first
                  | (simp only [am_st2, am_st1, am_set, am_cut, am_get])
                  | (refine And.intro (by omega) ?_)
                  | (refine And.intro (by decide) ?_)
                  | (refine And.intro (fun hb => absurd hb (by omega)) (fun hb => ?_))
                  | (refine And.intro (fun hb => ?_) (fun hb => absurd hb (by omega)))
                  | (refine And.intro (fun hb => ?_) (fun hb => ?_))
                  | (intro hb)
                  | (simp only [f1])
                  | (conv => whnf)))
                exact hS (nx2 _ _)
        have nx := fun x3 x5 => inner 8 0 x3 x5 W (by omega) (by omega) (by omega) w1 (fun h' g' b1 b2 b3 b4 => by
          rw [w2 h' g' b1 b2 b3 b4]
          by_cases z : h' < h
          · rw [if_pos z, if_pos (by omega)]
          · rw [if_neg z, if_neg (by omega)])
        clear inner ih hQ w2
        refine am_run 400 mt_F_countPairings ok_F_countPairings (fun K S hK hS => ?_)
        iterate 30 (all_goals (first
          | (refine And.intro (by omega) ?_)
          | (refine And.intro (fun hb => absurd hb (by omega)) (fun hb => ?_))
          | (refine And.intro (fun hb => ?_) (fun hb => absurd hb (by omega)))
          | (refine And.intro (fun hb => ?_) (fun hb => ?_))
          | (intro hb)
          | (conv => whnf)))
        exact hS (nx _ _)
  have nx := fun x2 x3 x5 => loop 11 1 x2 x3 x5 (am_up V 50 (64 * 0 + 0) 1) (by omega) (by omega) (by omega) (fun a z => by rw [am_up_ne z]) (fun h' g' b1 b2 b3 b4 => by
    rw [am_up_at, hz]
    by_cases z : h' < 1
    · rw [if_pos z, kp_small b1 (by omega) b3 b4, show h' = 0 by omega]
      by_cases z2 : g' = 0
      · rw [if_pos (by omega), if_pos z2]
      · rw [if_neg (by omega), if_neg z2]
    · rw [if_neg z, if_neg (by omega)])
  clear loop hQ
  refine am_run 400 mt_F_countPairings ok_F_countPairings (fun K S hK hS => ?_)
  iterate 30 (all_goals (first
    | (simp only [am_st2, am_st1, am_set, am_cut, am_get])
    | (refine And.intro (by omega) ?_)
    | (refine And.intro (fun hb => absurd hb (by omega)) (fun hb => ?_))
    | (refine And.intro (fun hb => ?_) (fun hb => absurd hb (by omega)))
    | (refine And.intro (fun hb => ?_) (fun hb => ?_))
    | (intro hb)
    | (conv => whnf)))
  exact hS (nx _ _ _)
