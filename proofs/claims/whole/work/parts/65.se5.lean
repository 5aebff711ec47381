/-! series: number, series -/
theorem IJ_se {V V' : am_V} {sh : Int → Option Nat} {T : Nat} {p : Int} {f0 : Int → Int} (h : IJ V sh T p f0) (F : ∀ a, ns a → a ≠ 32 → a ≠ 41 → a ≠ 98 → a ≠ 99 → V' a = V a) (F3 : ∀ j, j ≠ 17 → V' 3 j = V 3 j) (F86 : ∀ j, j ≠ 0 → j ≠ 1 → V' 86 j = V 86 j) (F65 : ∀ j, 0 ≤ j → j ≤ 8 → V' 65 j = V 65 j ∧ V' 76 j = V 76 j) (k : iv_se V' p) : IJ V' sh T p f0 := by
  obtain ⟨h0, h1, h2, h3, h4, h5, h7, h8, h9⟩ := h
  have F := fun a (q : ns a) (q1 : a ≠ 32 ∧ a ≠ 41 ∧ a ≠ 98 ∧ a ≠ 99) => F a q q1.1 q1.2.1 q1.2.2.1 q1.2.2.2
  refine ⟨by rw [F 0 (by decide) (by decide)]; exact h0, iv_sh_eq h1 (F 13 (by decide) (by decide)) (F 14 (by decide) (by decide)) (F 87 (by decide) (by decide)) (F 88 (by decide) (by decide)), iv_it_eq h2 (F 4 (by decide) (by decide)) (F 89 (by decide) (by decide)), iv_tg_eq h3 (F 90 (by decide) (by decide)) (F 91 (by decide) (by decide)) (F 92 (by decide) (by decide)) (fun a q q2 => F a (by omega) (by omega)) (Nat.le_refl _) h3.1, iv_tr_eq h4 (F3 8 (by decide)) (F86 12 (by decide) (by decide)) (F 31 (by decide) (by decide)) (F 95 (by decide) (by decide)), k, iv_p_eq h7 (F3 0 (by decide)) (F86 2 (by decide) (by decide)) (F 63 (by decide) (by decide)) (F 64 (by decide) (by decide)) (F 75 (by decide) (by decide)), iv_k_eq h8 (F 1 (by decide) (by decide)) (F 2 (by decide) (by decide)) (F 96 (by decide) (by decide)) (F 17 (by decide) (by decide)) F65, iv_q_eq h9 (F 50 (by decide) (by decide))⟩
theorem iv_se_rg {V : am_V} {p s : Int} (hp : 1 < p) (h : iv_se V p) (h0 : 0 ≤ s) (h1 : s < 8) : sr_rg p (sr_m V s) 8 := by
  refine ⟨by unfold sr_m; rw [if_pos rfl], fun k a b => ?_⟩
  unfold sr_m
  rw [if_neg (by omega)]
  exact ((h s h0 h1).2.2.2 k a b).1
theorem iv_se_eqm {V : am_V} {p s : Int} (h : iv_se V p) (h0 : 0 ≤ s) (h1 : s < 8) : ∀ k, 0 ≤ k → k ≤ V 41 s → V 32 (64 * s + k) = sr_m V s k := by
  intro k a b
  obtain ⟨q1, q2, q3, q4⟩ := h s h0 h1
  unfold sr_m
  by_cases e : k = 0
  · rw [if_pos e, e, Int.add_zero]; exact q3
  · rw [if_neg e]
    exact (q4 k (by omega) (by omega)).2 b
theorem iv_se_rgc {V : am_V} {p s : Int} (hp : 1 < p) (h : iv_se V p) (h0 : 0 ≤ s) (h1 : s < 8) : sr_rg p (fun j => V 32 (64 * s + j)) (V 41 s) := by
  have e := iv_se_eqm h h0 h1
  have r := iv_se_rg hp h h0 h1
  have q := (h s h0 h1).1
  refine ⟨by show V 32 (64 * s + 0) = 1; rw [e 0 (by omega) (by omega)]; exact r.1, fun k a b => ?_⟩
  show 0 ≤ V 32 (64 * s + k) ∧ V 32 (64 * s + k) < p
  rw [e k (by omega) b]
  exact r.2 k a (by omega)
theorem s_M_number {G : am_G} {d : Nat} {sh : Int → Option Nat} {V : am_V} {T : Nat} {Q : Option AV → am_V → am_T → Nat → Prop} {s sort k p : Int} (h0 : am_in32 s) (h1 : am_in32 sort) (h2 : am_in32 k) (hp : 1 < p ∧ p ≤ 2000000000) (e0 : V 86 2 = p) (hz : ∀ s, 0 ≤ s → s < 8 → 1 ≤ V 98 s ∧ V 98 s ≤ 8) (hm : ∀ s, 0 ≤ s → s < 8 → sr_rg p (sr_m V s) 8)
    (hB : ¬ ((0 ≤ s ∧ s < 8) ∧ (sort = -1000000 ∨ (0 ≤ sort ∧ sort ≤ 2)) ∧ 1 ≤ k ∧ k ≤ V 98 s) → Q (some (vJ (-1000001))) (am_up V 86 0 0) (am_RF sh) T)
    (hN : (0 ≤ s ∧ s < 8) → sort = -1000000 → (1 ≤ k ∧ k ≤ V 98 s) → Q (some (vJ (sr_m V s k))) (am_up V 86 0 0) (am_RF sh) T)
    (hQ : (0 ≤ s ∧ s < 8) → (0 ≤ sort ∧ sort ≤ 2) → (1 ≤ k ∧ k ≤ V 98 s) → ∀ V' (c : Int → Int), (∀ a, a ≠ 100 → a ≠ 102 → V' a = am_up V 86 0 0 a) → (∀ i, 1 ≤ i → i ≤ k → c i = (sr_m V s i + p - sr_ls p (sr_m V s) c sort i (i - 1).toNat) % p) → Q (some (vJ (c k))) V' (am_RF sh) T) : am_Calls G (d + 6) 126 [vR 86, vI s, vI sort, vI k] V (am_RF sh) T Q := by
  have e98 : ∀ s, am_up V 86 0 0 98 s = V 98 s := fun s => by rw [am_up_ne (by decide)]
  have e86 : am_up V 86 0 0 86 2 = p := by simp +decide [am_up_ne, am_up_at, reduceIte]; exact e0
  have em : ∀ s, sr_m (am_up V 86 0 0) s = sr_m V s := fun s => by unfold sr_m; rw [am_up_ne (by decide)]
  refine am_enter mt_M_number ok_M_number rfl ?_
  refine am_run 400 mt_M_number ok_M_number (fun K S hK hS => ?_)
  iterate 30 (all_goals (first
    | (refine And.intro (by omega) ?_)
    | (refine And.intro (fun hb => absurd hb (by omega)) (fun hb => ?_))
    | (refine And.intro (fun hb => ?_) (fun hb => absurd hb (by omega)))
    | (refine And.intro (fun hb => ?_) (fun hb => ?_))
    | (intro hb)
    | (conv => whnf)))
  refine hK (s_M_isSeries h0 (fun r hr => ?_))
  by_cases hs : 0 ≤ s ∧ s < 8
  · have z := hz s hs.1 hs.2
    iterate 30 (all_goals (first
      | (refine And.intro (by omega) ?_)
      | (refine And.intro (by decide) ?_)
      | (refine And.intro (fun hb => absurd hb (by omega)) (fun hb => ?_))
      | (refine And.intro (fun hb => ?_) (fun hb => absurd hb (by omega)))
      | (refine And.intro (fun hb => ?_) (fun hb => ?_))
      | (intro hb)
      | (simp only [e98])
      | (conv => whnf)))
    · refine hK (s_M_in (by omega) (by omega) (by omega) (fun r3 hr3 => ?_))
      by_cases hk : 1 ≤ k ∧ k ≤ V 98 s
      · have en : am_up V 86 0 0 99 (9 * s + k) = sr_m V s k := by rw [am_up_ne (by decide)]; unfold sr_m; rw [if_neg (by omega)]
        iterate 30 (all_goals (first
          | (refine And.intro (by omega) ?_)
          | (refine And.intro (by decide) ?_)
          | (refine And.intro (fun hb => absurd hb (by omega)) (fun hb => ?_))
          | (refine And.intro (fun hb => ?_) (fun hb => absurd hb (by omega)))
          | (refine And.intro (fun hb => ?_) (fun hb => ?_))
          | (intro hb)
          | (simp only [en])
          | (conv => whnf)))
        exact hN hs (by assumption) hk
      · iterate 30 (all_goals (first
          | (refine And.intro (by omega) ?_)
          | (refine And.intro (fun hb => absurd hb (by omega)) (fun hb => ?_))
          | (refine And.intro (fun hb => ?_) (fun hb => absurd hb (by omega)))
          | (refine And.intro (fun hb => ?_) (fun hb => ?_))
          | (intro hb)
          | (conv => whnf)))
        exact hB (by omega)
    · refine hK (s_M_in (by omega) (by omega) (by omega) (fun r2 hr2 => ?_))
      iterate 30 (all_goals (first
        | (refine And.intro (by omega) ?_)
        | (refine And.intro (by decide) ?_)
        | (refine And.intro (fun hb => absurd hb (by omega)) (fun hb => ?_))
        | (refine And.intro (fun hb => ?_) (fun hb => absurd hb (by omega)))
        | (refine And.intro (fun hb => ?_) (fun hb => ?_))
        | (intro hb)
        | (simp only [e98])
        | (conv => whnf)))
      · exact hB (by omega)
      refine hK (s_M_in (by omega) (by omega) (by omega) (fun r3 hr3 => ?_))
      by_cases hk : 1 ≤ k ∧ k ≤ V 98 s
      · iterate 30 (all_goals (first
          | (refine And.intro (by omega) ?_)
          | (refine And.intro (fun hb => absurd hb (by omega)) (fun hb => ?_))
          | (refine And.intro (fun hb => ?_) (fun hb => absurd hb (by omega)))
          | (refine And.intro (fun hb => ?_) (fun hb => ?_))
          | (intro hb)
          | (conv => whnf)))
        refine hK (s_M_findCumulants hp e86 hs (by omega) (by omega) (e98 s) z (by rw [em]; exact hm s hs.1 hs.2) (fun W w1 w2 w3 w4 => ?_))
        rw [em] at w4
        iterate 30 (all_goals (first
          | (refine And.intro (by omega) ?_)
          | (refine And.intro (fun hb => absurd hb (by omega)) (fun hb => ?_))
          | (refine And.intro (fun hb => ?_) (fun hb => absurd hb (by omega)))
          | (refine And.intro (fun hb => ?_) (fun hb => ?_))
          | (intro hb)
          | (conv => whnf)))
        have w4' : ∀ i, 1 ≤ i → i ≤ k → (fun j => W 100 (0 + j)) i = (sr_m V s i + p - sr_ls p (sr_m V s) (fun j => W 100 (0 + j)) sort i (i - 1).toNat) % p := fun i a b => w4 i a (by omega)
        exact hQ hs (by omega) hk W (fun j => W 100 (0 + j)) w1 w4'
      · iterate 30 (all_goals (first
          | (refine And.intro (by omega) ?_)
          | (refine And.intro (fun hb => absurd hb (by omega)) (fun hb => ?_))
          | (refine And.intro (fun hb => ?_) (fun hb => absurd hb (by omega)))
          | (refine And.intro (fun hb => ?_) (fun hb => ?_))
          | (intro hb)
          | (conv => whnf)))
        exact hB (by omega)
  · iterate 30 (all_goals (first
      | (refine And.intro (by omega) ?_)
      | (refine And.intro (fun hb => absurd hb (by omega)) (fun hb => ?_))
      | (refine And.intro (fun hb => ?_) (fun hb => absurd hb (by omega)))
      | (refine And.intro (fun hb => ?_) (fun hb => ?_))
      | (intro hb)
      | (conv => whnf)))
    exact hB (by omega)
theorem pr_number {G : am_G} {d : Nat} {sh : Int → Option Nat} {V : am_V} {T : Nat} {p : Int} {f0 : Int → Int} {s sort k : Int} (hI : II V sh T p f0) (h0 : am_in32 s) (h1 : am_in32 sort) (h2 : am_in32 k) : am_Calls G (d + 9) 20 [vR 3, vI s, vI sort, vI k] V (am_RF sh) T (pr_long G (d + 9) 126 [vR 86, vI s, vI sort, vI k] p f0) := by
  have hJ := hI.1
  have hse := hJ.2.2.2.2.2.1
  obtain ⟨p1, p2, p3, p4, p5, p6, p7⟩ := hJ.2.2.2.2.2.2.1
  have hp : 1 < p ∧ p ≤ 2000000000 := by omega
  have hzz : ∀ s, 0 ≤ s → s < 8 → 1 ≤ V 98 s ∧ V 98 s ≤ 8 := fun s a b => by
    have := hse s a b
    omega
  have bad : ¬ ((0 ≤ s ∧ s < 8) ∧ (sort = -1000000 ∨ (0 ≤ sort ∧ sort ≤ 2)) ∧ 1 ≤ k ∧ k ≤ V 98 s) → pr_long G (d + 9) 126 [vR 86, vI s, vI sort, vI k] p f0 (some (vJ (-1000001))) V (am_RF sh) T := fun hc =>
    pr_j (by omega) hJ.1 (s_M_number h0 h1 h2 hp p2 hzz (fun s a b => iv_se_rg hp.1 hse a b) (fun _ => pr_k (II_bad hI)) (fun q1 q2 q3 => absurd ⟨q1, Or.inl q2, q3⟩ hc) (fun q1 q2 q3 => absurd ⟨q1, Or.inr q2, q3⟩ hc))
  refine am_enter mt_F_number ok_F_number rfl ?_
  refine am_run 400 mt_F_number ok_F_number (fun K S hK hS => ?_)
  iterate 30 (all_goals (first
    | (refine And.intro (by omega) ?_)
    | (refine And.intro (fun hb => absurd hb (by omega)) (fun hb => ?_))
    | (refine And.intro (fun hb => ?_) (fun hb => absurd hb (by omega)))
    | (refine And.intro (fun hb => ?_) (fun hb => ?_))
    | (intro hb)
    | (conv => whnf)))
  refine hK (s_F_noSeries h0 (fun r hr => ?_))
  by_cases hs : 0 ≤ s ∧ s < 8
  · have z := hse s hs.1 hs.2
    have z1 := z.1
    have z2 : V 98 s = V 41 s := z.2.1
    have rgc := iv_se_rgc hp.1 hse hs.1 hs.2
    have eqm := iv_se_eqm hse hs.1 hs.2
    iterate 30 (all_goals (first
      | (refine And.intro (by omega) ?_)
      | (refine And.intro (fun hb => absurd hb (by omega)) (fun hb => ?_))
      | (refine And.intro (fun hb => ?_) (fun hb => absurd hb (by omega)))
      | (refine And.intro (fun hb => ?_) (fun hb => ?_))
      | (intro hb)
      | (conv => whnf)))
    refine hK (s_F_noSort h1 (fun r2 hr2 => ?_))
    by_cases hk : 1 ≤ k ∧ k ≤ V 41 s
    · by_cases hso : sort = -1000000
      · have rk : 0 ≤ V 32 (64 * s + k) ∧ V 32 (64 * s + k) < p := rgc.2 k hk.1 hk.2
        have ek := eqm k (by omega) hk.2
        rw [ek] at rk
        iterate 30 (all_goals (first
          | (refine And.intro (by omega) ?_)
          | (refine And.intro (by decide) ?_)
          | (refine And.intro (fun hb => absurd hb (by omega)) (fun hb => ?_))
          | (refine And.intro (fun hb => ?_) (fun hb => absurd hb (by omega)))
          | (refine And.intro (fun hb => ?_) (fun hb => ?_))
          | (intro hb)
          | (simp only [ek])
          | (conv => whnf)))
        refine pr_j (by constructor <;> omega) hJ.1 (s_M_number h0 h1 h2 hp p2 hzz (fun s a b => iv_se_rg hp.1 hse a b) (fun q => absurd ⟨hs, Or.inl hso, by omega⟩ q) (fun _ _ _ => pr_k (II_bad hI)) (fun _ q => absurd q (by omega)))
      · iterate 30 (all_goals (first
          | (refine And.intro (by omega) ?_)
          | (refine And.intro (fun hb => absurd hb (by omega)) (fun hb => ?_))
          | (refine And.intro (fun hb => ?_) (fun hb => absurd hb (by omega)))
          | (refine And.intro (fun hb => ?_) (fun hb => ?_))
          | (intro hb)
          | (conv => whnf)))
        · exact bad (by omega)
        refine hK (s_C_of42 hp p3 p4 hs (by omega) ⟨by omega, by omega⟩ ⟨rgc.1, fun j a b => rgc.2 j a (by omega)⟩ (fun W w1 w2 w3 w4 => ?_))
        have rk := w3 k (by omega) (by omega)
        have wV : ∀ a, a ≠ 65 → a ≠ 42 → W a = V a := w1
        iterate 30 (all_goals (first
          | (refine And.intro (by omega) ?_)
          | (refine And.intro (fun hb => absurd hb (by omega)) (fun hb => ?_))
          | (refine And.intro (fun hb => ?_) (fun hb => absurd hb (by omega)))
          | (refine And.intro (fun hb => ?_) (fun hb => ?_))
          | (intro hb)
          | (conv => whnf)))
        have emW : ∀ s, sr_m W s = sr_m V s := fun s => by unfold sr_m; rw [w1 99 (by decide) (by decide)]
        have e98 : ∀ s, W 98 s = V 98 s := fun s => by rw [w1 98 (by decide) (by decide)]
        refine pr_j (by constructor <;> omega) (by rw [w1 0 (by decide) (by decide)]; exact hJ.1) (s_M_number h0 h1 h2 hp (by rw [w1 86 (by decide) (by decide)]; exact p2) (fun s a b => by rw [e98]; exact hzz s a b) (fun s a b => by rw [emW]; exact iv_se_rg hp.1 hse a b) (fun q => absurd ⟨hs, Or.inr (by omega), by rw [e98]; omega⟩ q) (fun _ q => absurd q hso) (fun _ _ _ U c u1 u2 => ?_))
        rw [emW] at u2
        have ec : c k = W 42 k := (sr_of_uniq (n := k) (m := fun j => V 32 (64 * s + j)) (m' := sr_m V s) (fun i a b => eqm i a (by omega)) (fun i a b => w4 i a (by omega)) u2 k.toNat k (by omega) (by omega) (Int.le_refl _)).symm
        rw [ec]
        have uV : ∀ a, a ≠ 100 → a ≠ 102 → a ≠ 86 → a ≠ 65 → a ≠ 42 → U a = V a := fun a q1 q2 q3 q4 q5 => by rw [u1 a q1 q2, am_up_ne q3, w1 a q4 q5]
        have u86 : ∀ j, j ≠ 0 → U 86 j = V 86 j := fun j q => by rw [u1 86 (by decide) (by decide), am_up_at, if_neg q, w1 86 (by decide) (by decide)]
        have hst := hI.2
        refine pr_k ⟨IJ_ro hJ (fun a q _ => uV a (by omega) (by omega) (by omega) (by omega) (by omega)) (fun j q => by rw [uV 3 (by decide) (by decide) (by decide) (by decide) (by decide)]) (fun j q1 q2 => u86 j q1) (fun j j1 j2 => ⟨by rw [u1 65 (by decide) (by decide), am_up_ne (by decide), w2 j j1 (by omega)], by rw [uV 76 (by decide) (by decide) (by decide) (by decide) (by decide)]⟩) (Nat.le_refl _) hJ.2.2.2.1.1, ?_⟩
        unfold iv_st
        rw [u86 1 (by decide), uV 3 (by decide) (by decide) (by decide) (by decide) (by decide)]
        exact hst
    · iterate 30 (all_goals (first
        | (refine And.intro (by omega) ?_)
        | (refine And.intro (fun hb => absurd hb (by omega)) (fun hb => ?_))
        | (refine And.intro (fun hb => ?_) (fun hb => absurd hb (by omega)))
        | (refine And.intro (fun hb => ?_) (fun hb => ?_))
        | (intro hb)
        | (conv => whnf)))
      all_goals exact bad (by omega)
  · iterate 30 (all_goals (first
      | (refine And.intro (by omega) ?_)
      | (refine And.intro (fun hb => absurd hb (by omega)) (fun hb => ?_))
      | (refine And.intro (fun hb => ?_) (fun hb => absurd hb (by omega)))
      | (refine And.intro (fun hb => ?_) (fun hb => ?_))
      | (intro hb)
      | (conv => whnf)))
    exact bad (by omega)
