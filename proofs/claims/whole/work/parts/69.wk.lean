/-! walks, same -/
def wk (r : Int) : Nat → Int → Int
  | 0, d => if d = 0 then 1 else 0
  | t + 1, d => if d = 13 then 0 else (if d = 0 then 0 else wk r t (d - 1) * (if d = 1 then 2 * r else 2 * r - 1)) + wk r t (d + 1)
theorem wk13 (r : Int) : ∀ t, wk r t 13 = 0
  | 0 => rfl
  | t + 1 => by unfold wk; rw [if_pos rfl]
theorem wk_rg0 : ∀ r : Fin 5, ∀ n : Fin 13, 0 ≤ wk ((r : Nat) : Int) n 0 ∧ wk ((r : Nat) : Int) n 0 ≤ 100000000000 := by decide +kernel
theorem wk_rg {r : Int} {n : Nat} (h0 : 0 ≤ r) (h1 : r ≤ 4) (h2 : n ≤ 12) : 0 ≤ wk r n 0 ∧ wk r n 0 ≤ 100000000000 := by
  have := wk_rg0 ⟨r.toNat, by omega⟩ ⟨n, by omega⟩
  rw [show (((⟨r.toNat, by omega⟩ : Fin 5) : Nat) : Int) = r from Int.toNat_of_nonneg h0] at this
  exact this
theorem s_F_walkOneStep {G : am_G} {d : Nat} {sh : Int → Option Nat} {V : am_V} {T : Nat} {Q : Option AV → am_V → am_T → Nat → Prop} {r : Int} {t : Nat} (hr : 1 ≤ r ∧ r ≤ 4) (hw : ∀ j, 0 ≤ j → j ≤ 13 → V 62 j = wk r t j) (hQ : ∀ V', (∀ a, a ≠ 62 → V' a = V a) → (∀ j, 0 ≤ j → j ≤ 13 → V' 62 j = wk r (t + 1) j) → Q none V' (am_RF sh) T) : am_Calls G (d + 1) 66 [vR 3, vI (2 * r)] V (am_RF sh) T Q := by
  refine am_enter mt_F_walkOneStep ok_F_walkOneStep rfl ?_
  have loop : ∀ (jj : Nat) (k : Int) (x5 : Option AV) (W : am_V), 0 ≤ k → k ≤ 13 → 13 - k < jj → (∀ a, a ≠ 62 → W a = V a) → (∀ j, 0 ≤ j → j < k → W 62 j = wk r (t + 1) j) → (∀ j, k ≤ j → j ≤ 13 → W 62 j = wk r t j) → am_Sem G d 66 V T Q 5 [some (vR 3), some (vI (2 * r)), some (vJ (if k = 0 then 0 else wk r t (k - 1) * (if k = 1 then 2 * r else 2 * r - 1))), none, some (vI k), x5, none] [] W (am_RF sh) T 0 0 := by
    intro jj
    induction jj with
    | zero => intro k x5 W a b e; omega
    | succ jj ih =>
      intro k x5 W a b e w1 w2 w3
      by_cases hk : k = 13
      · subst hk
        refine am_run 400 mt_F_walkOneStep ok_F_walkOneStep (fun K S hK hS => ?_)
        iterate 30 (all_goals (first
          | (refine And.intro (by omega) ?_)
          | (refine And.intro (fun hb => absurd hb (by omega)) (fun hb => ?_))
          | (refine And.intro (fun hb => ?_) (fun hb => absurd hb (by omega)))
          | (refine And.intro (fun hb => ?_) (fun hb => ?_))
          | (intro hb)
          | (conv => whnf)))
        refine hQ W w1 (fun j j1 j2 => ?_)
        by_cases z : j = 13
        · rw [z, w3 13 (by omega) (by omega), wk13, wk13]
        · exact w2 j j1 (by omega)
      · have f1 : W 62 k = wk r t k := w3 k (by omega) (by omega)
        have f2 : W 62 (k + 1) = wk r t (k + 1) := w3 (k + 1) (by omega) (by omega)
        have ev : (if k = 0 then 0 else wk r t (k - 1) * (if k = 1 then 2 * r else 2 * r - 1)) + wk r t (k + 1) = wk r (t + 1) k := by
          rw [wk, if_neg hk]
        have nx : ∀ (v : Int), v = (if k = 0 then 0 else wk r t (k - 1) * (if k = 1 then 2 * r else 2 * r - 1)) + wk r t (k + 1) → ∀ x5 F, F = (if k + 1 = 0 then 0 else wk r t (k + 1 - 1) * (if k + 1 = 1 then 2 * r else 2 * r - 1)) → am_Sem G d 66 V T Q 5 [some (vR 3), some (vI (2 * r)), some (vJ F), none, some (vI (k + 1)), x5, none] [] (am_up W 62 k v) (am_RF sh) T 0 0 := fun v hv x5 F hF => by
          rw [hF]
          refine ih (k + 1) x5 _ (by omega) (by omega) (by omega) (fun x hx => by rw [am_up_ne hx, w1 x hx]) (fun j j1 j2 => ?_) (fun j j1 j2 => by rw [am_up_at, if_neg (by omega), w3 j (by omega) j2])
          rw [am_up_at]
          by_cases z : j = k
          · rw [if_pos z, z, hv, ev]
          · rw [if_neg z, w2 j j1 (by omega)]
        rw [if_neg (show ¬ (k + 1 = 0) by omega), show k + 1 - 1 = k by omega] at nx
        obtain ⟨A, hA⟩ : ∃ A, A = (if k = 0 then 0 else wk r t (k - 1) * (if k = 1 then 2 * r else 2 * r - 1)) := ⟨_, rfl⟩
        obtain ⟨B, hB⟩ : ∃ B, B = wk r t k := ⟨_, rfl⟩
        obtain ⟨C, hC⟩ : ∃ C, C = wk r t (k + 1) := ⟨_, rfl⟩
        rw [← hA, ← hB, ← hC] at nx
        rw [← hB] at f1
        rw [← hC] at f2
        rw [← hA]
        clear hA hB hC ih ev
        by_cases k0 : k = 0
        · subst k0
          rw [if_pos (show (0 : Int) + 1 = 1 by omega)] at nx
          refine am_run 400 mt_F_walkOneStep ok_F_walkOneStep (fun K S hK hS => ?_)
          iterate 40 (all_goals (first
            | (simp only [am_st2, am_st1, am_set, am_cut, am_get])
            | (refine And.intro (by omega) ?_)
            | (refine And.intro (by decide) ?_)
            | (refine And.intro (fun hb => absurd hb (by omega)) (fun hb => ?_))
            | (refine And.intro (fun hb => ?_) (fun hb => absurd hb (by omega)))
            | (refine And.intro (fun hb => ?_) (fun hb => ?_))
            | (intro hb)
            | (simp only [f1, f2])
            | (conv => whnf)))
          exact hS (nx _ rfl _ _ rfl)
        · rw [if_neg (show ¬ k + 1 = 1 by omega)] at nx
          refine am_run 400 mt_F_walkOneStep ok_F_walkOneStep (fun K S hK hS => ?_)
          iterate 40 (all_goals (first
            | (simp only [am_st2, am_st1, am_set, am_cut, am_get])
            | (refine And.intro (by omega) ?_)
            | (refine And.intro (by decide) ?_)
            | (refine And.intro (fun hb => absurd hb (by omega)) (fun hb => ?_))
            | (refine And.intro (fun hb => ?_) (fun hb => absurd hb (by omega)))
            | (refine And.intro (fun hb => ?_) (fun hb => ?_))
            | (intro hb)
            | (simp only [f1, f2])
            | (conv => whnf)))
          exact hS (nx _ rfl _ _ rfl)
  refine am_run 400 mt_F_walkOneStep ok_F_walkOneStep (fun K S hK hS => ?_)
  iterate 30 (all_goals (first
    | (refine And.intro (by omega) ?_)
    | (refine And.intro (fun hb => absurd hb (by omega)) (fun hb => ?_))
    | (refine And.intro (fun hb => ?_) (fun hb => absurd hb (by omega)))
    | (refine And.intro (fun hb => ?_) (fun hb => ?_))
    | (intro hb)
    | (conv => whnf)))
  have := loop 14 0 none V (by omega) (by omega) (by omega) (fun _ _ => rfl) (fun j a b => absurd b (by omega)) (fun j a b => hw j a b)
  rw [if_pos rfl] at this
  exact hS this
theorem s_M_walks {G : am_G} {d : Nat} {sh : Int → Option Nat} {V : am_V} {T : Nat} {Q : Option AV → am_V → am_T → Nat → Prop} {r n : Int} (h0 : am_in32 r) (h1 : am_in32 n) (hB : ¬ ((1 ≤ r ∧ r ≤ 4) ∧ 0 ≤ n ∧ n ≤ 12) → Q (some (vJ (-1000001))) (am_up V 86 0 0) (am_RF sh) T) (hQ : ((1 ≤ r ∧ r ≤ 4) ∧ 0 ≤ n ∧ n ≤ 12) → ∀ V', (∀ a, a ≠ 105 → a ≠ 106 → V' a = am_up V 86 0 0 a) → Q (some (vJ (wk r n.toNat 0))) V' (am_RF sh) T) : am_Calls G (d + 3) 136 [vR 86, vI r, vI n] V (am_RF sh) T Q := by
  refine am_enter mt_M_walks ok_M_walks rfl ?_
  have loopT : ((1 ≤ r ∧ r ≤ 4) ∧ 0 ≤ n ∧ n ≤ 12) → ∀ (jj : Nat) (t : Int) (x4 : Option AV) (W : am_V), 0 ≤ t → t ≤ n → n - t < jj → (∀ a, a ≠ 105 → a ≠ 106 → W a = am_up V 86 0 0 a) → (∀ j, 0 ≤ j → j ≤ 13 → W 105 j = wk r t.toNat j) → am_Sem G (d + 2) 136 V T Q 64 [some (vR 86), some (vI r), some (vI n), some (vI t), x4] [] W (am_RF sh) T 0 0 := by
    intro hc jj
    induction jj with
    | zero => intro t x4 W a b e; omega
    | succ jj ih =>
      intro t x4 W a b e w1 w2
      by_cases ht : t = n
      · subst ht
        have e0 := w2 0 (by omega) (by omega)
        refine am_run 400 mt_M_walks ok_M_walks (fun K S hK hS => ?_)
        iterate 30 (all_goals (first
          | (refine And.intro (by omega) ?_)
          | (refine And.intro (by decide) ?_)
          | (refine And.intro (fun hb => absurd hb (by omega)) (fun hb => ?_))
          | (refine And.intro (fun hb => ?_) (fun hb => absurd hb (by omega)))
          | (refine And.intro (fun hb => ?_) (fun hb => ?_))
          | (intro hb)
          | (simp only [e0])
          | (conv => whnf)))
        exact hQ hc W w1
      · have loopC : ∀ (X : am_V), (∀ j, 0 ≤ j → j ≤ 12 → X 106 j = wk r (t + 1).toNat j) → ∀ (j2 : Nat) (k : Int) (U : am_V), 0 ≤ k → k ≤ 13 → 13 - k < j2 → (∀ a, a ≠ 105 → a ≠ 106 → U a = am_up V 86 0 0 a) → U 106 = X 106 → U 105 13 = 0 → (∀ j, 0 ≤ j → j < k → U 105 j = wk r (t + 1).toNat j) → am_Sem G (d + 2) 136 V T Q 147 [some (vR 86), some (vI r), some (vI n), some (vI t), some (vI k)] [] U (am_RF sh) T 0 0 := by
          intro X hX j2
          induction j2 with
          | zero => intro k U a1 a2 a3; omega
          | succ j2 ih2 =>
            intro k U a1 a2 a3 u1 u2 u3 u4
            by_cases hk : k = 13
            · refine am_run 400 mt_M_walks ok_M_walks (fun K S hK hS => ?_)
              iterate 30 (all_goals (first
                | (refine And.intro (by omega) ?_)
                | (refine And.intro (fun hb => absurd hb (by omega)) (fun hb => ?_))
                | (refine And.intro (fun hb => ?_) (fun hb => absurd hb (by omega)))
                | (refine And.intro (fun hb => ?_) (fun hb => ?_))
                | (intro hb)
                | (conv => whnf)))
              refine hS (ih (t + 1) _ U (by omega) (by omega) (by omega) u1 (fun j j1 j2 => ?_))
              by_cases z : j = 13
              · rw [z, u3, wk13]
              · exact u4 j j1 (by omega)
            · have f1 : U 106 k = wk r (t + 1).toNat k := by rw [u2]; exact hX k a1 (by omega)
              refine am_run 400 mt_M_walks ok_M_walks (fun K S hK hS => ?_)
              iterate 30 (all_goals (first
                | (refine And.intro (by omega) ?_)
                | (refine And.intro (fun hb => absurd hb (by omega)) (fun hb => ?_))
                | (refine And.intro (fun hb => ?_) (fun hb => absurd hb (by omega)))
                | (refine And.intro (fun hb => ?_) (fun hb => ?_))
                | (intro hb)
                | (conv => whnf)))
              refine hS (ih2 (k + 1) _ (by omega) (by omega) (by omega) (fun x x1 x2 => by rw [am_up_ne x1, u1 x x1 x2]) (by rw [am_up_ne (by decide)]; exact u2) (by rw [am_up_at, if_neg (by omega)]; exact u3) (fun j j1 j2 => ?_))
              rw [am_up_at]
              by_cases z : j = k
              · rw [if_pos z, z, f1]
              · rw [if_neg z, u4 j j1 (by omega)]
        have loopD : ∀ (j2 : Nat) (k : Int) (U : am_V), 0 ≤ k → k ≤ 13 → 13 - k < j2 → (∀ a, a ≠ 105 → a ≠ 106 → U a = am_up V 86 0 0 a) → (∀ j, 0 ≤ j → j ≤ 13 → U 105 j = wk r t.toNat j) → (∀ j, 0 ≤ j → j < k → U 106 j = wk r (t + 1).toNat j) → am_Sem G (d + 2) 136 V T Q 72 [some (vR 86), some (vI r), some (vI n), some (vI t), some (vI k)] [] U (am_RF sh) T 0 0 := by
          intro j2
          induction j2 with
          | zero => intro k U a1 a2 a3; omega
          | succ j2 ih2 =>
            intro k U a1 a2 a3 u1 u2 u3
            by_cases hk : k = 13
            · refine am_run 400 mt_M_walks ok_M_walks (fun K S hK hS => ?_)
              iterate 30 (all_goals (first
                | (refine And.intro (by omega) ?_)
                | (refine And.intro (fun hb => absurd hb (by omega)) (fun hb => ?_))
                | (refine And.intro (fun hb => ?_) (fun hb => absurd hb (by omega)))
                | (refine And.intro (fun hb => ?_) (fun hb => ?_))
                | (intro hb)
                | (conv => whnf)))
              refine hS (loopC U (fun j j1 j2 => u3 j j1 (by omega)) 14 0 U (by omega) (by omega) (by omega) u1 rfl ?_ (fun j a b => absurd b (by omega)))
              rw [u2 13 (by omega) (by omega), wk13]
            · have f1 : U 105 (k + 1) = wk r t.toNat (k + 1) := u2 _ (by omega) (by omega)
              have nx : ∀ v, v = wk r (t + 1).toNat k → am_Sem G (d + 2) 136 V T Q 72 [some (vR 86), some (vI r), some (vI n), some (vI t), some (vI (k + 1))] [] (am_up U 106 k v) (am_RF sh) T 0 0 := fun v hv => by
                refine ih2 (k + 1) _ (by omega) (by omega) (by omega) (fun x x1 x2 => by rw [am_up_ne x2, u1 x x1 x2]) (fun j j1 j2 => by rw [am_up_ne (by decide)]; exact u2 j j1 j2) (fun j j1 j2 => ?_)
                rw [am_up_at]
                by_cases z : j = k
                · rw [if_pos z, z, hv]
                · rw [if_neg z, u3 j j1 (by omega)]
              rw [show (t + 1).toNat = t.toNat + 1 by omega, wk, if_neg hk] at nx
              by_cases k0 : k = 0
              · rw [if_pos k0] at nx
                refine am_run 400 mt_M_walks ok_M_walks (fun K S hK hS => ?_)
                iterate 40 (all_goals (first
                  | (refine And.intro (by omega) ?_)
                  | (refine And.intro (by decide) ?_)
                  | (refine And.intro (fun hb => absurd hb (by omega)) (fun hb => ?_))
                  | (refine And.intro (fun hb => ?_) (fun hb => absurd hb (by omega)))
                  | (refine And.intro (fun hb => ?_) (fun hb => ?_))
                  | (intro hb)
                  | (simp only [f1])
                  | (conv => whnf)))
                exact hS (nx _ (Int.add_comm _ _))
              · have f2 : U 105 (k - 1) = wk r t.toNat (k - 1) := u2 _ (by omega) (by omega)
                rw [if_neg k0] at nx
                by_cases k1 : k = 1
                · rw [if_pos k1] at nx
                  refine am_run 400 mt_M_walks ok_M_walks (fun K S hK hS => ?_)
                  iterate 40 (all_goals (first
                    | (refine And.intro (by omega) ?_)
                    | (refine And.intro (by decide) ?_)
                    | (refine And.intro (fun hb => absurd hb (by omega)) (fun hb => ?_))
                    | (refine And.intro (fun hb => ?_) (fun hb => absurd hb (by omega)))
                    | (refine And.intro (fun hb => ?_) (fun hb => ?_))
                    | (intro hb)
                    | (simp only [f1, f2])
                    | (conv => whnf)))
                  exact hS (nx _ (Int.add_comm _ _))
                · rw [if_neg k1] at nx
                  refine am_run 400 mt_M_walks ok_M_walks (fun K S hK hS => ?_)
                  iterate 40 (all_goals (first
                    | (refine And.intro (by omega) ?_)
                    | (refine And.intro (by decide) ?_)
                    | (refine And.intro (fun hb => absurd hb (by omega)) (fun hb => ?_))
                    | (refine And.intro (fun hb => ?_) (fun hb => absurd hb (by omega)))
                    | (refine And.intro (fun hb => ?_) (fun hb => ?_))
                    | (intro hb)
                    | (simp only [f1, f2])
                    | (conv => whnf)))
                  exact hS (nx _ (Int.add_comm _ _))
        refine am_run 400 mt_M_walks ok_M_walks (fun K S hK hS => ?_)
        iterate 30 (all_goals (first
          | (refine And.intro (by omega) ?_)
          | (refine And.intro (fun hb => absurd hb (by omega)) (fun hb => ?_))
          | (refine And.intro (fun hb => ?_) (fun hb => absurd hb (by omega)))
          | (refine And.intro (fun hb => ?_) (fun hb => ?_))
          | (intro hb)
          | (conv => whnf)))
        exact hS (loopD 14 0 W (by omega) (by omega) (by omega) w1 w2 (fun j a b => absurd b (by omega)))
  have loop0 : ((1 ≤ r ∧ r ≤ 4) ∧ 0 ≤ n ∧ n ≤ 12) → ∀ (jj : Nat) (k : Int) (W : am_V), 0 ≤ k → k ≤ 14 → 14 - k < jj → (∀ a, a ≠ 105 → a ≠ 106 → W a = am_up V 86 0 0 a) → (∀ j, 0 ≤ j → j < k → W 105 j = wk r 0 j) → am_Sem G (d + 2) 136 V T Q 35 [some (vR 86), some (vI r), some (vI n), some (vI k), none] [] W (am_RF sh) T 0 0 := by
    intro hc jj
    induction jj with
    | zero => intro k W a b e; omega
    | succ jj ih =>
      intro k W a b e w1 w2
      by_cases hk : k = 14
      · refine am_run 400 mt_M_walks ok_M_walks (fun K S hK hS => ?_)
        iterate 30 (all_goals (first
          | (refine And.intro (by omega) ?_)
          | (refine And.intro (fun hb => absurd hb (by omega)) (fun hb => ?_))
          | (refine And.intro (fun hb => ?_) (fun hb => absurd hb (by omega)))
          | (refine And.intro (fun hb => ?_) (fun hb => ?_))
          | (intro hb)
          | (conv => whnf)))
        exact hS (loopT hc (n + 1).toNat 0 _ W (by omega) (by omega) (by omega) w1 (fun j j1 j2 => w2 j j1 (by omega)))
      · refine am_run 400 mt_M_walks ok_M_walks (fun K S hK hS => ?_)
        iterate 30 (all_goals (first
          | (refine And.intro (by omega) ?_)
          | (refine And.intro (fun hb => absurd hb (by omega)) (fun hb => ?_))
          | (refine And.intro (fun hb => ?_) (fun hb => absurd hb (by omega)))
          | (refine And.intro (fun hb => ?_) (fun hb => ?_))
          | (intro hb)
          | (conv => whnf)))
        all_goals refine hS (ih (k + 1) _ (by omega) (by omega) (by omega) (fun x x1 x2 => by rw [am_up_ne x1, w1 x x1 x2]) (fun j j1 j2 => ?_))
        all_goals rw [am_up_at]
        all_goals by_cases z : j = k
        all_goals first
          | (rw [if_pos z]; unfold wk; rw [if_neg (by omega)])
          | (rw [if_pos z]; unfold wk; rw [if_pos (by omega)])
          | rw [if_neg z, w2 j j1 (by omega)]
  refine am_run 400 mt_M_walks ok_M_walks (fun K S hK hS => ?_)
  iterate 30 (all_goals (first
    | (refine And.intro (by omega) ?_)
    | (refine And.intro (fun hb => absurd hb (by omega)) (fun hb => ?_))
    | (refine And.intro (fun hb => ?_) (fun hb => absurd hb (by omega)))
    | (refine And.intro (fun hb => ?_) (fun hb => ?_))
    | (intro hb)
    | (conv => whnf)))
  refine hK (s_M_in (by omega) (by omega) (by omega) (fun r1 hr1 => ?_))
  iterate 30 (all_goals (first
    | (refine And.intro (by omega) ?_)
    | (refine And.intro (fun hb => absurd hb (by omega)) (fun hb => ?_))
    | (refine And.intro (fun hb => ?_) (fun hb => absurd hb (by omega)))
    | (refine And.intro (fun hb => ?_) (fun hb => ?_))
    | (intro hb)
    | (conv => whnf)))
  · exact hB (by omega)
  refine hK (s_M_in (by omega) (by omega) (by omega) (fun r2 hr2 => ?_))
  iterate 30 (all_goals (first
    | (refine And.intro (by omega) ?_)
    | (refine And.intro (fun hb => absurd hb (by omega)) (fun hb => ?_))
    | (refine And.intro (fun hb => ?_) (fun hb => absurd hb (by omega)))
    | (refine And.intro (fun hb => ?_) (fun hb => ?_))
    | (intro hb)
    | (conv => whnf)))
  · exact hS (loop0 (by omega) 15 0 _ (by omega) (by omega) (by omega) (fun _ _ _ => rfl) (fun j a b => absurd b (by omega)))
  · exact hB (by omega)
theorem pr_walks {G : am_G} {d : Nat} {sh : Int → Option Nat} {V : am_V} {T : Nat} {p : Int} {f0 : Int → Int} {r n : Int} (hI : II V sh T p f0) (h0 : am_in32 r) (h1 : am_in32 n) : am_Calls G (d + 9) 27 [vR 3, vI r, vI n] V (am_RF sh) T (pr_long G (d + 9) 136 [vR 86, vI r, vI n] p f0) := by
  have hJ := hI.1
  have hst := hI.2
  by_cases hc : (1 ≤ r ∧ r ≤ 4) ∧ 0 ≤ n ∧ n ≤ 12
  · have rg := wk_rg (r := r) (n := n.toNat) (by omega) (by omega) (by omega)
    refine am_enter mt_F_walks ok_F_walks rfl ?_
    have loop : ∀ (jj : Nat) (t : Int) (W : am_V), 0 ≤ t → t ≤ n → n - t < jj → (∀ a, a ≠ 62 → W a = V a) → (∀ j, 0 ≤ j → j ≤ 13 → W 62 j = wk r t.toNat j) → am_Sem G (d + 8) 27 V T (pr_long G (d + 9) 136 [vR 86, vI r, vI n] p f0) 41 [some (vR 3), some (vI r), some (vI n), some (vI t)] [] W (am_RF sh) T 0 0 := by
      intro jj
      induction jj with
      | zero => intro t W a b e; omega
      | succ jj ih =>
        intro t W a b e w1 w2
        by_cases ht : t = n
        · subst ht
          have e0 := w2 0 (by omega) (by omega)
          refine am_run 400 mt_F_walks ok_F_walks (fun K S hK hS => ?_)
          iterate 30 (all_goals (first
            | (refine And.intro (by omega) ?_)
            | (refine And.intro (by decide) ?_)
            | (refine And.intro (fun hb => absurd hb (by omega)) (fun hb => ?_))
            | (refine And.intro (fun hb => ?_) (fun hb => absurd hb (by omega)))
            | (refine And.intro (fun hb => ?_) (fun hb => ?_))
            | (intro hb)
            | (simp only [e0])
            | (conv => whnf)))
          refine pr_j (by constructor <;> omega) (by rw [w1 0 (by decide)]; exact hJ.1) (s_M_walks h0 h1 (fun q => absurd hc q) (fun _ U u1 => ?_))
          have uV : ∀ a, a ≠ 105 → a ≠ 106 → a ≠ 86 → a ≠ 62 → U a = V a := fun a q1 q2 q3 q4 => by rw [u1 a q1 q2, am_up_ne q3, w1 a q4]
          have u86 : ∀ j, j ≠ 0 → U 86 j = V 86 j := fun j q => by rw [u1 86 (by decide) (by decide), am_up_at, if_neg q, w1 86 (by decide)]
          refine pr_k (II_rd hI (fun a q => uV a (by omega) (by omega) (by omega) (by omega)) (fun j q => by rw [uV 3 (by decide) (by decide) (by decide) (by decide)]) (fun j q1 q2 => u86 j q1) (uV 65 (by decide) (by decide) (by decide) (by decide)) (uV 76 (by decide) (by decide) (by decide) (by decide)) ?_)
          rw [u86 1 (by decide), uV 3 (by decide) (by decide) (by decide) (by decide)]
          exact hst
        · refine am_run 400 mt_F_walks ok_F_walks (fun K S hK hS => ?_)
          iterate 30 (all_goals (first
            | (refine And.intro (by omega) ?_)
            | (refine And.intro (fun hb => absurd hb (by omega)) (fun hb => ?_))
            | (refine And.intro (fun hb => ?_) (fun hb => absurd hb (by omega)))
            | (refine And.intro (fun hb => ?_) (fun hb => ?_))
            | (intro hb)
            | (conv => whnf)))
          refine hK (s_F_walkOneStep (t := t.toNat) hc.1 w2 (fun U u1 u2 => ?_))
          iterate 30 (all_goals (first
            | (refine And.intro (by omega) ?_)
            | (refine And.intro (fun hb => absurd hb (by omega)) (fun hb => ?_))
            | (refine And.intro (fun hb => ?_) (fun hb => absurd hb (by omega)))
            | (refine And.intro (fun hb => ?_) (fun hb => ?_))
            | (intro hb)
            | (conv => whnf)))
          refine hS (ih (t + 1) U (by omega) (by omega) (by omega) (fun x hx => by rw [u1 x hx, w1 x hx]) (fun j j1 j2 => ?_))
          rw [show (t + 1).toNat = t.toNat + 1 by omega]
          exact u2 j j1 j2
    refine am_run 400 mt_F_walks ok_F_walks (fun K S hK hS => ?_)
    iterate 30 (all_goals (first
      | (refine And.intro (by omega) ?_)
      | (refine And.intro (fun hb => absurd hb (by omega)) (fun hb => ?_))
      | (refine And.intro (fun hb => ?_) (fun hb => absurd hb (by omega)))
      | (refine And.intro (fun hb => ?_) (fun hb => ?_))
      | (intro hb)
      | (conv => whnf)))
    refine hK (s_JA_fillJ62 (fun W w1 w2 => ?_))
    iterate 30 (all_goals (first
      | (refine And.intro (by omega) ?_)
      | (refine And.intro (fun hb => absurd hb (by omega)) (fun hb => ?_))
      | (refine And.intro (fun hb => ?_) (fun hb => absurd hb (by omega)))
      | (refine And.intro (fun hb => ?_) (fun hb => ?_))
      | (intro hb)
      | (conv => whnf)))
    refine hS (loop (n + 1).toNat 0 _ (by omega) (by omega) (by omega) (fun x hx => by rw [am_up_ne hx, w1 x hx]) (fun j j1 j2 => ?_))
    rw [am_up_at]
    show _ = (if j = 0 then (1 : Int) else 0)
    by_cases z : j = 0
    · rw [if_pos z, if_pos z]
    · rw [if_neg z, if_neg z, w2 j j1 (by omega)]
  · refine am_enter mt_F_walks ok_F_walks rfl ?_
    refine am_run 400 mt_F_walks ok_F_walks (fun K S hK hS => ?_)
    iterate 30 (all_goals (first
      | (refine And.intro (by omega) ?_)
      | (refine And.intro (fun hb => absurd hb (by omega)) (fun hb => ?_))
      | (refine And.intro (fun hb => ?_) (fun hb => absurd hb (by omega)))
      | (refine And.intro (fun hb => ?_) (fun hb => ?_))
      | (intro hb)
      | (conv => whnf)))
    all_goals exact pr_j (by omega) hJ.1 (s_M_walks h0 h1 (fun _ => pr_k (II_bad hI)) (fun q => absurd q hc))
