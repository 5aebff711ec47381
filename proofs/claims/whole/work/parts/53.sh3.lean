/-! sheets: copy -/
theorem s_M_copy {G : am_G} {d : Nat} {sh : Int → Option Nat} {V : am_V} {T : Nat} {Q : Option AV → am_V → am_T → Nat → Prop} {a i b j n : Int} (h0 : am_in32 a) (h1 : am_in32 i) (h2 : am_in32 b) (h3 : am_in32 j) (h4 : am_in32 n)
    (hV : ∀ s, 0 ≤ s → s < 8 → (V 87 s = -1 ∨ (0 ≤ V 87 s ∧ V 87 s ≤ 2 ∧ 0 ≤ V 88 s ∧ V 88 s ≤ 40)))
    (hB : ¬ ((0 ≤ a ∧ a < 8) ∧ (0 ≤ b ∧ b < 8)) → Q (some (vI (-1000001))) (am_up V 86 0 0) (am_RF sh) T)
    (hF : ∀ c, ((0 ≤ a ∧ a < 8) ∧ (0 ≤ b ∧ b < 8)) → ((c = 1 ∧ (V 87 a < 0 ∨ V 87 b < 0)) ∨ (c = 5 ∧ 0 ≤ V 87 a ∧ 0 ≤ V 87 b ∧ V 87 a ≠ V 87 b) ∨ (c = 2 ∧ 0 ≤ V 87 a ∧ 0 ≤ V 87 b ∧ V 87 a = V 87 b ∧ ¬ (0 ≤ i ∧ 0 ≤ j ∧ 0 ≤ n ∧ i + n ≤ V 88 a ∧ j + n ≤ V 88 b))) → Q (some (vI (-1000010 - c))) (am_up (am_up (am_up V 86 0 0) 86 1 0) 86 1 c) (am_RF sh) T)
    (hQ : ((0 ≤ a ∧ a < 8) ∧ (0 ≤ b ∧ b < 8)) → (0 ≤ V 87 a ∧ 0 ≤ V 87 b ∧ V 87 a = V 87 b) → (0 ≤ i ∧ 0 ≤ j ∧ 0 ≤ n ∧ i + n ≤ V 88 a ∧ j + n ≤ V 88 b) → ∀ V', (∀ x, x ≠ 89 → V' x = am_up (am_up V 86 0 0) 86 1 0 x) → (∀ x, V' 89 x = if 40 * b + j ≤ x ∧ x < 40 * b + j + n then V 89 (40 * a + i + (x - (40 * b + j))) else V 89 x) → Q (some (vI n)) V' (am_RF sh) T) : am_Calls G (d + 3) 74 [vR 86, vI a, vI i, vI b, vI j, vI n] V (am_RF sh) T Q := by
  refine am_enter mt_M_copy ok_M_copy rfl ?_
  have loop : ∀ (jj : Nat) (k u lo hi : Int) (x8 : Option AV) (W : am_V), ((0 ≤ a ∧ a < 8) ∧ (0 ≤ b ∧ b < 8)) → (0 ≤ V 87 a ∧ 0 ≤ V 87 b ∧ V 87 a = V 87 b) → (0 ≤ i ∧ 0 ≤ j ∧ 0 ≤ n ∧ i + n ≤ V 88 a ∧ j + n ≤ V 88 b) → (V 88 a ≤ 40 ∧ V 88 b ≤ 40) → ((u = 1 ∧ j ≤ i ∧ lo = 0 ∧ hi = k) ∨ (u = 0 ∧ i < j ∧ lo = n - k ∧ hi = n)) → 0 ≤ k → k ≤ n → n - k < jj → (∀ x, x ≠ 89 → W x = am_up (am_up V 86 0 0) 86 1 0 x) → (∀ x, W 89 x = if 40 * b + j + lo ≤ x ∧ x < 40 * b + j + hi then V 89 (40 * a + i + (x - (40 * b + j))) else V 89 x) → am_Sem G (d + 2) 74 V T Q 143 [some (vR 86), some (vI a), some (vI i), some (vI b), some (vI j), some (vI n), some (vI u), some (vI k), x8] [] W (am_RF sh) T 0 0 := by
    intro jj
    induction jj with
    | zero => intro k u lo hi x8 W c1 c2 c3 c4 hu q1 q2 q3; omega
    | succ jj ih =>
      intro k u lo hi x8 W c1 c2 c3 c4 hu q1 q2 q3 w1 w2
      by_cases hk : k = n
      · refine am_run 400 mt_M_copy ok_M_copy (fun K S hK hS => ?_)
        iterate 30 (all_goals (first
          | (refine And.intro (by omega) ?_)
          | (refine And.intro (fun hb => absurd hb (by omega)) (fun hb => ?_))
          | (refine And.intro (fun hb => ?_) (fun hb => absurd hb (by omega)))
          | (refine And.intro (fun hb => ?_) (fun hb => ?_))
          | (intro hb)
          | (conv => whnf)))
        refine hQ c1 c2 c3 W w1 (fun x => ?_)
        rw [w2, show lo = 0 by omega, show hi = n by omega, Int.add_zero]
      · have nx : ∀ at_ lo' hi', ((u = 1 ∧ at_ = k ∧ lo' = 0 ∧ hi' = k + 1) ∨ (u = 0 ∧ at_ = n - 1 - k ∧ lo' = n - (k + 1) ∧ hi' = n)) → ∀ x, am_up W 89 (40 * b + j + at_) (W 89 (40 * a + i + at_)) 89 x = if 40 * b + j + lo' ≤ x ∧ x < 40 * b + j + hi' then V 89 (40 * a + i + (x - (40 * b + j))) else V 89 x := by
          intro at_ lo' hi' hat x
          have rd : W 89 (40 * a + i + at_) = V 89 (40 * a + i + at_) := by
            rw [w2, if_neg (by omega)]
          rw [am_up_at, rd]
          by_cases e : x = 40 * b + j + at_
          · rw [if_pos e, if_pos (by omega), e]
            congr 1; omega
          · rw [if_neg e, w2]
            by_cases c : 40 * b + j + lo ≤ x ∧ x < 40 * b + j + hi
            · rw [if_pos c, if_pos (by omega)]
            · rw [if_neg c, if_neg (by omega)]
        refine am_run 400 mt_M_copy ok_M_copy (fun K S hK hS => ?_)
        iterate 30 (all_goals (first
          | (refine And.intro (by omega) ?_)
          | (refine And.intro (fun hb => absurd hb (by omega)) (fun hb => ?_))
          | (refine And.intro (fun hb => ?_) (fun hb => absurd hb (by omega)))
          | (refine And.intro (fun hb => ?_) (fun hb => ?_))
          | (intro hb)
          | (conv => whnf)))
        · exact hS (ih (k + 1) u (n - (k + 1)) n _ _ c1 c2 c3 c4 (by omega) (by omega) (by omega) (by omega) (fun x hx => by rw [am_up_ne hx, w1 x hx]) (nx _ _ _ (by omega)))
        · exact hS (ih (k + 1) u 0 (k + 1) _ _ c1 c2 c3 c4 (by omega) (by omega) (by omega) (by omega) (fun x hx => by rw [am_up_ne hx, w1 x hx]) (nx _ _ _ (by omega)))
  refine am_run 400 mt_M_copy ok_M_copy (fun K S hK hS => ?_)
  iterate 30 (all_goals (first
    | (refine And.intro (by omega) ?_)
    | (refine And.intro (fun hb => absurd hb (by omega)) (fun hb => ?_))
    | (refine And.intro (fun hb => ?_) (fun hb => absurd hb (by omega)))
    | (refine And.intro (fun hb => ?_) (fun hb => ?_))
    | (intro hb)
    | (conv => whnf)))
  refine hK (s_M_isSheet h0 (fun r hr => ?_))
  iterate 30 (all_goals (first
    | (refine And.intro (by omega) ?_)
    | (refine And.intro (fun hb => absurd hb (by omega)) (fun hb => ?_))
    | (refine And.intro (fun hb => ?_) (fun hb => absurd hb (by omega)))
    | (refine And.intro (fun hb => ?_) (fun hb => ?_))
    | (intro hb)
    | (conv => whnf)))
  · exact hB (by omega)
  refine hK (s_M_isSheet h2 (fun r2 hr2 => ?_))
  by_cases hab : (0 ≤ a ∧ a < 8) ∧ (0 ≤ b ∧ b < 8)
  · have va := hV a hab.1.1 hab.1.2
    have vb := hV b hab.2.1 hab.2.2
    iterate 90 (all_goals (first
      | (refine And.intro (by omega) ?_)
      | (refine And.intro (by decide) ?_)
      | (refine And.intro (fun hb => absurd hb (by omega)) (fun hb => ?_))
      | (refine And.intro (fun hb => ?_) (fun hb => absurd hb (by omega)))
      | (refine And.intro (fun hb => ?_) (fun hb => ?_))
      | (intro hb)
      | (simp +decide only [am_up_ne, am_up_at, reduceIte])
      | (conv => whnf)))
    all_goals first
      | exact hS (loop (n + 1).toNat 0 0 n n _ _ hab (by omega) (by omega) (by omega) (by omega) (by omega) (by omega) (by omega) (fun _ _ => rfl) (fun x => by rw [am_up_ne (by decide), am_up_ne (by decide), if_neg (by omega)]))
      | exact hS (loop (n + 1).toNat 0 1 0 0 _ _ hab (by omega) (by omega) (by omega) (by omega) (by omega) (by omega) (by omega) (fun _ _ => rfl) (fun x => by rw [am_up_ne (by decide), am_up_ne (by decide), if_neg (by omega)]))
      | exact hK (s_M_found (hF 2 hab (by omega)))
      | exact hK (s_M_found (hF 5 hab (by omega)))
      | exact hK (s_M_found (hF 1 hab (by omega)))
  · iterate 30 (all_goals (first
      | (refine And.intro (by omega) ?_)
      | (refine And.intro (fun hb => absurd hb (by omega)) (fun hb => ?_))
      | (refine And.intro (fun hb => ?_) (fun hb => absurd hb (by omega)))
      | (refine And.intro (fun hb => ?_) (fun hb => ?_))
      | (intro hb)
      | (conv => whnf)))
    exact hB (by omega)
theorem pr_copy {G : am_G} {d : Nat} {sh : Int → Option Nat} {V : am_V} {T : Nat} {p : Int} {f0 : Int → Int} {a i b j n : Int} (hI : II V sh T p f0) (h0 : am_in32 a) (h1 : am_in32 i) (h2 : am_in32 b) (h3 : am_in32 j) (h4 : am_in32 n) : am_Calls G (d + 9) 3 [vR 3, vI a, vI i, vI b, vI j, vI n] V (am_RF sh) T (pr_int G (d + 9) 74 [vR 86, vI a, vI i, vI b, vI j, vI n] p f0) := by
  obtain ⟨hJ, hst⟩ := hI
  have hst2 : V 86 1 = V 3 17 ∧ 0 ≤ V 3 17 ∧ V 3 17 ≤ 5 := hst
  have hVV : ∀ s, 0 ≤ s → s < 8 → (V 87 s = -1 ∨ (0 ≤ V 87 s ∧ V 87 s ≤ 2 ∧ 0 ≤ V 88 s ∧ V 88 s ≤ 40)) := fun s q1 q2 => by
    have := hJ.2.1 s q1 q2
    omega
  have bad : ¬ ((0 ≤ a ∧ a < 8) ∧ (0 ≤ b ∧ b < 8)) → pr_int G (d + 9) 74 [vR 86, vI a, vI i, vI b, vI j, vI n] p f0 (some (vI (-1000001))) V (am_RF sh) T := fun hc =>
    pr_i (by omega) hJ.1 (s_M_copy h0 h1 h2 h3 h4 hVV (fun _ => pr_e (IJ_86 hJ (Or.inl rfl)) (by simp +decide [am_up_ne, am_up_at, reduceIte]; exact hst2)) (fun c q => absurd q hc) (fun q => absurd q hc))
  by_cases hab : (0 ≤ a ∧ a < 8) ∧ (0 ≤ b ∧ b < 8)
  · have va := hJ.2.1 a hab.1.1 hab.1.2
    have vb := hJ.2.1 b hab.2.1 hab.2.2
    have find : ∀ c, 0 ≤ c ∧ c ≤ 5 → ((c = 1 ∧ (V 87 a < 0 ∨ V 87 b < 0)) ∨ (c = 5 ∧ 0 ≤ V 87 a ∧ 0 ≤ V 87 b ∧ V 87 a ≠ V 87 b) ∨ (c = 2 ∧ 0 ≤ V 87 a ∧ 0 ≤ V 87 b ∧ V 87 a = V 87 b ∧ ¬ (0 ≤ i ∧ 0 ≤ j ∧ 0 ≤ n ∧ i + n ≤ V 88 a ∧ j + n ≤ V 88 b))) → pr_int G (d + 9) 74 [vR 86, vI a, vI i, vI b, vI j, vI n] p f0 (some (vI (-1000010 - c))) (am_up V 3 17 c) (am_RF sh) T := by
      intro c hc0 hc
      refine pr_i (by omega) (by simp +decide [am_up_ne, am_up_at, reduceIte]; exact hJ.1) (s_M_copy h0 h1 h2 h3 h4 (by simp +decide only [am_up_ne, am_up_at, reduceIte]; exact hVV) (fun q => absurd hab q) (fun c' q hc' => ?_) (fun _ q2 q3 => ?_))
      · simp +decide only [am_up_ne, am_up_at, reduceIte] at hc'
        obtain rfl : c' = c := by omega
        refine pr_e (IJ_86 (IJ_86 (IJ_86 (IJ_3 hJ) (Or.inl rfl)) (Or.inr rfl)) (Or.inr rfl)) ?_
        simp +decide [am_up_ne, am_up_at, reduceIte]; omega
      · exfalso
        simp +decide only [am_up_ne, am_up_at, reduceIte] at q2 q3
        omega
    refine am_enter mt_F_copy ok_F_copy rfl ?_
    refine am_run 400 mt_F_copy ok_F_copy (fun K S hK hS => ?_)
    iterate 30 (all_goals (first
      | (refine And.intro (by omega) ?_)
      | (refine And.intro (fun hb => absurd hb (by omega)) (fun hb => ?_))
      | (refine And.intro (fun hb => ?_) (fun hb => absurd hb (by omega)))
      | (refine And.intro (fun hb => ?_) (fun hb => ?_))
      | (intro hb)
      | (conv => whnf)))
    refine hK (s_F_noSheet h0 (fun r hr => ?_))
    iterate 30 (all_goals (first
      | (refine And.intro (by omega) ?_)
      | (refine And.intro (fun hb => absurd hb (by omega)) (fun hb => ?_))
      | (refine And.intro (fun hb => ?_) (fun hb => absurd hb (by omega)))
      | (refine And.intro (fun hb => ?_) (fun hb => ?_))
      | (intro hb)
      | (conv => whnf)))
    refine hK (s_F_noSheet h2 (fun r2 hr2 => ?_))
    iterate 60 (all_goals (first
      | (refine And.intro (by omega) ?_)
      | (refine And.intro (fun hb => absurd hb (by omega)) (fun hb => ?_))
      | (refine And.intro (fun hb => ?_) (fun hb => absurd hb (by omega)))
      | (refine And.intro (fun hb => ?_) (fun hb => ?_))
      | (intro hb)
      | (conv => whnf)))
    all_goals (try exact hK (s_F_finding (find 1 (by omega) (by omega))))
    all_goals (try exact hK (s_F_finding (find 5 (by omega) (by omega))))
    · refine hK (s_F_noRun hab.1 h1 h4 (by omega) (fun r3 hr3 => ?_))
      iterate 30 (all_goals (first
        | (refine And.intro (by omega) ?_)
        | (refine And.intro (fun hb => absurd hb (by omega)) (fun hb => ?_))
        | (refine And.intro (fun hb => ?_) (fun hb => absurd hb (by omega)))
        | (refine And.intro (fun hb => ?_) (fun hb => ?_))
        | (intro hb)
        | (conv => whnf)))
      · refine hK (s_F_finding ?_)
        iterate 30 (all_goals (first
          | (refine And.intro (by omega) ?_)
          | (refine And.intro (fun hb => absurd hb (by omega)) (fun hb => ?_))
          | (refine And.intro (fun hb => ?_) (fun hb => absurd hb (by omega)))
          | (refine And.intro (fun hb => ?_) (fun hb => ?_))
          | (intro hb)
          | (conv => whnf)))
        exact find 2 (by omega) (by omega)
      refine hK (s_F_noRun hab.2 h3 h4 (by omega) (fun r4 hr4 => ?_))
      iterate 30 (all_goals (first
        | (refine And.intro (by omega) ?_)
        | (refine And.intro (fun hb => absurd hb (by omega)) (fun hb => ?_))
        | (refine And.intro (fun hb => ?_) (fun hb => absurd hb (by omega)))
        | (refine And.intro (fun hb => ?_) (fun hb => ?_))
        | (intro hb)
        | (conv => whnf)))
      · refine hK (s_F_fine ?_)
        iterate 30 (all_goals (first
          | (refine And.intro (by omega) ?_)
          | (refine And.intro (fun hb => absurd hb (by omega)) (fun hb => ?_))
          | (refine And.intro (fun hb => ?_) (fun hb => absurd hb (by omega)))
          | (refine And.intro (fun hb => ?_) (fun hb => ?_))
          | (intro hb)
          | (conv => whnf)))
        refine pr_i (by omega) ?_ (s_M_copy h0 h1 h2 h3 h4 ?_ (fun q => absurd hab q) (fun c' q hc' => ?_) (fun _ q2 q3 U u1 u2 => ?_))
        · rw [am_up_ne (by decide)]
          unfold am_cpy
          simp +decide
          exact hJ.1
        · have e1 : am_up (am_cpy V 4 (64 * a + i) 4 (64 * b + j) n) 3 17 0 87 = V 87 := by rw [am_up_ne (by decide)]; unfold am_cpy; simp +decide
          have e2 : am_up (am_cpy V 4 (64 * a + i) 4 (64 * b + j) n) 3 17 0 88 = V 88 := by rw [am_up_ne (by decide)]; unfold am_cpy; simp +decide
          intro s s1 s2
          show am_up (am_cpy V 4 (64 * a + i) 4 (64 * b + j) n) 3 17 0 87 s = -1 ∨ (0 ≤ am_up (am_cpy V 4 (64 * a + i) 4 (64 * b + j) n) 3 17 0 87 s ∧ am_up (am_cpy V 4 (64 * a + i) 4 (64 * b + j) n) 3 17 0 87 s ≤ 2 ∧ 0 ≤ am_up (am_cpy V 4 (64 * a + i) 4 (64 * b + j) n) 3 17 0 88 s ∧ am_up (am_cpy V 4 (64 * a + i) 4 (64 * b + j) n) 3 17 0 88 s ≤ 40)
          rw [e1, e2]
          exact hVV s s1 s2
        · exfalso
          have e1 : am_up (am_cpy V 4 (64 * a + i) 4 (64 * b + j) n) 3 17 0 87 = V 87 := by rw [am_up_ne (by decide)]; unfold am_cpy; simp +decide
          have e2 : am_up (am_cpy V 4 (64 * a + i) 4 (64 * b + j) n) 3 17 0 88 = V 88 := by rw [am_up_ne (by decide)]; unfold am_cpy; simp +decide
          have hc2 : ((c' = 1 ∧ (am_up (am_cpy V 4 (64 * a + i) 4 (64 * b + j) n) 3 17 0 87 a < 0 ∨ am_up (am_cpy V 4 (64 * a + i) 4 (64 * b + j) n) 3 17 0 87 b < 0)) ∨ (c' = 5 ∧ 0 ≤ am_up (am_cpy V 4 (64 * a + i) 4 (64 * b + j) n) 3 17 0 87 a ∧ 0 ≤ am_up (am_cpy V 4 (64 * a + i) 4 (64 * b + j) n) 3 17 0 87 b ∧ am_up (am_cpy V 4 (64 * a + i) 4 (64 * b + j) n) 3 17 0 87 a ≠ am_up (am_cpy V 4 (64 * a + i) 4 (64 * b + j) n) 3 17 0 87 b) ∨ (c' = 2 ∧ 0 ≤ am_up (am_cpy V 4 (64 * a + i) 4 (64 * b + j) n) 3 17 0 87 a ∧ 0 ≤ am_up (am_cpy V 4 (64 * a + i) 4 (64 * b + j) n) 3 17 0 87 b ∧ am_up (am_cpy V 4 (64 * a + i) 4 (64 * b + j) n) 3 17 0 87 a = am_up (am_cpy V 4 (64 * a + i) 4 (64 * b + j) n) 3 17 0 87 b ∧ ¬ (0 ≤ i ∧ 0 ≤ j ∧ 0 ≤ n ∧ i + n ≤ am_up (am_cpy V 4 (64 * a + i) 4 (64 * b + j) n) 3 17 0 88 a ∧ j + n ≤ am_up (am_cpy V 4 (64 * a + i) 4 (64 * b + j) n) 3 17 0 88 b))) := hc'
          rw [e1, e2] at hc2
          omega
        · have cn : ∀ x, x ≠ 4 → am_cpy V 4 (64 * a + i) 4 (64 * b + j) n x = V x := fun x hx => by
            funext y; unfold am_cpy; rw [if_neg hx]
          have c4 : ∀ y, am_cpy V 4 (64 * a + i) 4 (64 * b + j) n 4 y = if 64 * b + j ≤ y ∧ y < 64 * b + j + n then V 4 (64 * a + i + (y - (64 * b + j))) else V 4 y := fun y => by
            unfold am_cpy; rw [if_pos rfl]
          have u1 : ∀ x, x ≠ 89 → U x = am_up (am_up (am_up (am_cpy V 4 (64 * a + i) 4 (64 * b + j) n) 3 17 0) 86 0 0) 86 1 0 x := u1
          have u2 : ∀ x, U 89 x = if 40 * b + j ≤ x ∧ x < 40 * b + j + n then am_up (am_cpy V 4 (64 * a + i) 4 (64 * b + j) n) 3 17 0 89 (40 * a + i + (x - (40 * b + j))) else am_up (am_cpy V 4 (64 * a + i) 4 (64 * b + j) n) 3 17 0 89 x := u2
          refine pr_e (IJ_sh hJ (fun a q q1 q2 q3 q4 q5 q6 => ?_) (fun j q => ?_) (fun j q1 q2 => ?_) ⟨?_, ?_⟩ (fun x a b => ?_) (fun x a' b' y c e => ?_)) ?_
          · rw [u1 a q6, am_up_ne q.2.1, am_up_ne q.2.1, am_up_ne q.1, cn a q1]
          · rw [u1 3 (by decide), am_up_ne (by decide), am_up_ne (by decide), am_up_at, if_neg q, cn 3 (by decide)]
          · rw [u1 86 (by decide), am_up_at, if_neg q2, am_up_at, if_neg q1, am_up_ne (by decide), cn 86 (by decide)]
          · rw [u1 65 (by decide), am_up_ne (by decide), am_up_ne (by decide), am_up_ne (by decide), cn 65 (by decide)]
          · rw [u1 76 (by decide), am_up_ne (by decide), am_up_ne (by decide), am_up_ne (by decide), cn 76 (by decide)]
          · rw [u1 13 (by decide), u1 14 (by decide), u1 87 (by decide), u1 88 (by decide), am_up_ne (by decide), am_up_ne (by decide), am_up_ne (by decide), am_up_ne (by decide), am_up_ne (by decide), am_up_ne (by decide), am_up_ne (by decide), am_up_ne (by decide), am_up_ne (by decide), am_up_ne (by decide), am_up_ne (by decide), am_up_ne (by decide), cn 13 (by decide), cn 14 (by decide), cn 87 (by decide), cn 88 (by decide)]
            exact hJ.2.1 x a b
          · rw [u2, u1 4 (by decide), am_up_ne (by decide), am_up_ne (by decide), am_up_ne (by decide), am_up_ne (by decide), c4, cn 89 (by decide)]
            by_cases hx : x = b ∧ j ≤ y ∧ y < j + n
            · rw [if_pos (by omega), if_pos (by omega), hx.1]
              have := hJ.2.2.1 a hab.1.1 hab.1.2 (i + (y - j)) (by omega) (by omega)
              rw [show 64 * a + i + (64 * b + y - (64 * b + j)) = 64 * a + (i + (y - j)) by omega, show 40 * a + i + (40 * b + y - (40 * b + j)) = 40 * a + (i + (y - j)) by omega]
              exact this
            · rw [if_neg (by omega), if_neg (by omega)]
              exact hJ.2.2.1 x a' b' y c e
          · rw [u1 86 (by decide), u1 3 (by decide), am_up_same, am_up_ne (by decide), am_up_ne (by decide), am_up_same]
            exact ⟨rfl, by omega, by omega⟩
      · refine hK (s_F_finding ?_)
        iterate 30 (all_goals (first
          | (refine And.intro (by omega) ?_)
          | (refine And.intro (fun hb => absurd hb (by omega)) (fun hb => ?_))
          | (refine And.intro (fun hb => ?_) (fun hb => absurd hb (by omega)))
          | (refine And.intro (fun hb => ?_) (fun hb => ?_))
          | (intro hb)
          | (conv => whnf)))
        exact find 2 (by omega) (by omega)
  · refine am_enter mt_F_copy ok_F_copy rfl ?_
    refine am_run 400 mt_F_copy ok_F_copy (fun K S hK hS => ?_)
    iterate 30 (all_goals (first
      | (refine And.intro (by omega) ?_)
      | (refine And.intro (fun hb => absurd hb (by omega)) (fun hb => ?_))
      | (refine And.intro (fun hb => ?_) (fun hb => absurd hb (by omega)))
      | (refine And.intro (fun hb => ?_) (fun hb => ?_))
      | (intro hb)
      | (conv => whnf)))
    refine hK (s_F_noSheet h0 (fun r hr => ?_))
    iterate 30 (all_goals (first
      | (refine And.intro (by omega) ?_)
      | (refine And.intro (fun hb => absurd hb (by omega)) (fun hb => ?_))
      | (refine And.intro (fun hb => ?_) (fun hb => absurd hb (by omega)))
      | (refine And.intro (fun hb => ?_) (fun hb => ?_))
      | (intro hb)
      | (conv => whnf)))
    · exact bad hab
    refine hK (s_F_noSheet h2 (fun r2 hr2 => ?_))
    iterate 30 (all_goals (first
      | (refine And.intro (by omega) ?_)
      | (refine And.intro (fun hb => absurd hb (by omega)) (fun hb => ?_))
      | (refine And.intro (fun hb => ?_) (fun hb => absurd hb (by omega)))
      | (refine And.intro (fun hb => ?_) (fun hb => ?_))
      | (intro hb)
      | (conv => whnf)))
    exact bad hab
