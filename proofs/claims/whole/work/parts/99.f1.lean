/-! the constructors of the small objects -/
theorem s_JA_fillI17 {G : am_G} {d : Nat} {V : am_V} {R : am_T} {T : Nat} {Q : Option AV → am_V → am_T → Nat → Prop} {v : Int} (hQ : ∀ V', (∀ a, a ≠ 17 → V' a = V a) → (∀ j : Int, 0 ≤ j → j < 11 → V' 17 j = v) → Q none V' R T) : am_Calls G (d + 1) 169 [vW 17 0, vI v] V R T Q := by
  refine am_enter mt_JA_fillI ok_JA_fillI rfl ?_
  have loop : ∀ (j : Nat) (k : Int) (W : am_V), 0 ≤ k → k ≤ 11 → 11 - k < j → (∀ a, a ≠ 17 → W a = V a) → (∀ j, 0 ≤ j → j < k → W 17 j = v) → am_Sem G d 169 V T Q 5 [some (vW 17 0), some (vI v), some (vI k), some (vI 11)] [] W R T 0 0 := by
    intro j
    induction j with
    | zero => intro k W h0 h1 h2; omega
    | succ j ih =>
      intro k W h0 h1 h2 w1 w2
      by_cases hk : k = 11
      · subst hk
        refine am_run 400 mt_JA_fillI ok_JA_fillI (fun K S hK hS => ?_)
        iterate 30 (all_goals (first
          | (refine And.intro (by omega) ?_)
          | (refine And.intro (fun hb => absurd hb (by omega)) (fun hb => ?_))
          | (refine And.intro (fun hb => ?_) (fun hb => absurd hb (by omega)))
          | (refine And.intro (fun hb => ?_) (fun hb => ?_))
          | (intro hb)
          | (conv => whnf)))
        exact hQ W w1 w2
      · refine am_run 400 mt_JA_fillI ok_JA_fillI (fun K S hK hS => ?_)
        iterate 30 (all_goals (first
          | (refine And.intro (by omega) ?_)
          | (refine And.intro (fun hb => absurd hb (by omega)) (fun hb => ?_))
          | (refine And.intro (fun hb => ?_) (fun hb => absurd hb (by omega)))
          | (refine And.intro (fun hb => ?_) (fun hb => ?_))
          | (intro hb)
          | (conv => whnf)))
        refine hS (ih (k + 1) _ (by omega) (by omega) (by omega) (fun a ha => by rw [am_up_ne ha, w1 a ha]) (fun i a b => ?_))
        rw [am_up_at]
        by_cases e : i = k
        · rw [if_pos (by omega)]
        · rw [if_neg (by omega), w2 i a (by omega)]
  refine am_run 400 mt_JA_fillI ok_JA_fillI (fun K S hK hS => ?_)
  iterate 30 (all_goals (first
    | (refine And.intro (by omega) ?_)
    | (refine And.intro (fun hb => absurd hb (by omega)) (fun hb => ?_))
    | (refine And.intro (fun hb => ?_) (fun hb => absurd hb (by omega)))
    | (refine And.intro (fun hb => ?_) (fun hb => ?_))
    | (intro hb)
    | (conv => whnf)))
  exact hS (loop (11 + 1) 0 V (by omega) (by omega) (by omega) (fun _ _ => rfl) (fun j a b => absurd b (by omega)))
theorem s_O_init {G : am_G} {d : Nat} {V : am_V} {R : am_T} {Q : Option AV → am_V → am_T → Nat → Prop} (hQ : ∀ V', (∀ a, a ≠ 17 → a ≠ 29 → V' a = V a) → (∀ l o, 0 ≤ l → 0 ≤ o → l + o ≤ 10 → V' 17 (64 * l + o) = k_ways l.toNat o.toNat) → Q none V' (am_upR (am_zeroR (am_upR (am_zeroRn R 17 12) 16 0 (some 17)) 29) 16 1 (some 29)) 30) : am_Calls G (d + 2) 145 [vR 16] V R 17 Q := by
  obtain ⟨R', hR'⟩ : ∃ R', R' = am_upR (am_zeroR (am_upR (am_zeroRn R 17 12) 16 0 (some 17)) 29) 16 1 (some 29) := ⟨_, rfl⟩
  have e0 : R' 16 0 = some 17 := by rw [hR']; rfl
  rw [← hR'] at hQ
  have loopL : ∀ (jj : Nat) (l : Int) (x2 x3 x4 : Option AV) (W : am_V), 1 ≤ l → l ≤ 11 → 11 - l < jj → (∀ a, a ≠ 17 → a ≠ 29 → W a = V a) → (∀ l' o, 0 ≤ l' → l' < l → 0 ≤ o → l' + o ≤ 10 → W 17 (64 * l' + o) = k_ways l'.toNat o.toNat) → am_Sem G (d + 1) 145 V 17 Q 36 [some (vR 16), some (vI l), x2, x3, x4] [] W R' 30 13 142 := by
    intro jj
    induction jj with
    | zero => intro l x2 x3 x4 W a b c; omega
    | succ jj ih =>
      intro l x2 x3 x4 W a b c w1 w2
      by_cases hl : l = 11
      · have q := hQ W w1 (fun l' o a1 a2 a3 => w2 l' o a1 (by omega) a2 a3)
        clear hQ ih w2
        refine am_run 400 mt_O_init ok_O_init (fun K S hK hS => ?_)
        iterate 30 (all_goals (first
          | (refine And.intro (by omega) ?_)
          | (refine And.intro (fun hb => absurd hb (by omega)) (fun hb => ?_))
          | (refine And.intro (fun hb => ?_) (fun hb => absurd hb (by omega)))
          | (refine And.intro (fun hb => ?_) (fun hb => ?_))
          | (intro hb)
          | (conv => whnf)))
        exact q
      have loopO : ∀ (j2 : Nat) (o : Int) (x3 x4 : Option AV) (W : am_V), 0 ≤ o → o ≤ 11 - l → 11 - l - o < j2 → (∀ a, a ≠ 17 → a ≠ 29 → W a = V a) → (∀ l' o, 0 ≤ l' → l' < l → 0 ≤ o → l' + o ≤ 10 → W 17 (64 * l' + o) = k_ways l'.toNat o.toNat) → (∀ o', 0 ≤ o' → o' < o → W 17 (64 * l + o') = k_ways l.toNat o'.toNat) → am_Sem G (d + 1) 145 V 17 Q 44 [some (vR 16), some (vI l), some (vI o), x3, x4] [] W R' 30 13 142 := by
        intro j2
        induction j2 with
        | zero => intro o x3 x4 W a b c; omega
        | succ j2 ih2 =>
          intro o x3 x4 W a1 b1 c1 w1 w2 w3
          by_cases ho : o = 11 - l
          · have nx := fun x3 x4 => ih (l + 1) (some (vI o)) x3 x4 W (by omega) (by omega) (by omega) w1 (fun l' o' z1 z2 z3 z4 => by
              by_cases z : l' = l
              · rw [z]; exact w3 o' z3 (by omega)
              · exact w2 l' o' z1 (by omega) z3 z4)
            clear hQ ih ih2 w2 w3
            refine am_run 400 mt_O_init ok_O_init (fun K S hK hS => ?_)
            iterate 30 (all_goals (first
              | (refine And.intro (by omega) ?_)
              | (refine And.intro (fun hb => absurd hb (by omega)) (fun hb => ?_))
              | (refine And.intro (fun hb => ?_) (fun hb => absurd hb (by omega)))
              | (refine And.intro (fun hb => ?_) (fun hb => ?_))
              | (intro hb)
              | (conv => whnf)))
            exact hS (nx _ _)
          have loopT : ∀ (j3 : Nat) (t s : Int), 1 ≤ t → t ≤ o + 2 → o + 2 - t < j3 → s = o_W (l - 1).toNat (t - 1).toNat → am_Sem G (d + 1) 145 V 17 Q 57 [some (vR 16), some (vI l), some (vI o), some (vI s), some (vI t)] [] W R' 30 13 142 := by
            intro j3
            induction j3 with
            | zero => intro t s a b c; omega
            | succ j3 ih3 =>
              intro t s a2 b2 c2 es
              by_cases ht : t = o + 2
              · have nx := ih2 (o + 1) (some (vI s)) (some (vI t)) (am_up W 17 (64 * l + o) s) (by omega) (by omega) (by omega) (fun x z1 z2 => by rw [am_up_ne z1, w1 x z1 z2]) (fun l' o' z1 z2 z3 z4 => by rw [am_up_at, if_neg (by omega), w2 l' o' z1 z2 z3 z4]) (fun o' z1 z2 => by
                  rw [am_up_at]
                  by_cases z : o' = o
                  · rw [if_pos (by omega), es, z, ht, show l.toNat = (l - 1).toNat + 1 by omega, k_ways_S, show (o + 2 - 1).toNat = o.toNat + 1 by omega]
                  · rw [if_neg (by omega), w3 o' z1 (by omega)])
                clear hQ ih ih2 ih3 w2 w3
                refine am_run 400 mt_O_init ok_O_init (fun K S hK hS => ?_)
                iterate 30 (all_goals (first
                  | (refine And.intro (by omega) ?_)
                  | (refine And.intro (by decide) ?_)
                  | (refine And.intro (fun hb => absurd hb (by omega)) (fun hb => ?_))
                  | (refine And.intro (fun hb => ?_) (fun hb => absurd hb (by omega)))
                  | (refine And.intro (fun hb => ?_) (fun hb => ?_))
                  | (intro hb)
                  | (simp only [e0])
                  | (conv => whnf)))
                exact hS nx
              · have ev := w2 (l - 1) t (by omega) (by omega) (by omega) (by omega)
                have nx := ih3 (t + 1) (s + W 17 (64 * (l - 1) + t)) (by omega) (by omega) (by omega) (by
                  rw [ev, es, show (t + 1 - 1).toNat = (t - 1).toNat + 1 by omega, o_W_S, show (t - 1).toNat + 1 = t.toNat by omega])
                clear hQ ih ih2 ih3 w2 w3
                refine am_run 400 mt_O_init ok_O_init (fun K S hK hS => ?_)
                iterate 30 (all_goals (first
                  | (refine And.intro (by omega) ?_)
                  | (refine And.intro (by decide) ?_)
                  | (refine And.intro (fun hb => absurd hb (by omega)) (fun hb => ?_))
                  | (refine And.intro (fun hb => ?_) (fun hb => absurd hb (by omega)))
                  | (refine And.intro (fun hb => ?_) (fun hb => ?_))
                  | (intro hb)
                  | (simp only [e0])
                  | (conv => whnf)))
                exact hS nx
          have nx := loopT (o + 2).toNat 1 0 (by omega) (by omega) (by omega) rfl
          clear hQ ih ih2 loopT w2 w3
          refine am_run 400 mt_O_init ok_O_init (fun K S hK hS => ?_)
          iterate 30 (all_goals (first
            | (refine And.intro (by omega) ?_)
            | (refine And.intro (fun hb => absurd hb (by omega)) (fun hb => ?_))
            | (refine And.intro (fun hb => ?_) (fun hb => absurd hb (by omega)))
            | (refine And.intro (fun hb => ?_) (fun hb => ?_))
            | (intro hb)
            | (conv => whnf)))
          exact hS nx
      have nx := fun x3 x4 => loopO (12 - l).toNat 0 x3 x4 W (by omega) (by omega) (by omega) w1 w2 (fun o' z1 z2 => by omega)
      clear hQ ih loopO w2
      refine am_run 400 mt_O_init ok_O_init (fun K S hK hS => ?_)
      iterate 30 (all_goals (first
        | (refine And.intro (by omega) ?_)
        | (refine And.intro (fun hb => absurd hb (by omega)) (fun hb => ?_))
        | (refine And.intro (fun hb => ?_) (fun hb => absurd hb (by omega)))
        | (refine And.intro (fun hb => ?_) (fun hb => ?_))
        | (intro hb)
        | (conv => whnf)))
      exact hS (nx _ _)
  refine am_enter mt_O_init ok_O_init rfl ?_
  clear hQ
  refine am_run 400 mt_O_init ok_O_init (fun K S hK hS => ?_)
  iterate 30 (all_goals (first
    | (refine And.intro (by omega) ?_)
    | (refine And.intro (⟨by decide, by decide⟩) ?_)
    | (refine And.intro (fun hb => absurd hb (by omega)) (fun hb => ?_))
    | (refine And.intro (fun hb => ?_) (fun hb => absurd hb (by omega)))
    | (refine And.intro (fun hb => ?_) (fun hb => ?_))
    | (intro hb)
    | (conv => whnf)))
  rw [← hR']
  refine hK (s_JA_fillI17 (fun W w1 w2 => ?_))
  have nx := fun x2 x3 x4 => loopL 11 1 x2 x3 x4 W (by omega) (by omega) (by omega) (fun a z1 z2 => by rw [w1 a z1, am_zero_ne z2, am_zero_ne z1]) (fun l' o z1 z2 z3 z4 => by
    rw [show 64 * l' + o = o by omega, w2 o z3 (by omega), show l'.toNat = 0 by omega]
    rfl)
  clear loopL
  iterate 30 (all_goals (first
    | (refine And.intro (by omega) ?_)
    | (refine And.intro (fun hb => absurd hb (by omega)) (fun hb => ?_))
    | (refine And.intro (fun hb => ?_) (fun hb => absurd hb (by omega)))
    | (refine And.intro (fun hb => ?_) (fun hb => ?_))
    | (intro hb)
    | (conv => whnf)))
  exact hS (nx _ _ _)
theorem s_P_init64 {G : am_G} {d : Nat} {V : am_V} {R : am_T} {p : Int} {Q : Option AV → am_V → am_T → Nat → Prop} (hQ : Q none (am_up (am_up (am_zero V 65) 64 0 p) 65 (64 * 0 + 0) 1) (am_upR (am_zeroRn R 65 10) 64 1 (some 65)) 75) : am_Calls G (d + 1) 148 [vR 64, vJ p] V R 65 Q := by
  refine am_enter mt_P_init ok_P_init rfl ?_
  refine am_run 400 mt_P_init ok_P_init (fun K S hK hS => ?_)
  iterate 30 (all_goals (first
    | (refine And.intro (by omega) ?_)
    | (refine And.intro (⟨by decide, by decide⟩) ?_)
    | (refine And.intro (fun hb => absurd hb (by omega)) (fun hb => ?_))
    | (refine And.intro (fun hb => ?_) (fun hb => absurd hb (by omega)))
    | (refine And.intro (fun hb => ?_) (fun hb => ?_))
    | (intro hb)
    | (conv => whnf)))
  exact hQ
theorem s_P_init75 {G : am_G} {d : Nat} {V : am_V} {R : am_T} {p : Int} {Q : Option AV → am_V → am_T → Nat → Prop} (hQ : Q none (am_up (am_up (am_zero V 76) 75 0 p) 76 (64 * 0 + 0) 1) (am_upR (am_zeroRn R 76 10) 75 1 (some 76)) 86) : am_Calls G (d + 1) 148 [vR 75, vJ p] V R 76 Q := by
  refine am_enter mt_P_init ok_P_init rfl ?_
  refine am_run 400 mt_P_init ok_P_init (fun K S hK hS => ?_)
  iterate 30 (all_goals (first
    | (refine And.intro (by omega) ?_)
    | (refine And.intro (⟨by decide, by decide⟩) ?_)
    | (refine And.intro (fun hb => absurd hb (by omega)) (fun hb => ?_))
    | (refine And.intro (fun hb => ?_) (fun hb => absurd hb (by omega)))
    | (refine And.intro (fun hb => ?_) (fun hb => ?_))
    | (intro hb)
    | (conv => whnf)))
  exact hQ
theorem s_C_init {G : am_G} {d : Nat} {V : am_V} {R : am_T} {p : Int} {Q : Option AV → am_V → am_T → Nat → Prop} (hQ : ∀ V', (∀ a, a < 63 → V' a = V a) → V' 63 0 = p → V' 64 0 = p → V' 75 0 = p → (∀ j, V' 65 j = if j = 0 then 1 else 0) → (∀ j, V' 76 j = if j = 0 then 1 else 0) → Q none V' (am_upR (am_upR (am_zeroRn (am_zeroR (am_upR (am_upR (am_zeroRn (am_zeroR R 64) 65 10) 64 1 (some 65)) 63 1 (some 64)) 75) 76 10) 75 1 (some 76)) 63 2 (some 75)) 86) : am_Calls G (d + 2) 139 [vR 63, vJ p] V R 64 Q := by
  refine am_enter mt_C_init ok_C_init rfl ?_
  refine am_run 400 mt_C_init ok_C_init (fun K S hK hS => ?_)
  iterate 30 (all_goals (first
    | (refine And.intro (by omega) ?_)
    | (refine And.intro (⟨by decide, by decide⟩) ?_)
    | (refine And.intro (fun hb => absurd hb (by omega)) (fun hb => ?_))
    | (refine And.intro (fun hb => ?_) (fun hb => absurd hb (by omega)))
    | (refine And.intro (fun hb => ?_) (fun hb => ?_))
    | (intro hb)
    | (conv => whnf)))
  refine hK (s_P_init64 ?_)
  iterate 30 (all_goals (first
    | (simp only [am_st2, am_st1, am_set, am_cut, am_get])
    | (refine And.intro (by omega) ?_)
    | (refine And.intro (⟨by decide, by decide⟩) ?_)
    | (refine And.intro (fun hb => absurd hb (by omega)) (fun hb => ?_))
    | (refine And.intro (fun hb => ?_) (fun hb => absurd hb (by omega)))
    | (refine And.intro (fun hb => ?_) (fun hb => ?_))
    | (intro hb)
    | (conv => whnf)))
  refine hK (s_P_init75 ?_)
  iterate 30 (all_goals (first
    | (simp only [am_st2, am_st1, am_set, am_cut, am_get])
    | (refine And.intro (by omega) ?_)
    | (refine And.intro (⟨by decide, by decide⟩) ?_)
    | (refine And.intro (fun hb => absurd hb (by omega)) (fun hb => ?_))
    | (refine And.intro (fun hb => ?_) (fun hb => absurd hb (by omega)))
    | (refine And.intro (fun hb => ?_) (fun hb => ?_))
    | (intro hb)
    | (conv => whnf)))
  refine hQ _ (fun a z => ?_) ?_ ?_ ?_ (fun j => ?_) (fun j => ?_)
  · rw [am_up_ne (by omega), am_up_ne (by omega), am_zero_ne (by omega), am_zero_ne (by omega), am_up_ne (by omega), am_up_ne (by omega), am_zero_ne (by omega), am_zero_ne (by omega), am_up_ne (by omega)]
  · rfl
  · rfl
  · rfl
  · rw [am_up_ne (by omega), am_up_ne (by omega), am_zero_ne (by omega), am_zero_ne (by omega), am_up_at, show (64 * 0 + 0 : Int) = 0 from rfl]
    by_cases z : j = 0
    · rw [if_pos z, if_pos z]
    · rw [if_neg z, if_neg z, am_up_ne (by omega)]
      unfold am_zero
      rw [if_pos rfl]
  · rw [am_up_at, show (64 * 0 + 0 : Int) = 0 from rfl]
    by_cases z : j = 0
    · rw [if_pos z, if_pos z]
    · rw [if_neg z, if_neg z, am_up_ne (by omega)]
      unfold am_zero
      rw [if_pos rfl]
