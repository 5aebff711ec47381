/-! the product, the class -/
def y_kp (V : am_V) (p : Int) (m : Int → Int) (k : Int) : Prop := ∀ e j, 1 ≤ e → e ≤ 8 → 0 ≤ j → j ≤ k → V 76 (64 * e + j) = sr_pw p m e.toNat j
theorem s_P_begin75 {G : am_G} {d : Nat} {sh : Int → Option Nat} {V : am_V} {T : Nat} {Q : Option AV → am_V → am_T → Nat → Prop} {v : Int} (hQ : ∀ V', (∀ a, a ≠ 76 → V' a = V a) → (∀ e, 1 ≤ e → e ≤ 8 → V' 76 (64 * e) = v) → (∀ j, (∀ e, 1 ≤ e → e ≤ 8 → j ≠ 64 * e) → V' 76 j = V 76 j) → Q none V' (am_RF sh) T) : am_Calls G (d + 1) 149 [vR 75, vJ v] V (am_RF sh) T Q := by
  refine am_enter mt_P_begin ok_P_begin rfl ?_
  have loop : ∀ (jj : Nat) (e : Int) (W : am_V), 1 ≤ e → e ≤ 9 → 9 - e < jj → (∀ a, a ≠ 76 → W a = V a) → (∀ i, 1 ≤ i → i < e → W 76 (64 * i) = v) → (∀ j, (∀ i, 1 ≤ i → i ≤ 8 → j ≠ 64 * i) → W 76 j = V 76 j) → am_Sem G d 149 V T Q 2 [some (vR 75), some (vJ v), none, some (vI e)] [] W (am_RF sh) T 0 0 := by
    intro jj
    induction jj with
    | zero => intro e W a b c; omega
    | succ jj ih =>
      intro e W a b c w1 w2 w3
      by_cases he : e = 9
      · subst he
        refine am_run 400 mt_P_begin ok_P_begin (fun K S hK hS => ?_)
        iterate 30 (all_goals (first
          | (refine And.intro (by omega) ?_)
          | (refine And.intro (fun hb => absurd hb (by omega)) (fun hb => ?_))
          | (refine And.intro (fun hb => ?_) (fun hb => absurd hb (by omega)))
          | (refine And.intro (fun hb => ?_) (fun hb => ?_))
          | (intro hb)
          | (conv => whnf)))
        exact hQ W w1 (fun i a b => w2 i a (by omega)) w3
      · refine am_run 400 mt_P_begin ok_P_begin (fun K S hK hS => ?_)
        iterate 30 (all_goals (first
          | (refine And.intro (by omega) ?_)
          | (refine And.intro (fun hb => absurd hb (by omega)) (fun hb => ?_))
          | (refine And.intro (fun hb => ?_) (fun hb => absurd hb (by omega)))
          | (refine And.intro (fun hb => ?_) (fun hb => ?_))
          | (intro hb)
          | (conv => whnf)))
        refine hS (ih (e + 1) _ (by omega) (by omega) (by omega) (fun x hx => by rw [am_up_ne hx, w1 x hx]) (fun i a1 a2 => ?_) (fun j hj => ?_))
        · rw [am_up_at]
          by_cases q : i = e
          · rw [if_pos (by omega)]
          · rw [if_neg (by omega), w2 i a1 (by omega)]
        · have := hj e a (by omega)
          rw [am_up_at, if_neg (by omega), w3 j hj]
  refine am_run 400 mt_P_begin ok_P_begin (fun K S hK hS => ?_)
  iterate 30 (all_goals (first
    | (refine And.intro (by omega) ?_)
    | (refine And.intro (fun hb => absurd hb (by omega)) (fun hb => ?_))
    | (refine And.intro (fun hb => ?_) (fun hb => absurd hb (by omega)))
    | (refine And.intro (fun hb => ?_) (fun hb => ?_))
    | (intro hb)
    | (conv => whnf)))
  exact hS (loop 9 1 V (by omega) (by omega) (by omega) (fun _ _ => rfl) (fun i a b => absurd b (by omega)) (fun _ _ => rfl))
theorem s_P_add64z {G : am_G} {d : Nat} {sh : Int → Option Nat} {V : am_V} {T : Nat} {Q : Option AV → am_V → am_T → Nat → Prop} {p k v : Int} {m : Int → Int} (hp : 1 < p ∧ p ≤ 2000000000) (e0 : V 64 0 = p) (hk : 1 ≤ k ∧ k ≤ 8) (hv : 0 ≤ v ∧ v < p) (hmr : ∀ j, 0 ≤ j → j ≤ k → 0 ≤ m j ∧ m j < p) (hmk : m k = v) (hkp : sr_kp V p m (k - 1)) (hQ : ∀ V', (∀ a, a ≠ 65 → V' a = V a) → (∀ j, 0 ≤ j → j < 64 → V' 65 j = V 65 j) → sr_kp V' p m k → Q none V' (am_RF sh) T) : am_Calls G (d + 1) 150 [vR 64, vI k, vJ v] V (am_RF sh) T Q := by
  refine am_enter mt_P_add ok_P_add rfl ?_
  have loop : ∀ (jj : Nat) (e : Int) (x5 x7 : Option AV) (W : am_V), 2 ≤ e → e ≤ 9 → 9 - e < jj → (∀ a, a ≠ 65 → W a = V a) → (∀ j, 0 ≤ j → j < 64 → W 65 j = V 65 j) → (∀ i j, 1 ≤ i → i ≤ 8 → 0 ≤ j → j ≤ k → (j < k ∨ i < e) → W 65 (64 * i + j) = sr_pw p m i.toNat j) → am_Sem G d 150 V T Q 12 [some (vR 64), some (vI k), some (vJ v), none, some (vI e), x5, none, x7] [] W (am_RF sh) T 0 0 := by
    intro jj
    induction jj with
    | zero => intro e x5 x7 W a b c; omega
    | succ jj ih =>
      intro e x5 x7 W a b c w1 w2 w3
      by_cases he : e = 9
      · subst he
        refine am_run 400 mt_P_add ok_P_add (fun K S hK hS => ?_)
        iterate 30 (all_goals (first
          | (refine And.intro (by omega) ?_)
          | (refine And.intro (fun hb => absurd hb (by omega)) (fun hb => ?_))
          | (refine And.intro (fun hb => ?_) (fun hb => absurd hb (by omega)))
          | (refine And.intro (fun hb => ?_) (fun hb => ?_))
          | (intro hb)
          | (conv => whnf)))
        exact hQ W w1 w2 (fun i j a1 a2 a3 a4 => w3 i j a1 a2 a3 a4 (by omega))
      · have inner : ∀ (j2 : Nat) (i : Int), 0 ≤ i → i ≤ k + 1 → k + 1 - i < j2 → am_Sem G d 150 V T Q 25 [some (vR 64), some (vI k), some (vJ v), none, some (vI e), some (vJ (sr_cv p (sr_pw p m (e - 1).toNat) m k i.toNat)), none, some (vI i)] [] W (am_RF sh) T 0 0 := by
          intro j2
          induction j2 with
          | zero => intro i b1 b2 b3; omega
          | succ j2 ih2 =>
            intro i b1 b2 b3
            have e64 : W 64 0 = p := by rw [w1 64 (by decide)]; exact e0
            have rs := sr_cv_rg (p := p) (f := sr_pw p m (e - 1).toNat) (g := m) (k := k) (by omega) i.toNat
            by_cases hi : i = k + 1
            · subst hi
              have es : sr_cv p (sr_pw p m (e - 1).toNat) m k (k + 1).toNat = sr_pw p m e.toNat k := by
                rw [show e.toNat = (e - 1).toNat + 1 by omega]; rfl
              rw [es]
              refine am_run 400 mt_P_add ok_P_add (fun K S hK hS => ?_)
              iterate 30 (all_goals (first
                | (refine And.intro (by omega) ?_)
                | (refine And.intro (fun hb => absurd hb (by omega)) (fun hb => ?_))
                | (refine And.intro (fun hb => ?_) (fun hb => absurd hb (by omega)))
                | (refine And.intro (fun hb => ?_) (fun hb => ?_))
                | (intro hb)
                | (conv => whnf)))
              refine hS (ih (e + 1) _ _ _ (by omega) (by omega) (by omega) (fun x hx => by rw [am_up_ne hx, w1 x hx]) (fun j j1 j2 => by rw [am_up_at, if_neg (by omega), w2 j j1 j2]) (fun i j a1 a2 a3 a4 a5 => ?_))
              rw [am_up_at]
              by_cases q : i = e ∧ j = k
              · rw [if_pos (by omega), q.1, q.2]
              · rw [if_neg (by omega), w3 i j a1 a2 a3 a4 (by omega)]
            · have f1 : W 65 (64 * (e - 1) + i) = sr_pw p m (e - 1).toNat i := w3 (e - 1) i (by omega) (by omega) b1 (by omega) (by omega)
              have f2 : W 65 (64 * 1 + (k - i)) = m (k - i) := by
                rw [w3 1 (k - i) (by omega) (by omega) (by omega) (by omega) (by omega)]
                exact sr_pw1 (by omega) (by omega) (hmr _ (by omega) (by omega))
              have r1 := sr_pw_rg (p := p) (m := m) (by omega) (e - 1).toNat i
              have r2 := hmr (k - i) (by omega) (by omega)
              have rm := m_mulr r1.1 r1.2 r2.1 r2.2 hp.2
              have es : Int.tmod (sr_cv p (sr_pw p m (e - 1).toNat) m k i.toNat + sr_pw p m (e - 1).toNat i * m (k - i)) p = sr_cv p (sr_pw p m (e - 1).toNat) m k (i + 1).toNat := by
                rw [m_tm (by omega), show (i + 1).toNat = i.toNat + 1 by omega, sr_cv, show ((i.toNat : Nat) : Int) = i by omega]
              refine am_run 400 mt_P_add ok_P_add (fun K S hK hS => ?_)
              iterate 30 (all_goals (first
                | (refine And.intro (by omega) ?_)
                | (refine And.intro (by decide) ?_)
                | (refine And.intro (fun hb => absurd hb (by omega)) (fun hb => ?_))
                | (refine And.intro (fun hb => ?_) (fun hb => absurd hb (by omega)))
                | (refine And.intro (fun hb => ?_) (fun hb => ?_))
                | (intro hb)
                | (simp only [f1, f2, e64, es])
                | (conv => whnf)))
              exact hS (ih2 (i + 1) (by omega) (by omega) (by omega))
        refine am_run 400 mt_P_add ok_P_add (fun K S hK hS => ?_)
        iterate 30 (all_goals (first
          | (refine And.intro (by omega) ?_)
          | (refine And.intro (fun hb => absurd hb (by omega)) (fun hb => ?_))
          | (refine And.intro (fun hb => ?_) (fun hb => absurd hb (by omega)))
          | (refine And.intro (fun hb => ?_) (fun hb => ?_))
          | (intro hb)
          | (conv => whnf)))
        exact hS (inner (k + 2).toNat 0 (by omega) (by omega) (by omega))
  refine am_run 400 mt_P_add ok_P_add (fun K S hK hS => ?_)
  iterate 30 (all_goals (first
    | (refine And.intro (by omega) ?_)
    | (refine And.intro (fun hb => absurd hb (by omega)) (fun hb => ?_))
    | (refine And.intro (fun hb => ?_) (fun hb => absurd hb (by omega)))
    | (refine And.intro (fun hb => ?_) (fun hb => ?_))
    | (intro hb)
    | (conv => whnf)))
  refine hS (loop 8 2 _ _ _ (by omega) (by omega) (by omega) (fun x hx => by rw [am_up_ne hx]) (fun j j1 j2 => by rw [am_up_at, if_neg (by omega)]) (fun i j a1 a2 a3 a4 a5 => ?_))
  rw [am_up_at]
  by_cases q : i = 1 ∧ j = k
  · rw [if_pos (by omega), q.1, q.2, ← hmk]
    exact (sr_pw1 (by omega) (by omega) (hmr k (by omega) (by omega))).symm
  · rw [if_neg (by omega)]
    exact hkp i j a1 a2 a3 (by omega)
theorem s_P_add75z {G : am_G} {d : Nat} {sh : Int → Option Nat} {V : am_V} {T : Nat} {Q : Option AV → am_V → am_T → Nat → Prop} {p k v : Int} {m : Int → Int} (hp : 1 < p ∧ p ≤ 2000000000) (e0 : V 75 0 = p) (hk : 1 ≤ k ∧ k ≤ 8) (hv : 0 ≤ v ∧ v < p) (hmr : ∀ j, 0 ≤ j → j ≤ k → 0 ≤ m j ∧ m j < p) (hmk : m k = v) (hkp : y_kp V p m (k - 1)) (hQ : ∀ V', (∀ a, a ≠ 76 → V' a = V a) → (∀ j, 0 ≤ j → j < 64 → V' 76 j = V 76 j) → y_kp V' p m k → Q none V' (am_RF sh) T) : am_Calls G (d + 1) 150 [vR 75, vI k, vJ v] V (am_RF sh) T Q := by
  refine am_enter mt_P_add ok_P_add rfl ?_
  have loop : ∀ (jj : Nat) (e : Int) (x5 x7 : Option AV) (W : am_V), 2 ≤ e → e ≤ 9 → 9 - e < jj → (∀ a, a ≠ 76 → W a = V a) → (∀ j, 0 ≤ j → j < 64 → W 76 j = V 76 j) → (∀ i j, 1 ≤ i → i ≤ 8 → 0 ≤ j → j ≤ k → (j < k ∨ i < e) → W 76 (64 * i + j) = sr_pw p m i.toNat j) → am_Sem G d 150 V T Q 12 [some (vR 75), some (vI k), some (vJ v), none, some (vI e), x5, none, x7] [] W (am_RF sh) T 0 0 := by
    intro jj
    induction jj with
    | zero => intro e x5 x7 W a b c; omega
    | succ jj ih =>
      intro e x5 x7 W a b c w1 w2 w3
      by_cases he : e = 9
      · subst he
        refine am_run 400 mt_P_add ok_P_add (fun K S hK hS => ?_)
        iterate 30 (all_goals (first
          | (refine And.intro (by omega) ?_)
          | (refine And.intro (fun hb => absurd hb (by omega)) (fun hb => ?_))
          | (refine And.intro (fun hb => ?_) (fun hb => absurd hb (by omega)))
          | (refine And.intro (fun hb => ?_) (fun hb => ?_))
          | (intro hb)
          | (conv => whnf)))
        exact hQ W w1 w2 (fun i j a1 a2 a3 a4 => w3 i j a1 a2 a3 a4 (by omega))
      · have inner : ∀ (j2 : Nat) (i : Int), 0 ≤ i → i ≤ k + 1 → k + 1 - i < j2 → am_Sem G d 150 V T Q 25 [some (vR 75), some (vI k), some (vJ v), none, some (vI e), some (vJ (sr_cv p (sr_pw p m (e - 1).toNat) m k i.toNat)), none, some (vI i)] [] W (am_RF sh) T 0 0 := by
          intro j2
          induction j2 with
          | zero => intro i b1 b2 b3; omega
          | succ j2 ih2 =>
            intro i b1 b2 b3
            have e64 : W 75 0 = p := by rw [w1 75 (by decide)]; exact e0
            have rs := sr_cv_rg (p := p) (f := sr_pw p m (e - 1).toNat) (g := m) (k := k) (by omega) i.toNat
            by_cases hi : i = k + 1
            · subst hi
              have es : sr_cv p (sr_pw p m (e - 1).toNat) m k (k + 1).toNat = sr_pw p m e.toNat k := by
                rw [show e.toNat = (e - 1).toNat + 1 by omega]; rfl
              rw [es]
              refine am_run 400 mt_P_add ok_P_add (fun K S hK hS => ?_)
              iterate 30 (all_goals (first
                | (refine And.intro (by omega) ?_)
                | (refine And.intro (fun hb => absurd hb (by omega)) (fun hb => ?_))
                | (refine And.intro (fun hb => ?_) (fun hb => absurd hb (by omega)))
                | (refine And.intro (fun hb => ?_) (fun hb => ?_))
                | (intro hb)
                | (conv => whnf)))
              refine hS (ih (e + 1) _ _ _ (by omega) (by omega) (by omega) (fun x hx => by rw [am_up_ne hx, w1 x hx]) (fun j j1 j2 => by rw [am_up_at, if_neg (by omega), w2 j j1 j2]) (fun i j a1 a2 a3 a4 a5 => ?_))
              rw [am_up_at]
              by_cases q : i = e ∧ j = k
              · rw [if_pos (by omega), q.1, q.2]
              · rw [if_neg (by omega), w3 i j a1 a2 a3 a4 (by omega)]
            · have f1 : W 76 (64 * (e - 1) + i) = sr_pw p m (e - 1).toNat i := w3 (e - 1) i (by omega) (by omega) b1 (by omega) (by omega)
              have f2 : W 76 (64 * 1 + (k - i)) = m (k - i) := by
                rw [w3 1 (k - i) (by omega) (by omega) (by omega) (by omega) (by omega)]
                exact sr_pw1 (by omega) (by omega) (hmr _ (by omega) (by omega))
              have r1 := sr_pw_rg (p := p) (m := m) (by omega) (e - 1).toNat i
              have r2 := hmr (k - i) (by omega) (by omega)
              have rm := m_mulr r1.1 r1.2 r2.1 r2.2 hp.2
              have es : Int.tmod (sr_cv p (sr_pw p m (e - 1).toNat) m k i.toNat + sr_pw p m (e - 1).toNat i * m (k - i)) p = sr_cv p (sr_pw p m (e - 1).toNat) m k (i + 1).toNat := by
                rw [m_tm (by omega), show (i + 1).toNat = i.toNat + 1 by omega, sr_cv, show ((i.toNat : Nat) : Int) = i by omega]
              refine am_run 400 mt_P_add ok_P_add (fun K S hK hS => ?_)
              iterate 30 (all_goals (first
                | (refine And.intro (by omega) ?_)
                | (refine And.intro (by decide) ?_)
                | (refine And.intro (fun hb => absurd hb (by omega)) (fun hb => ?_))
                | (refine And.intro (fun hb => ?_) (fun hb => absurd hb (by omega)))
                | (refine And.intro (fun hb => ?_) (fun hb => ?_))
                | (intro hb)
                | (simp only [f1, f2, e64, es])
                | (conv => whnf)))
              exact hS (ih2 (i + 1) (by omega) (by omega) (by omega))
        refine am_run 400 mt_P_add ok_P_add (fun K S hK hS => ?_)
        iterate 30 (all_goals (first
          | (refine And.intro (by omega) ?_)
          | (refine And.intro (fun hb => absurd hb (by omega)) (fun hb => ?_))
          | (refine And.intro (fun hb => ?_) (fun hb => absurd hb (by omega)))
          | (refine And.intro (fun hb => ?_) (fun hb => ?_))
          | (intro hb)
          | (conv => whnf)))
        exact hS (inner (k + 2).toNat 0 (by omega) (by omega) (by omega))
  refine am_run 400 mt_P_add ok_P_add (fun K S hK hS => ?_)
  iterate 30 (all_goals (first
    | (refine And.intro (by omega) ?_)
    | (refine And.intro (fun hb => absurd hb (by omega)) (fun hb => ?_))
    | (refine And.intro (fun hb => ?_) (fun hb => absurd hb (by omega)))
    | (refine And.intro (fun hb => ?_) (fun hb => ?_))
    | (intro hb)
    | (conv => whnf)))
  refine hS (loop 8 2 _ _ _ (by omega) (by omega) (by omega) (fun x hx => by rw [am_up_ne hx]) (fun j j1 j2 => by rw [am_up_at, if_neg (by omega)]) (fun i j a1 a2 a3 a4 a5 => ?_))
  rw [am_up_at]
  by_cases q : i = 1 ∧ j = k
  · rw [if_pos (by omega), q.1, q.2, ← hmk]
    exact (sr_pw1 (by omega) (by omega) (hmr k (by omega) (by omega))).symm
  · rw [if_neg (by omega)]
    exact hkp i j a1 a2 a3 (by omega)
theorem s_P_weighted64 {G : am_G} {d : Nat} {sh : Int → Option Nat} {V : am_V} {T : Nat} {Q : Option AV → am_V → am_T → Nat → Prop} {p k less : Int} {R : Nat → Int → Int} (hp : 1 < p ∧ p ≤ 2000000000) (e0 : V 64 0 = p) (hk : 1 ≤ k ∧ k ≤ 8) (hl : less = 0 ∨ less = 1) (hf : ∀ s, 1 ≤ s → s ≤ k → 0 ≤ V 43 s ∧ V 43 s < p) (hR : ∀ s, 1 ≤ s → s ≤ k → V 65 (64 * (s - less) + (k - less)) = R (s - less).toNat (k - less) ∧ 0 ≤ R (s - less).toNat (k - less) ∧ R (s - less).toNat (k - less) < p) (hQ : Q (some (vJ (y_sw p (V 43) R k less k.toNat))) V (am_RF sh) T) : am_Calls G (d + 1) 152 [vR 64, vR 43, vI k, vI less] V (am_RF sh) T Q := by
  refine am_enter mt_P_weighted ok_P_weighted rfl ?_
  have loop : ∀ (jj : Nat) (s : Int), 1 ≤ s → s ≤ k + 1 → k + 1 - s < jj → am_Sem G d 152 V T Q 6 [some (vR 64), some (vR 43), some (vI k), some (vI less), some (vJ (y_sw p (V 43) R k less (s - 1).toNat)), none, some (vI s)] [] V (am_RF sh) T 0 0 := by
    intro jj
    induction jj with
    | zero => intro s a b c; omega
    | succ jj ih =>
      intro s a b c
      have rs := y_sw_rg (p := p) (f := V 43) (R := R) (k := k) (less := less) (by omega) (s - 1).toNat
      by_cases hs : s = k + 1
      · subst hs
        rw [show k + 1 - 1 = k by omega]
        refine am_run 400 mt_P_weighted ok_P_weighted (fun K S hK hS => ?_)
        iterate 30 (all_goals (first
          | (refine And.intro (by omega) ?_)
          | (refine And.intro (fun hb => absurd hb (by omega)) (fun hb => ?_))
          | (refine And.intro (fun hb => ?_) (fun hb => absurd hb (by omega)))
          | (refine And.intro (fun hb => ?_) (fun hb => ?_))
          | (intro hb)
          | (conv => whnf)))
        exact hQ
      · obtain ⟨f1, r1, r2⟩ := hR s a (by omega)
        have r3 := hf s a (by omega)
        have rm := m_mulr r3.1 r3.2 r1 r2 hp.2
        have es : Int.tmod (y_sw p (V 43) R k less (s - 1).toNat + V 43 s * R (s - less).toNat (k - less)) p = y_sw p (V 43) R k less s.toNat := by
          rw [m_tm (by omega), show s.toNat = (s - 1).toNat + 1 by omega, y_sw, show (((s - 1).toNat : Nat) : Int) + 1 = s by omega]
        have ih := ih (s + 1) (by omega) (by omega) (by omega)
        rw [show s + 1 - 1 = s by omega] at ih
        refine am_run 400 mt_P_weighted ok_P_weighted (fun K S hK hS => ?_)
        iterate 30 (all_goals (first
          | (refine And.intro (by omega) ?_)
          | (refine And.intro (by decide) ?_)
          | (refine And.intro (fun hb => absurd hb (by omega)) (fun hb => ?_))
          | (refine And.intro (fun hb => ?_) (fun hb => absurd hb (by omega)))
          | (refine And.intro (fun hb => ?_) (fun hb => ?_))
          | (intro hb)
          | (simp only [f1, e0, es])
          | (conv => whnf)))
        exact hS ih
  refine am_run 400 mt_P_weighted ok_P_weighted (fun K S hK hS => ?_)
  iterate 30 (all_goals (first
    | (refine And.intro (by omega) ?_)
    | (refine And.intro (fun hb => absurd hb (by omega)) (fun hb => ?_))
    | (refine And.intro (fun hb => ?_) (fun hb => absurd hb (by omega)))
    | (refine And.intro (fun hb => ?_) (fun hb => ?_))
    | (intro hb)
    | (conv => whnf)))
  exact hS (loop 10 1 (by omega) (by omega) (by omega))
theorem s_P_weighted75 {G : am_G} {d : Nat} {sh : Int → Option Nat} {V : am_V} {T : Nat} {Q : Option AV → am_V → am_T → Nat → Prop} {p k less : Int} {R : Nat → Int → Int} (hp : 1 < p ∧ p ≤ 2000000000) (e0 : V 75 0 = p) (hk : 1 ≤ k ∧ k ≤ 8) (hl : less = 0 ∨ less = 1) (hf : ∀ s, 1 ≤ s → s ≤ k → 0 ≤ V 42 s ∧ V 42 s < p) (hR : ∀ s, 1 ≤ s → s ≤ k → V 76 (64 * (s - less) + (k - less)) = R (s - less).toNat (k - less) ∧ 0 ≤ R (s - less).toNat (k - less) ∧ R (s - less).toNat (k - less) < p) (hQ : Q (some (vJ (y_sw p (V 42) R k less k.toNat))) V (am_RF sh) T) : am_Calls G (d + 1) 152 [vR 75, vR 42, vI k, vI less] V (am_RF sh) T Q := by
  refine am_enter mt_P_weighted ok_P_weighted rfl ?_
  have loop : ∀ (jj : Nat) (s : Int), 1 ≤ s → s ≤ k + 1 → k + 1 - s < jj → am_Sem G d 152 V T Q 6 [some (vR 75), some (vR 42), some (vI k), some (vI less), some (vJ (y_sw p (V 42) R k less (s - 1).toNat)), none, some (vI s)] [] V (am_RF sh) T 0 0 := by
    intro jj
    induction jj with
    | zero => intro s a b c; omega
    | succ jj ih =>
      intro s a b c
      have rs := y_sw_rg (p := p) (f := V 42) (R := R) (k := k) (less := less) (by omega) (s - 1).toNat
      by_cases hs : s = k + 1
      · subst hs
        rw [show k + 1 - 1 = k by omega]
        refine am_run 400 mt_P_weighted ok_P_weighted (fun K S hK hS => ?_)
        iterate 30 (all_goals (first
          | (refine And.intro (by omega) ?_)
          | (refine And.intro (fun hb => absurd hb (by omega)) (fun hb => ?_))
          | (refine And.intro (fun hb => ?_) (fun hb => absurd hb (by omega)))
          | (refine And.intro (fun hb => ?_) (fun hb => ?_))
          | (intro hb)
          | (conv => whnf)))
        exact hQ
      · obtain ⟨f1, r1, r2⟩ := hR s a (by omega)
        have r3 := hf s a (by omega)
        have rm := m_mulr r3.1 r3.2 r1 r2 hp.2
        have es : Int.tmod (y_sw p (V 42) R k less (s - 1).toNat + V 42 s * R (s - less).toNat (k - less)) p = y_sw p (V 42) R k less s.toNat := by
          rw [m_tm (by omega), show s.toNat = (s - 1).toNat + 1 by omega, y_sw, show (((s - 1).toNat : Nat) : Int) + 1 = s by omega]
        have ih := ih (s + 1) (by omega) (by omega) (by omega)
        rw [show s + 1 - 1 = s by omega] at ih
        refine am_run 400 mt_P_weighted ok_P_weighted (fun K S hK hS => ?_)
        iterate 30 (all_goals (first
          | (refine And.intro (by omega) ?_)
          | (refine And.intro (by decide) ?_)
          | (refine And.intro (fun hb => absurd hb (by omega)) (fun hb => ?_))
          | (refine And.intro (fun hb => ?_) (fun hb => absurd hb (by omega)))
          | (refine And.intro (fun hb => ?_) (fun hb => ?_))
          | (intro hb)
          | (simp only [f1, e0, es])
          | (conv => whnf)))
        exact hS ih
  refine am_run 400 mt_P_weighted ok_P_weighted (fun K S hK hS => ?_)
  iterate 30 (all_goals (first
    | (refine And.intro (by omega) ?_)
    | (refine And.intro (fun hb => absurd hb (by omega)) (fun hb => ?_))
    | (refine And.intro (fun hb => ?_) (fun hb => absurd hb (by omega)))
    | (refine And.intro (fun hb => ?_) (fun hb => ?_))
    | (intro hb)
    | (conv => whnf)))
  exact hS (loop 10 1 (by omega) (by omega) (by omega))
theorem y_pw_zero {p : Int} {m : Int → Int} (h : m 0 = 0) : ∀ e : Nat, sr_pw p m (e + 1) 0 = 0 := fun e => by
  rw [sr_pw, show ((0 : Int) + 1).toNat = 0 + 1 from rfl, sr_cv, sr_cv, show (0 : Int) - ((0 : Nat) : Int) = 0 from rfl, h, Int.mul_zero, Int.zero_add, Int.zero_emod]
theorem y_upd_lt {m : Int → Int} {k x j : Int} (h : j < k) : o_upd m k x j = m j := by unfold o_upd; rw [if_neg (by omega)]
theorem y_upd_at {m : Int → Int} {k x : Int} : o_upd m k x k = x := by unfold o_upd; rw [if_pos rfl]
theorem y_sw_upd {p : Int} {f m : Int → Int} {k x : Int} {j : Nat} (hj : 1 ≤ j) (h : (j : Int) ≤ k) : y_sw p f (sr_pw p (o_upd m k x)) j 1 j = y_sw p f (sr_pw p m) j 1 j :=
  y_sw_eq j (fun i _ _ => ⟨rfl, sr_pw_eq _ _ (fun u _ b => y_upd_lt (by omega))⟩)
theorem s_C_multiply {G : am_G} {d : Nat} {sh : Int → Option Nat} {V : am_V} {T : Nat} {Q : Option AV → am_V → am_T → Nat → Prop} {p n : Int} (hp : 1 < p ∧ p ≤ 2000000000) (e64 : V 64 0 = p) (e75 : V 75 0 = p) (hn : 1 ≤ n ∧ n ≤ 8) (hf1 : ∀ s, 1 ≤ s → s ≤ n → 0 ≤ V 42 s ∧ V 42 s < p) (hf2 : ∀ s, 1 ≤ s → s ≤ n → 0 ≤ V 43 s ∧ V 43 s < p) (hz : ∀ j, 0 ≤ j → j ≤ 8 → V 65 j = (if j = 0 then 1 else 0) ∧ V 76 j = (if j = 0 then 1 else 0))
    (hQ : ∀ V', (∀ a, a ≠ 42 → a ≠ 65 → a ≠ 76 → V' a = V a) → (∀ j, 0 ≤ j → j < 64 → V' 65 j = V 65 j ∧ V' 76 j = V 76 j) → (∃ mg mh : Int → Int, mg 0 = 0 ∧ mh 0 = 0 ∧ (∀ k : Nat, 1 ≤ k → (k : Int) ≤ n → mg k = y_sw p (V 42) (sr_pw p mh) k 1 k ∧ mh k = y_sw p (V 43) (sr_pw p mg) k 1 k) ∧ ∀ k : Nat, 1 ≤ k → (k : Int) ≤ n → V' 42 k = y_sw p (V 42) (sr_pw p mh) k 0 k) → Q none V' (am_RF sh) T) : am_Calls G (d + 2) 144 [vR 63, vI n, vR 42, vR 43] V (am_RF sh) T Q := by
  have pw0 : ∀ (W : am_V), (∀ j, 0 ≤ j → j < 64 → W 65 j = V 65 j ∧ W 76 j = V 76 j) → ∀ (m : Int → Int) (j : Int), 0 ≤ j → j ≤ 8 → W 65 (64 * 0 + j) = sr_pw p m 0 j ∧ W 76 (64 * 0 + j) = sr_pw p m 0 j := fun W w m j a b => by
    rw [show 64 * 0 + j = j by omega, (w j a (by omega)).1, (w j a (by omega)).2, (hz j a b).1, (hz j a b).2]
    exact ⟨rfl, rfl⟩
  have rgs : ∀ (m : Int → Int) (e : Nat) (j : Int), 0 ≤ sr_pw p m e j ∧ sr_pw p m e j < p := fun m e j => sr_pw_rg (by omega) e j
  have back : ∀ (mg mh : Int → Int), mg 0 = 0 → mh 0 = 0 → (∀ k : Nat, 1 ≤ k → (k : Int) ≤ n → mg k = y_sw p (V 42) (sr_pw p mh) k 1 k ∧ mh k = y_sw p (V 43) (sr_pw p mg) k 1 k) → ∀ (jj : Nat) (k : Int) (x7 x9 : Option AV) (W : am_V), 0 ≤ k → k ≤ n → k < jj → (∀ a, a ≠ 42 → a ≠ 65 → a ≠ 76 → W a = V a) → (∀ j, 0 ≤ j → j < 64 → W 65 j = V 65 j ∧ W 76 j = V 76 j) → y_kp W p mh n → (∀ j, j ≤ k → W 42 j = V 42 j) → (∀ j : Nat, k < j → (j : Int) ≤ n → W 42 j = y_sw p (V 42) (sr_pw p mh) j 0 j) → am_Sem G (d + 1) 144 V T Q 82 [some (vR 63), some (vI n), some (vR 42), some (vR 43), some (vR 64), some (vR 75), some (vI k), x7, none, x9, none] [] W (am_RF sh) T 0 0 := by
    intro mg mh g0 h0 hgh jj
    induction jj with
    | zero => intro k x7 x9 W a b c; omega
    | succ jj ih =>
      intro k x7 x9 W a b c w1 w2 w3 w4 w5
      by_cases hk : k = 0
      · subst hk
        have q := hQ W w1 w2 ⟨mg, mh, g0, h0, hgh, fun j j1 j2 => w5 j (by omega) j2⟩
        clear hQ ih w5 w4 w3 hgh
        refine am_run 400 mt_C_multiply ok_C_multiply (fun K S hK hS => ?_)
        iterate 30 (all_goals (first
          | (refine And.intro (by omega) ?_)
          | (refine And.intro (fun hb => absurd hb (by omega)) (fun hb => ?_))
          | (refine And.intro (fun hb => ?_) (fun hb => absurd hb (by omega)))
          | (refine And.intro (fun hb => ?_) (fun hb => ?_))
          | (intro hb)
          | (conv => whnf)))
        exact q
      · have eq : y_sw p (W 42) (sr_pw p mh) k 0 k.toNat = y_sw p (V 42) (sr_pw p mh) k 0 k.toNat := y_sw_eq _ (fun i i0 i1 => ⟨w4 i (by omega), rfl⟩)
        have nx := ih (k - 1) x7 x9 (am_up W 42 k (y_sw p (W 42) (sr_pw p mh) k 0 k.toNat)) (by omega) (by omega) (by omega) (fun x h1 h2 h3 => by rw [am_up_ne h1, w1 x h1 h2 h3]) (fun j a b => by rw [am_up_ne (by decide), am_up_ne (by decide)]; exact w2 j a b) (fun e j a b c d => by rw [am_up_ne (by decide)]; exact w3 e j a b c d) (fun j hj => by rw [am_up_at, if_neg (by omega), w4 j (by omega)]) (fun j h1 h2 => by
          rw [am_up_at]
          by_cases z : (j : Int) = k
          · rw [if_pos z, eq, ← z, show (j : Int).toNat = j by omega]
          · rw [if_neg z]; exact w5 j (by omega) h2)
        have e75' : W 75 0 = p := by rw [w1 75 (by decide) (by decide) (by decide)]; exact e75
        clear hQ ih w5 hgh
        refine am_run 400 mt_C_multiply ok_C_multiply (fun K S hK hS => ?_)
        iterate 30 (all_goals (first
          | (refine And.intro (by omega) ?_)
          | (refine And.intro (fun hb => absurd hb (by omega)) (fun hb => ?_))
          | (refine And.intro (fun hb => ?_) (fun hb => absurd hb (by omega)))
          | (refine And.intro (fun hb => ?_) (fun hb => ?_))
          | (intro hb)
          | (conv => whnf)))
        refine hK (s_P_weighted75 (p := p) (R := sr_pw p mh) hp e75' (by omega) (Or.inl rfl) (fun s s1 s2 => by rw [w4 s (by omega)]; exact hf1 s s1 (by omega)) (fun s s1 s2 => ⟨?_, rgs _ _ _⟩) ?_)
        · rw [show s - 0 = s by omega, show k - 0 = k by omega]
          exact w3 s k s1 (by omega) (by omega) b
        · iterate 30 (all_goals (first
            | (refine And.intro (by omega) ?_)
            | (refine And.intro (fun hb => absurd hb (by omega)) (fun hb => ?_))
            | (refine And.intro (fun hb => ?_) (fun hb => absurd hb (by omega)))
            | (refine And.intro (fun hb => ?_) (fun hb => ?_))
            | (intro hb)
            | (conv => whnf)))
          exact hS nx
  have loop : ∀ (jj : Nat) (k : Int) (x7 x9 : Option AV) (W : am_V) (mg mh : Int → Int), 1 ≤ k → k ≤ n + 1 → n + 1 - k < jj → (∀ a, a ≠ 65 → a ≠ 76 → W a = V a) → (∀ j, 0 ≤ j → j < 64 → W 65 j = V 65 j ∧ W 76 j = V 76 j) → mg 0 = 0 → mh 0 = 0 → (∀ j : Nat, 1 ≤ j → (j : Int) < k → mg j = y_sw p (V 42) (sr_pw p mh) j 1 j ∧ mh j = y_sw p (V 43) (sr_pw p mg) j 1 j) → sr_kp W p mg (k - 1) → y_kp W p mh (k - 1) → am_Sem G (d + 1) 144 V T Q 27 [some (vR 63), some (vI n), some (vR 42), some (vR 43), some (vR 64), some (vR 75), some (vI k), x7, none, x9, none] [] W (am_RF sh) T 0 0 := by
    intro jj
    induction jj with
    | zero => intro k x7 x9 W mg mh a b c; omega
    | succ jj ih =>
      intro k x7 x9 W mg mh a b c w1 w2 g0 h0 hgh kG kH
      by_cases hk : k = n + 1
      · subst hk
        rw [show n + 1 - 1 = n by omega] at kH
        have nx := back mg mh g0 h0 (fun j j1 j2 => hgh j j1 (by omega)) (n + 1).toNat n x7 x9 W (by omega) (by omega) (by omega) (fun x _ h2 h3 => w1 x h2 h3) w2 kH (fun j _ => by rw [w1 42 (by decide) (by decide)]) (fun j h1 h2 => by omega)
        clear hQ ih back kG kH hgh
        refine am_run 400 mt_C_multiply ok_C_multiply (fun K S hK hS => ?_)
        iterate 30 (all_goals (first
          | (refine And.intro (by omega) ?_)
          | (refine And.intro (fun hb => absurd hb (by omega)) (fun hb => ?_))
          | (refine And.intro (fun hb => ?_) (fun hb => absurd hb (by omega)))
          | (refine And.intro (fun hb => ?_) (fun hb => ?_))
          | (intro hb)
          | (conv => whnf)))
        exact hS nx
      · have e42 : W 42 = V 42 := w1 42 (by decide) (by decide)
        have e43 : W 43 = V 43 := w1 43 (by decide) (by decide)
        have e75' : W 75 0 = p := by rw [w1 75 (by decide) (by decide)]; exact e75
        have e64' : W 64 0 = p := by rw [w1 64 (by decide) (by decide)]; exact e64
        obtain ⟨g, eg⟩ : ∃ g, g = y_sw p (V 42) (sr_pw p mh) k 1 k.toNat := ⟨_, rfl⟩
        obtain ⟨h, eh⟩ : ∃ h, h = y_sw p (V 43) (sr_pw p mg) k 1 k.toNat := ⟨_, rfl⟩
        have gr : 0 ≤ g ∧ g < p := by rw [eg]; exact y_sw_rg (by omega) _
        have hr : 0 ≤ h ∧ h < p := by rw [eh]; exact y_sw_rg (by omega) _
        have vr : ∀ (f : Int → Int) (m' m : Int → Int), m 0 = 0 → (∀ j : Nat, 1 ≤ j → (j : Int) < k → m j = y_sw p f (sr_pw p m') j 1 j) → ∀ x, 0 ≤ x ∧ x < p → ∀ j, 0 ≤ j → j ≤ k → 0 ≤ o_upd m k x j ∧ o_upd m k x j < p := fun f m' m m0 mj x hx j j0 j1 => by
          by_cases z : j = k
          · rw [z, y_upd_at]; exact hx
          · rw [y_upd_lt (by omega)]
            by_cases z0 : j = 0
            · rw [z0, m0]; omega
            · have := mj j.toNat (by omega) (by omega)
              rw [show ((j.toNat : Nat) : Int) = j by omega] at this
              rw [this]; exact y_sw_rg (by omega) _
        have rG := vr (V 42) mh mg g0 (fun j a b => (hgh j a b).1) g gr
        have rH := vr (V 43) mg mh h0 (fun j a b => (hgh j a b).2) h hr
        have kG' : sr_kp W p (o_upd mg k g) (k - 1) := fun e j a b c d => by rw [kG e j a b c d]; exact sr_pw_eq _ _ (fun u _ u2 => (y_upd_lt (by omega)).symm)
        have kH' : y_kp W p (o_upd mh k h) (k - 1) := fun e j a b c d => by rw [kH e j a b c d]; exact sr_pw_eq _ _ (fun u _ u2 => (y_upd_lt (by omega)).symm)
        have hgh' : ∀ j : Nat, 1 ≤ j → (j : Int) < k + 1 → o_upd mg k g j = y_sw p (V 42) (sr_pw p (o_upd mh k h)) j 1 j ∧ o_upd mh k h j = y_sw p (V 43) (sr_pw p (o_upd mg k g)) j 1 j := fun j j1 j2 => by
          rw [y_sw_upd j1 (by omega), y_sw_upd j1 (by omega)]
          by_cases z : (j : Int) = k
          · rw [z, y_upd_at, y_upd_at, eg, eh, ← z, show (j : Int).toNat = j by omega]
            exact ⟨rfl, rfl⟩
          · rw [y_upd_lt (by omega), y_upd_lt (by omega)]
            exact hgh j j1 (by omega)
        have nx := fun x7 x9 (X : am_V) (x1 : ∀ a, a ≠ 65 → a ≠ 76 → X a = W a) (x2 : ∀ j, 0 ≤ j → j < 64 → X 65 j = W 65 j ∧ X 76 j = W 76 j) => ih (k + 1) x7 x9 X (o_upd mg k g) (o_upd mh k h) (by omega) (by omega) (by omega) (fun a z1 z2 => by rw [x1 a z1 z2, w1 a z1 z2]) (fun j z1 z2 => by rw [(x2 j z1 z2).1, (x2 j z1 z2).2]; exact w2 j z1 z2) (by rw [y_upd_lt (by omega)]; exact g0) (by rw [y_upd_lt (by omega)]; exact h0) hgh'
        rw [show k + 1 - 1 = k by omega] at nx
        clear hQ ih back hgh hgh' vr
        refine am_run 400 mt_C_multiply ok_C_multiply (fun K S hK hS => ?_)
        iterate 30 (all_goals (first
          | (refine And.intro (by omega) ?_)
          | (refine And.intro (fun hb => absurd hb (by omega)) (fun hb => ?_))
          | (refine And.intro (fun hb => ?_) (fun hb => absurd hb (by omega)))
          | (refine And.intro (fun hb => ?_) (fun hb => ?_))
          | (intro hb)
          | (conv => whnf)))
        refine hK (s_P_weighted75 (p := p) (R := sr_pw p mh) hp e75' (by omega) (Or.inr rfl) (fun s s1 s2 => by rw [e42]; exact hf1 s s1 (by omega)) (fun s s1 s2 => ⟨?_, rgs _ _ _⟩) ?_)
        · by_cases z : s = 1
          · rw [z]
            exact (pw0 W w2 mh (k - 1) (by omega) (by omega)).2
          · exact kH (s - 1) (k - 1) (by omega) (by omega) (by omega) (by omega)
        rw [e42, ← eg]
        iterate 30 (all_goals (first
          | (simp only [am_st2, am_st1, am_set, am_cut, am_get])
          | (refine And.intro (by omega) ?_)
          | (refine And.intro (fun hb => absurd hb (by omega)) (fun hb => ?_))
          | (refine And.intro (fun hb => ?_) (fun hb => absurd hb (by omega)))
          | (refine And.intro (fun hb => ?_) (fun hb => ?_))
          | (intro hb)
          | (conv => whnf)))
        refine hK (s_P_weighted64 (p := p) (R := sr_pw p mg) hp e64' (by omega) (Or.inr rfl) (fun s s1 s2 => by rw [e43]; exact hf2 s s1 (by omega)) (fun s s1 s2 => ⟨?_, rgs _ _ _⟩) ?_)
        · by_cases z : s = 1
          · rw [z]
            exact (pw0 W w2 mg (k - 1) (by omega) (by omega)).1
          · exact kG (s - 1) (k - 1) (by omega) (by omega) (by omega) (by omega)
        rw [e43, ← eh]
        iterate 30 (all_goals (first
          | (simp only [am_st2, am_st1, am_set, am_cut, am_get])
          | (refine And.intro (by omega) ?_)
          | (refine And.intro (fun hb => absurd hb (by omega)) (fun hb => ?_))
          | (refine And.intro (fun hb => ?_) (fun hb => absurd hb (by omega)))
          | (refine And.intro (fun hb => ?_) (fun hb => ?_))
          | (intro hb)
          | (conv => whnf)))
        refine hK (s_P_add64z (p := p) (m := o_upd mg k g) hp e64' (by omega) gr rG y_upd_at kG' (fun X x1 x2 x3 => ?_))
        have e75x : X 75 0 = p := by rw [x1 75 (by decide)]; exact e75'
        iterate 30 (all_goals (first
          | (simp only [am_st2, am_st1, am_set, am_cut, am_get])
          | (refine And.intro (by omega) ?_)
          | (refine And.intro (fun hb => absurd hb (by omega)) (fun hb => ?_))
          | (refine And.intro (fun hb => ?_) (fun hb => absurd hb (by omega)))
          | (refine And.intro (fun hb => ?_) (fun hb => ?_))
          | (intro hb)
          | (conv => whnf)))
        refine hK (s_P_add75z (p := p) (m := o_upd mh k h) hp e75x (by omega) hr rH y_upd_at (fun e j a b c d => by rw [x1 76 (by decide)]; exact kH' e j a b c d) (fun Y y1 y2 y3 => ?_))
        have nx := fun x7 x9 => nx x7 x9 Y (fun a z1 z2 => by rw [y1 a z2, x1 a z1]) (fun j z1 z2 => ⟨by rw [y1 65 (by decide), x2 j z1 z2], by rw [y2 j z1 z2, x1 76 (by decide)]⟩) (fun e j a b c d => by rw [y1 65 (by decide)]; exact x3 e j a b c d) y3
        iterate 30 (all_goals (first
          | (simp only [am_st2, am_st1, am_set, am_cut, am_get])
          | (refine And.intro (by omega) ?_)
          | (refine And.intro (fun hb => absurd hb (by omega)) (fun hb => ?_))
          | (refine And.intro (fun hb => ?_) (fun hb => absurd hb (by omega)))
          | (refine And.intro (fun hb => ?_) (fun hb => ?_))
          | (intro hb)
          | (conv => whnf)))
        exact hS (nx _ _)
  refine am_enter mt_C_multiply ok_C_multiply rfl ?_
  clear hQ back
  refine am_run 400 mt_C_multiply ok_C_multiply (fun K S hK hS => ?_)
  iterate 30 (all_goals (first
    | (refine And.intro (by omega) ?_)
    | (refine And.intro (fun hb => absurd hb (by omega)) (fun hb => ?_))
    | (refine And.intro (fun hb => ?_) (fun hb => absurd hb (by omega)))
    | (refine And.intro (fun hb => ?_) (fun hb => ?_))
    | (intro hb)
    | (conv => whnf)))
  refine hK (s_P_begin64 (fun X x1 x2 x3 => ?_))
  iterate 30 (all_goals (first
    | (refine And.intro (by omega) ?_)
    | (refine And.intro (fun hb => absurd hb (by omega)) (fun hb => ?_))
    | (refine And.intro (fun hb => ?_) (fun hb => absurd hb (by omega)))
    | (refine And.intro (fun hb => ?_) (fun hb => ?_))
    | (intro hb)
    | (conv => whnf)))
  refine hK (s_P_begin75 (fun Y y1 y2 y3 => ?_))
  have nx := fun x7 x9 => loop 10 1 x7 x9 Y (fun _ => 0) (fun _ => 0) (by omega) (by omega) (by omega) (fun a z1 z2 => by rw [y1 a z2, x1 a z1]) (fun j z1 z2 => ⟨by rw [y1 65 (by decide), x3 j (fun e a b => by omega)], by rw [y3 j (fun e a b => by omega), x1 76 (by decide)]⟩) rfl rfl (fun j a b => by omega) (fun e j a b c f => by
    rw [y1 65 (by decide), show 64 * e + j = 64 * e by omega, x2 e a b, show j = 0 by omega, show e.toNat = (e.toNat - 1) + 1 by omega, y_pw_zero rfl]) (fun e j a b c f => by
    rw [show 64 * e + j = 64 * e by omega, y2 e a b, show j = 0 by omega, show e.toNat = (e.toNat - 1) + 1 by omega, y_pw_zero rfl])
  clear loop
  iterate 30 (all_goals (first
    | (simp only [am_st2, am_st1, am_set, am_cut, am_get])
    | (refine And.intro (by omega) ?_)
    | (refine And.intro (fun hb => absurd hb (by omega)) (fun hb => ?_))
    | (refine And.intro (fun hb => ?_) (fun hb => absurd hb (by omega)))
    | (refine And.intro (fun hb => ?_) (fun hb => ?_))
    | (intro hb)
    | (conv => whnf)))
  exact hS (nx _ _)
