/-! the reference's handles -/
def hb_G (n : Int) (g M : Int → Int) : Prop := ∀ j, 0 ≤ j → j < n → (M j = -1 ∧ g j = 0) ∨ (M j ≠ -1 ∧ g j = 1)
theorem s_M_handlesBy {G : am_G} {d : Nat} {sh : Int → Option Nat} {V : am_V} {T : Nat} {Q : Option AV → am_V → am_T → Nat → Prop} {n r : Int} {P L : Int → Int} (hn : 1 ≤ n ∧ n ≤ 10) (hr : ∀ i, 0 ≤ i → i < n → 0 ≤ V 93 (0 + i) ∧ V 93 (0 + i) < 10) (hP : m_P (fun i => V 93 (0 + i)) n P) (o : ob_out (ob_C (fun i => V 93 (0 + i)) n) n L n r) (hb : 0 ≤ r ∧ r ≤ n / 2 + 1) (hQ : ∀ V', (∀ x, x ≠ 97 → V' x = V x) → Q (some (vI ((n / 2 + 1 - r) / 2))) V' (am_RF sh) T) : am_Calls G (d + 1) 115 [vR 86, vI 0, vI n] V (am_RF sh) T Q := by
  have hf := ob_D_fn hP
  refine am_enter mt_M_handlesBy ok_M_handlesBy rfl ?_
  have loopW : ∀ (k r1 : Int) (M0 : Int → Int), 0 ≤ k → k < n → M0 k = -1 → 0 ≤ r1 → ob_out (ob_D P n) n M0 k r1 → (∀ x6 x7 p W M1, (∀ x, x ≠ 97 → W x = V x) → hb_G n (W 97) M1 → ob_out (ob_D P n) n M1 (k + 1) (r1 + 1) → am_Sem G d 115 V T Q 25 [some (vR 86), some (vI 0), some (vI n), some (vI (r1 + 1)), some (vI (k + 1)), some (vI p), x6, x7] [] W (am_RF sh) T 0 0) → ∀ (jj : Nat) (p z : Int) (x6 x7 : Option AV) (W : am_V) (M : Int → Int), m_cg M (-1) n.toNat < jj → (∀ x, x ≠ 97 → W x = V x) → hb_G n (W 97) M → ob_in (ob_D P n) n M0 k r1 p z M → am_Sem G d 115 V T Q 53 [some (vR 86), some (vI 0), some (vI n), some (vI (r1 + 1)), some (vI k), some (vI p), x6, x7] [] W (am_RF sh) T 0 0 := by
    intro k r1 M0 hk0 hk1 hM0 hr1 oo done jj
    induction jj with
    | zero =>
      intro p z x6 x7 W M a1
      have := (m_cg_le M (-1) n.toNat).1
      omega
    | succ jj ih =>
      intro p z x6 x7 W M a1 w gM i
      have ip := i.1
      have gp := gM p ip.1 ip.2
      by_cases hm : M p = -1
      · have g0 : W 97 p = 0 := by omega
        obtain ⟨p1, p2, p3, p4⟩ := hP p ip.1 ip.2
        have c1 := m_cg_pos (g := M) ip.1 ip.2 hm
        have mk : ∃ M' : Int → Int, ∀ j, M' j = if j = p then r1 else M j := ⟨_, fun j => rfl⟩
        obtain ⟨M', eM⟩ := mk
        have cM := m_cg_up (g := M) (h := M') ip.1 hm (show r1 ≠ -1 by omega) eM n.toNat
        rw [if_pos (by omega)] at cM
        have st := ob_step hf hr1 i hm (show ob_D P n p (m_s n (P p)) from ⟨ip, rfl⟩) eM
        have nx := fun x6 x7 W' => ih (m_s n (P p)) p x6 x7 W' M' (by omega)
        clear ih
        have loopP : ∀ (jj : Nat) (j : Int) (W' : am_V), 0 ≤ j → j ≤ n → n - j < jj → W' = am_up W 97 p 1 → am_Sem G d 115 V T Q 78 [some (vR 86), some (vI 0), some (vI n), some (vI (r1 + 1)), some (vI k), some (vI p), some (vI (if P p < j then P p else p)), some (vI j)] [] W' (am_RF sh) T 0 0 := by
          intro jj
          induction jj with
          | zero => intro j W' b1 b2 b3; omega
          | succ jj ihp =>
            intro j W' b1 b2 b3 eW
            by_cases hj : j = n
            · rw [if_pos (by omega)]
              have em : (P p + 1) % n = m_s n (P p) := by
                unfold m_s
                by_cases q : P p + 1 < n
                · rw [if_pos q]; exact Int.emod_eq_of_lt (by omega) q
                · rw [if_neg q, show P p + 1 = n by omega]; exact Int.emod_self
              have nx' := fun x6 x7 => nx x6 x7 W' (fun x hx => by rw [eW, am_up_ne hx, w x hx]) (fun j j0 j1 => by
                rw [eW, am_up_at, eM j]
                by_cases q : j = p
                · rw [if_pos q, if_pos q]; exact Or.inr ⟨by omega, rfl⟩
                · rw [if_neg q, if_neg q]; exact gM j j0 j1) st
              clear nx ihp i gM st oo done
              refine am_run 400 mt_M_handlesBy ok_M_handlesBy (fun K S hK hS => ?_)
              iterate 40 (all_goals (first
                | (refine And.intro (by omega) ?_)
                | (refine And.intro (by decide) ?_)
                | (refine And.intro (fun hb => absurd hb (by omega)) (fun hb => ?_))
                | (refine And.intro (fun hb => ?_) (fun hb => absurd hb (by omega)))
                | (refine And.intro (fun hb => ?_) (fun hb => ?_))
                | (intro hb)
                | (simp only [em])
                | (conv => whnf)))
              exact hS (nx' _ _)
            · have ihp := ihp (j + 1) W' (by omega) (by omega) (by omega) eW
              have e1 : W' 93 (0 + j) = V 93 (0 + j) := by rw [eW, am_up_ne (by decide), w 93 (by decide)]
              have e2 : W' 93 (0 + p) = V 93 (0 + p) := by rw [eW, am_up_ne (by decide), w 93 (by decide)]
              have f1 := hr j b1 (by omega)
              have f2 := hr p ip.1 ip.2
              have k1 : j = P p → j ≠ p ∧ V 93 (0 + j) = V 93 (0 + p) := fun q => by rw [q]; exact ⟨p2, p3⟩
              have k2 : j ≠ p → V 93 (0 + j) = V 93 (0 + p) → j = P p := fun q1 q2 => p4 j b1 (by omega) q1 q2
              clear nx i gM st oo done hP o hQ hf
              by_cases q : j = P p
              · obtain ⟨z1, z2⟩ := k1 q
                rw [if_pos (by omega), ← q] at ihp
                rw [if_neg (by omega)]
                clear k1 k2 p3 p4
                refine am_run 400 mt_M_handlesBy ok_M_handlesBy (fun K S hK hS => ?_)
                iterate 40 (all_goals (first
                  | (refine And.intro (by omega) ?_)
                  | (refine And.intro (by decide) ?_)
                  | (refine And.intro (fun hb => absurd hb (by omega)) (fun hb => ?_))
                  | (refine And.intro (fun hb => ?_) (fun hb => absurd hb (by omega)))
                  | (refine And.intro (fun hb => ?_) (fun hb => ?_))
                  | (intro hb)
                  | (simp only [e1, e2])
                  | (conv => whnf)))
                exact hS ihp
              · rw [show (if P p < j + 1 then P p else p) = (if P p < j then P p else p) by
                  by_cases z : P p < j
                  · rw [if_pos z, if_pos (by omega)]
                  · rw [if_neg z, if_neg (by omega)]] at ihp
                obtain ⟨Z, hZ⟩ : ∃ Z, Z = (if P p < j then P p else p) := ⟨_, rfl⟩
                rw [← hZ] at ihp ⊢
                clear hZ
                by_cases z : j = p
                · clear k1 k2 p3 p4
                  refine am_run 400 mt_M_handlesBy ok_M_handlesBy (fun K S hK hS => ?_)
                  iterate 40 (all_goals (first
                    | (refine And.intro (by omega) ?_)
                    | (refine And.intro (by decide) ?_)
                    | (refine And.intro (fun hb => absurd hb (by omega)) (fun hb => ?_))
                    | (refine And.intro (fun hb => ?_) (fun hb => absurd hb (by omega)))
                    | (refine And.intro (fun hb => ?_) (fun hb => ?_))
                    | (intro hb)
                    | (simp only [e1, e2])
                    | (conv => whnf)))
                  exact hS ihp
                · have z2 : V 93 (0 + j) ≠ V 93 (0 + p) := fun e => q (k2 z e)
                  clear k1 k2 p3 p4
                  refine am_run 400 mt_M_handlesBy ok_M_handlesBy (fun K S hK hS => ?_)
                  iterate 40 (all_goals (first
                    | (refine And.intro (by omega) ?_)
                    | (refine And.intro (by decide) ?_)
                    | (refine And.intro (fun hb => absurd hb (by omega)) (fun hb => ?_))
                    | (refine And.intro (fun hb => ?_) (fun hb => absurd hb (by omega)))
                    | (refine And.intro (fun hb => ?_) (fun hb => ?_))
                    | (intro hb)
                    | (simp only [e1, e2])
                    | (conv => whnf)))
                  exact hS ihp
        have stp := loopP (n + 1).toNat 0 (am_up W 97 p 1) (by omega) (by omega) (by omega) rfl
        rw [if_neg (by omega)] at stp
        clear loopP nx i gM st oo done hP o hQ hf
        refine am_run 400 mt_M_handlesBy ok_M_handlesBy (fun K S hK hS => ?_)
        iterate 40 (all_goals (first
          | (refine And.intro (by omega) ?_)
          | (refine And.intro (by decide) ?_)
          | (refine And.intro (fun hb => absurd hb (by omega)) (fun hb => ?_))
          | (refine And.intro (fun hb => ?_) (fun hb => absurd hb (by omega)))
          | (refine And.intro (fun hb => ?_) (fun hb => ?_))
          | (intro hb)
          | (simp only [g0])
          | (conv => whnf)))
        exact hS stp
      · have g1 : W 97 p = 1 := by omega
        have q := done x6 x7 p W M w gM (ob_end hf oo ⟨hk0, hk1⟩ hM0 i hm)
        clear ih i gM oo done hP o hQ hf
        refine am_run 400 mt_M_handlesBy ok_M_handlesBy (fun K S hK hS => ?_)
        iterate 40 (all_goals (first
          | (refine And.intro (by omega) ?_)
          | (refine And.intro (by decide) ?_)
          | (refine And.intro (fun hb => absurd hb (by omega)) (fun hb => ?_))
          | (refine And.intro (fun hb => ?_) (fun hb => absurd hb (by omega)))
          | (refine And.intro (fun hb => ?_) (fun hb => ?_))
          | (intro hb)
          | (simp only [g1])
          | (conv => whnf)))
        exact hS q
  have loopK : ∀ (jj : Nat) (k r1 : Int) (x5 x6 x7 : Option AV) (W : am_V) (M : Int → Int), 0 ≤ k → k ≤ n → n - k < jj → 0 ≤ r1 → (∀ x, x ≠ 97 → W x = V x) → hb_G n (W 97) M → ob_out (ob_D P n) n M k r1 → am_Sem G d 115 V T Q 25 [some (vR 86), some (vI 0), some (vI n), some (vI r1), some (vI k), x5, x6, x7] [] W (am_RF sh) T 0 0 := by
    intro jj
    induction jj with
    | zero => intro k r1 x5 x6 x7 W M a1 a2 a3; omega
    | succ jj ih =>
      intro k r1 x5 x6 x7 W M a1 a2 a3 a4 w gM oo
      by_cases hk : k = n
      · rw [hk] at oo
        have e := ob_two hP o oo
        subst e
        have q := hQ W w
        clear loopW ih hP o oo gM hQ hf
        refine am_run 400 mt_M_handlesBy ok_M_handlesBy (fun K S hK hS => ?_)
        iterate 40 (all_goals (first
          | (refine And.intro (by omega) ?_)
          | (refine And.intro (fun hb => absurd hb (by omega)) (fun hb => ?_))
          | (refine And.intro (fun hb => ?_) (fun hb => absurd hb (by omega)))
          | (refine And.intro (fun hb => ?_) (fun hb => ?_))
          | (intro hb)
          | (conv => whnf)))
        exact q
      · have gk := gM k a1 (by omega)
        by_cases hm : M k = -1
        · have g0 : W 97 k = 0 := by omega
          have lw := fun x6 x7 => loopW k r1 M a1 (by omega) hm a4 oo (fun x6 x7 p W M1 b1 b2 b3 => ih (k + 1) (r1 + 1) (some (vI p)) x6 x7 W M1 (by omega) (by omega) (by omega) (by omega) b1 b2 b3) (n + 1).toNat k k x6 x7 W M (by have := (m_cg_le M (-1) n.toNat).2; omega) w gM (ob_begin hf oo ⟨a1, by omega⟩)
          clear loopW ih hP o oo gM hQ hf
          refine am_run 400 mt_M_handlesBy ok_M_handlesBy (fun K S hK hS => ?_)
          iterate 40 (all_goals (first
            | (refine And.intro (by omega) ?_)
            | (refine And.intro (by decide) ?_)
            | (refine And.intro (fun hb => absurd hb (by omega)) (fun hb => ?_))
            | (refine And.intro (fun hb => ?_) (fun hb => absurd hb (by omega)))
            | (refine And.intro (fun hb => ?_) (fun hb => ?_))
            | (intro hb)
            | (simp only [g0])
            | (conv => whnf)))
          exact hS (lw _ _)
        · have g1 : W 97 k = 1 := by omega
          have nx := ih (k + 1) r1 (some (vI k)) x6 x7 W M (by omega) (by omega) (by omega) a4 w gM (ob_skip oo hm)
          have nx2 : am_Sem G d 115 V T Q 53 [some (vR 86), some (vI 0), some (vI n), some (vI (r1 + 0)), some (vI k), some (vI k), x6, x7] [] W (am_RF sh) T 0 0 := by
            rw [Int.add_zero]
            clear loopW ih hP o oo gM hQ hf
            refine am_run 400 mt_M_handlesBy ok_M_handlesBy (fun K S hK hS => ?_)
            iterate 40 (all_goals (first
              | (refine And.intro (by omega) ?_)
              | (refine And.intro (by decide) ?_)
              | (refine And.intro (fun hb => absurd hb (by omega)) (fun hb => ?_))
              | (refine And.intro (fun hb => ?_) (fun hb => absurd hb (by omega)))
              | (refine And.intro (fun hb => ?_) (fun hb => ?_))
              | (intro hb)
              | (simp only [g1])
              | (conv => whnf)))
            exact hS nx
          clear loopW ih hP o oo gM hQ hf
          refine am_run 400 mt_M_handlesBy ok_M_handlesBy (fun K S hK hS => ?_)
          iterate 40 (all_goals (first
            | (refine And.intro (by omega) ?_)
            | (refine And.intro (by decide) ?_)
            | (refine And.intro (fun hb => absurd hb (by omega)) (fun hb => ?_))
            | (refine And.intro (fun hb => ?_) (fun hb => absurd hb (by omega)))
            | (refine And.intro (fun hb => ?_) (fun hb => ?_))
            | (intro hb)
            | (simp only [g1])
            | (conv => whnf)))
          exact hS nx2
  have loop0 : ∀ (jj : Nat) (k : Int) (x4 x5 x6 x7 : Option AV) (W : am_V), 0 ≤ k → k ≤ n → n - k < jj → (∀ x, x ≠ 97 → W x = V x) → (∀ j, 0 ≤ j → j < k → W 97 j = 0) → am_Sem G d 115 V T Q 2 [some (vR 86), some (vI 0), some (vI n), some (vI k), x4, x5, x6, x7] [] W (am_RF sh) T 0 0 := by
    intro jj
    induction jj with
    | zero => intro k x4 x5 x6 x7 W a1 a2 a3; omega
    | succ jj ih =>
      intro k x4 x5 x6 x7 W a1 a2 a3 w w2
      by_cases hk : k = n
      · have q := fun x5 x6 x7 => loopK (n + 1).toNat 0 0 x5 x6 x7 W (fun _ => -1) (by omega) (by omega) (by omega) (by omega) w (fun j j0 j1 => Or.inl ⟨rfl, w2 j j0 (by omega)⟩) (ob_zero hf (fun x _ _ => rfl))
        clear loopW loopK ih hP o hQ hf w2
        refine am_run 400 mt_M_handlesBy ok_M_handlesBy (fun K S hK hS => ?_)
        iterate 40 (all_goals (first
          | (refine And.intro (by omega) ?_)
          | (refine And.intro (fun hb => absurd hb (by omega)) (fun hb => ?_))
          | (refine And.intro (fun hb => ?_) (fun hb => absurd hb (by omega)))
          | (refine And.intro (fun hb => ?_) (fun hb => ?_))
          | (intro hb)
          | (conv => whnf)))
        exact hS (q _ _ _)
      · have nx := fun x4 x5 x6 x7 => ih (k + 1) x4 x5 x6 x7 (am_up W 97 k 0) (by omega) (by omega) (by omega) (fun x hx => by rw [am_up_ne hx, w x hx]) (fun j j0 j1 => by
          rw [am_up_at]
          by_cases q : j = k
          · rw [if_pos q]
          · rw [if_neg q]; exact w2 j j0 (by omega))
        clear loopW loopK ih hP o hQ hf w2
        refine am_run 400 mt_M_handlesBy ok_M_handlesBy (fun K S hK hS => ?_)
        iterate 40 (all_goals (first
          | (refine And.intro (by omega) ?_)
          | (refine And.intro (fun hb => absurd hb (by omega)) (fun hb => ?_))
          | (refine And.intro (fun hb => ?_) (fun hb => absurd hb (by omega)))
          | (refine And.intro (fun hb => ?_) (fun hb => ?_))
          | (intro hb)
          | (conv => whnf)))
        exact hS (nx _ _ _ _)
  have st := fun x4 x5 x6 x7 => loop0 (n + 1).toNat 0 x4 x5 x6 x7 V (by omega) (by omega) (by omega) (fun _ _ => rfl) (fun j a b => absurd b (by omega))
  clear loopW loopK loop0 hP o hQ hf
  refine am_run 400 mt_M_handlesBy ok_M_handlesBy (fun K S hK hS => ?_)
  iterate 40 (all_goals (first
    | (refine And.intro (by omega) ?_)
    | (refine And.intro (fun hb => absurd hb (by omega)) (fun hb => ?_))
    | (refine And.intro (fun hb => ?_) (fun hb => absurd hb (by omega)))
    | (refine And.intro (fun hb => ?_) (fun hb => ?_))
    | (intro hb)
    | (conv => whnf)))
  exact hS (st _ _ _ _)
