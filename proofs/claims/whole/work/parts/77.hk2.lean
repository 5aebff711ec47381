/-! hankel: the class's determinant -/
theorem hk_step0 {p n c e : Int} {t : Int → Int → Int} (h0 : 0 ≤ c) (h1 : c < n) (h : hk_pv t n c (n - c).toNat c = n) : hk p n (n - c).toNat c t e = 0 := by
  obtain ⟨f, hf⟩ : ∃ f, (n - c).toNat = f + 1 := ⟨(n - c).toNat - 1, by omega⟩
  rw [hf] at h ⊢
  unfold hk
  rw [hf, if_pos h]
theorem hk_step1 {p n c e r : Int} {t : Int → Int → Int} (h0 : 0 ≤ c) (h1 : c < n) (hr : hk_pv t n c (n - c).toNat c = r) (h : r ≠ n) : hk p n (n - c).toNat c t e = hk p n (n - (c + 1)).toNat (c + 1) (hk_cl p (hk_t1 t n r c) n c (hk_iv p (hk_t1 t n r c c c))) (hk_d1 p r c e * hk_t1 t n r c c c % p) := by
  obtain ⟨f, hf⟩ : ∃ f, (n - c).toNat = f + 1 := ⟨(n - c).toNat - 1, by omega⟩
  rw [hf] at hr ⊢
  rw [show (n - (c + 1)).toNat = f by omega]
  conv => lhs; unfold hk
  rw [hf, hr, if_neg h]
theorem hk_next {p n c e r : Int} {t u x : Int → Int → Int} (h0 : 0 ≤ c) (h1 : c < n) (hr : hk_pv t n c (n - c).toNat c = r) (h : r ≠ n) (hu : hk_eq n u (hk_t1 t n r c)) (hx : hk_eq n x (hk_cl p u n c (hk_iv p (u c c)))) : hk p n (n - c).toNat c t e = hk p n (n - (c + 1)).toNat (c + 1) x (hk_d1 p r c e * u c c % p) := by
  rw [hk_step1 h0 h1 hr h, ← hu c c h0 h1 h0 h1]
  refine hk_congr _ (c + 1) _ _ _ (by omega) (by omega) (fun i j i0 i1 j0 j1 => ?_)
  rw [hx i j i0 i1 j0 j1]
  exact (hk_cl_eq hu h0 h1 i j i0 i1 j0 j1).symm
theorem hk_rg_t1 {p n r c : Int} {t u : Int → Int → Int} (hr : hk_rg p n t) (r0 : 0 ≤ r) (r1 : r < n) (c0 : 0 ≤ c) (c1 : c < n) (hu : hk_eq n u (hk_t1 t n r c)) : hk_rg p n u := by
  intro i j i0 i1 j0 j1
  rw [hu i j i0 i1 j0 j1]
  unfold hk_t1
  split
  · exact hr i j i0 i1 j0 j1
  · unfold hk_sw
    rw [if_pos j1]
    split
    · exact hr c j c0 c1 j0 j1
    · split
      · exact hr r j r0 r1 j0 j1
      · exact hr i j i0 i1 j0 j1
theorem hk_rg_cl {p n c v : Int} {u x : Int → Int → Int} (hp : 0 < p) (hr : hk_rg p n u) (hx : hk_eq n x (hk_cl p u n c v)) : hk_rg p n x := by
  intro i j i0 i1 j0 j1
  rw [hx i j i0 i1 j0 j1]
  unfold hk_cl
  split
  · exact m_modr hp
  · exact hr i j i0 i1 j0 j1
theorem s_F_determinant {G : am_G} {d : Nat} {sh : Int → Option Nat} {V : am_V} {T : Nat} {Q : Option AV → am_V → am_T → Nat → Prop} {p n : Int} (hp : 101 ≤ p ∧ p ≤ 2000000000) (e0 : V 3 0 = p) (hn : 1 ≤ n ∧ n ≤ 5) (hr : hk_rg p n (hk_F V)) (hQ : ∀ V', (∀ x, x ≠ 44 → V' x = V x) → Q (some (vJ (hk p n n.toNat 0 (hk_F V) 1))) V' (am_RF sh) T) : am_Calls G (d + 3) 62 [vR 3, vI n] V (am_RF sh) T Q := by
  refine am_enter mt_F_determinant ok_F_determinant rfl ?_
  obtain ⟨D, hD⟩ : ∃ D, D = hk p n n.toNat 0 (hk_F V) 1 := ⟨_, rfl⟩
  rw [← hD] at hQ
  have loop : ∀ (jj : Nat) (c e : Int) (x5 : Option AV) (W : am_V), 0 ≤ c → c ≤ n → n - c < jj → 0 ≤ e ∧ e < p → (∀ x, x ≠ 44 → W x = V x) → hk_rg p n (hk_F W) → hk p n (n - c).toNat c (hk_F W) e = D → am_Sem G (d + 2) 62 V T Q 5 [some (vR 3), some (vI n), some (vJ e), none, some (vI c), x5] [] W (am_RF sh) T 0 0 := by
    intro jj
    induction jj with
    | zero => intro c e x5 W a1 a2 a3; omega
    | succ jj ih =>
      intro c e x5 W a1 a2 a3 re w1 wr wd
      by_cases hcn : c = n
      · have ee : e = D := by
          rw [hcn, show (n - n).toNat = 0 by omega] at wd
          exact wd
        rw [ee]
        refine am_run 400 mt_F_determinant ok_F_determinant (fun K S hK hS => ?_)
        iterate 30 (all_goals (first
          | (simp only [am_st2, am_st1, am_set, am_cut, am_get])
          | (refine And.intro (by omega) ?_)
          | (refine And.intro (fun hb => absurd hb (by omega)) (fun hb => ?_))
          | (refine And.intro (fun hb => ?_) (fun hb => absurd hb (by omega)))
          | (refine And.intro (fun hb => ?_) (fun hb => ?_))
          | (intro hb)
          | (conv => whnf)))
        exact hQ W w1
      · have f3 : W 3 0 = p := by rw [w1 3 (by decide)]; exact e0
        have after : ∀ (U : am_V) (E : Int) (r : Int), 0 ≤ r → r < n → hk_pv (hk_F W) n c (n - c).toNat c = r → (∀ x, x ≠ 44 → U x = V x) → hk_eq n (hk_F U) (hk_t1 (hk_F W) n r c) → E = hk_d1 p r c e → 0 ≤ E ∧ E < p → ∀ (X : am_V) (x5 : Option AV), (∀ x, x ≠ 44 → X x = U x) → hk_eq n (hk_F X) (hk_cl p (hk_F U) n c (hk_iv p (hk_F U c c))) → am_Sem G (d + 2) 62 V T Q 5 [some (vR 3), some (vI n), some (vJ (E * hk_F U c c % p)), none, some (vI (c + 1)), x5] [] X (am_RF sh) T 0 0 := by
          intro U E r r0 r1 hr' u1 u2 hE rE X x5 x1 x2
          have ru := hk_rg_t1 wr r0 r1 a1 (by omega) u2
          refine ih (c + 1) _ x5 X (by omega) (by omega) (by omega) (m_modr (by omega)) (fun x hx => by rw [x1 x hx, u1 x hx]) (hk_rg_cl (by omega) ru x2) ?_
          rw [hE, ← hk_next a1 (by omega) hr' (by omega) u2 x2]
          exact wd
        have fin : ∀ (r : Int), c ≤ r → r < n → hk_pv (hk_F W) n c (n - c).toNat c = r → am_Sem G (d + 2) 62 V T Q 15 [some (vR 3), some (vI n), some (vJ e), none, some (vI c), some (vI r)] [] W (am_RF sh) T 0 0 ∨ True := fun _ _ _ _ => Or.inr trivial
        clear fin
        have piv : ∀ (j2 : Nat) (r : Int), c ≤ r → r ≤ n → n - r < j2 → hk_pv (hk_F W) n c (n - r).toNat r = hk_pv (hk_F W) n c (n - c).toNat c → am_Sem G (d + 2) 62 V T Q 15 [some (vR 3), some (vI n), some (vJ e), none, some (vI c), some (vI r)] [] W (am_RF sh) T 0 0 := by
          intro j2
          induction j2 with
          | zero => intro r b1 b2 b3; omega
          | succ j2 ih2 =>
            intro r b1 b2 b3 hpv
            by_cases hrn : r = n
            · have e1 : hk_pv (hk_F W) n c (n - c).toNat c = n := by
                rw [← hpv, hrn, show (n - n).toNat = 0 by omega]
                rfl
              have e2 : D = 0 := by rw [← wd]; exact hk_step0 a1 (by omega) e1
              rw [e2] at hQ
              clear ih ih2 after wd
              refine am_run 400 mt_F_determinant ok_F_determinant (fun K S hK hS => ?_)
              iterate 30 (all_goals (first
                | (simp only [am_st2, am_st1, am_set, am_cut, am_get])
                | (refine And.intro (by omega) ?_)
                | (refine And.intro (fun hb => absurd hb (by omega)) (fun hb => ?_))
                | (refine And.intro (fun hb => ?_) (fun hb => absurd hb (by omega)))
                | (refine And.intro (fun hb => ?_) (fun hb => ?_))
                | (intro hb)
                | (conv => whnf)))
              exact hQ W w1
            · obtain ⟨f, hf⟩ : ∃ f, (n - r).toNat = f + 1 := ⟨(n - r).toNat - 1, by omega⟩
              have rr := wr r c (by omega) (by omega) a1 (by omega)
              have frc : W 44 (64 * r + c) = hk_F W r c := rfl
              have hpv2 := hpv
              rw [hf, hk_pv] at hpv2
              by_cases hz : hk_F W r c = 0
              · rw [if_pos hz] at hpv2
                have nx := ih2 (r + 1) (by omega) (by omega) (by omega) (by rw [show (n - (r + 1)).toNat = f by omega]; exact hpv2)
                rw [hz] at frc
                clear ih ih2 after hpv2 hpv wd
                refine am_run 400 mt_F_determinant ok_F_determinant (fun K S hK hS => ?_)
                iterate 51 (all_goals (first
                  | (simp only [am_st2, am_st1, am_set, am_cut, am_get])
                  | (refine And.intro (by omega) ?_)
                  | (refine And.intro (fun hb => absurd hb (by omega)) (fun hb => ?_))
                  | (refine And.intro (fun hb => ?_) (fun hb => absurd hb (by omega)))
                  | (refine And.intro (fun hb => ?_) (fun hb => ?_))
                  | (intro hb)
                  | (simp only [frc])
                  | (conv => whnf)))
                exact hS nx
              · rw [if_neg hz] at hpv2
                have aft := fun U E => after U E r (by omega) (by omega) hpv2.symm
                obtain ⟨A, hA⟩ : ∃ A, A = hk_F W r c := ⟨_, rfl⟩
                rw [← hA] at frc hz rr
                by_cases hrc : r = c
                · have t1 : hk_eq n (hk_F W) (hk_t1 (hk_F W) n r c) := by
                    unfold hk_t1
                    rw [if_pos hrc]
                    exact fun _ _ _ _ _ _ => rfl
                  have aft2 := aft W e w1 t1 (by unfold hk_d1; rw [if_pos hrc]) re
                  have rcc := wr c c a1 (by omega) a1 (by omega)
                  have fcc : W 44 (64 * c + c) = hk_F W c c := rfl
                  have m1 := m_mulr re.1 re.2 rcc.1 rcc.2 hp.2
                  have em : Int.tmod (e * hk_F W c c) p = e * hk_F W c c % p := m_tm m1.1
                  have hcl := fun (Q' : Option AV → am_V → am_T → Nat → Prop) => s_F_clearColumnBelow (G := G) (d := d) (sh := sh) (V := W) (T := T) (Q := Q') hp f3 hn ⟨a1, by omega⟩ wr
                  have hB : A = hk_F W c c := by rw [hA, hrc]
                  rw [← hB] at fcc m1 em
                  have x1 : am_in64 (e * A) := by constructor <;> omega
                  clear hA
                  subst hrc
                  clear ih ih2 after aft hpv2 hpv wd
                  refine am_run 400 mt_F_determinant ok_F_determinant (fun K S hK hS => ?_)
                  iterate 51 (all_goals (first
                    | (simp only [am_st2, am_st1, am_set, am_cut, am_get])
                    | (refine And.intro (⟨by with_reducible assumption, by omega⟩) ?_)
                    | (refine And.intro (by omega) ?_)
                    | (refine And.intro (fun hb => absurd hb (by omega)) (fun hb => ?_))
                    | (refine And.intro (fun hb => ?_) (fun hb => absurd hb (by omega)))
                    | (refine And.intro (fun hb => ?_) (fun hb => ?_))
                    | (intro hb)
                    | (simp only [frc, fcc, f3, em])
                    | (conv => whnf)))
                  refine hK (hcl _ (fun X x1 x2 => ?_))
                  rw [hB]
                  iterate 30 (all_goals (first
                    | (simp only [am_st2, am_st1, am_set, am_cut, am_get])
                    | (refine And.intro (by omega) ?_)
                    | (refine And.intro (fun hb => absurd hb (by omega)) (fun hb => ?_))
                    | (refine And.intro (fun hb => ?_) (fun hb => absurd hb (by omega)))
                    | (refine And.intro (fun hb => ?_) (fun hb => ?_))
                    | (intro hb)
                    | (conv => whnf)))
                  exact hS (aft2 X _ x1 x2)
                · have hsw := fun (Q' : Option AV → am_V → am_T → Nat → Prop) => s_F_swapRows (G := G) (d := d + 1) (sh := sh) (V := W) (T := T) (Q := Q') hn ⟨by omega, by omega⟩ ⟨a1, by omega⟩ hrc
                  have hE : (p - e) % p = hk_d1 p r c e := by unfold hk_d1; rw [if_neg hrc]
                  have eE : Int.tmod (p - e) p = (p - e) % p := m_tm (by omega)
                  have rE : 0 ≤ (p - e) % p ∧ (p - e) % p < p := m_modr (by omega)
                  clear ih ih2 after hpv2 hpv wd
                  refine am_run 400 mt_F_determinant ok_F_determinant (fun K S hK hS => ?_)
                  iterate 51 (all_goals (first
                    | (simp only [am_st2, am_st1, am_set, am_cut, am_get])
                    | (refine And.intro (by omega) ?_)
                    | (refine And.intro (fun hb => absurd hb (by omega)) (fun hb => ?_))
                    | (refine And.intro (fun hb => ?_) (fun hb => absurd hb (by omega)))
                    | (refine And.intro (fun hb => ?_) (fun hb => ?_))
                    | (intro hb)
                    | (simp only [frc, f3])
                    | (conv => whnf)))
                  refine hK (hsw _ (fun U u1 u2 => ?_))
                  have u1' : ∀ x, x ≠ 44 → U x = V x := fun x hx => by rw [u1 x hx, w1 x hx]
                  have t1 : hk_eq n (hk_F U) (hk_t1 (hk_F W) n r c) := by
                    unfold hk_t1
                    rw [if_neg hrc]
                    exact u2
                  have ru := hk_rg_t1 wr (by omega) (by omega) a1 (by omega) t1
                  have g3 : U 3 0 = p := by rw [u1' 3 (by decide)]; exact e0
                  have aft2 := aft U ((p - e) % p) u1' t1 hE rE
                  have rcc := ru c c a1 (by omega) a1 (by omega)
                  have fcc : U 44 (64 * c + c) = hk_F U c c := rfl
                  have m1 := m_mulr rE.1 rE.2 rcc.1 rcc.2 hp.2
                  have em : Int.tmod ((p - e) % p * hk_F U c c) p = (p - e) % p * hk_F U c c % p := m_tm m1.1
                  have hcl := fun (Q' : Option AV → am_V → am_T → Nat → Prop) => s_F_clearColumnBelow (G := G) (d := d) (sh := sh) (V := U) (T := T) (Q := Q') hp g3 hn ⟨a1, by omega⟩ ru
                  obtain ⟨E, hEE⟩ : ∃ E, E = (p - e) % p := ⟨_, rfl⟩
                  obtain ⟨B, hB⟩ : ∃ B, B = hk_F U c c := ⟨_, rfl⟩
                  rw [← hEE] at aft2 eE rE m1 em
                  rw [← hB] at fcc m1 em
                  have x1 : am_in64 (E * B) := by constructor <;> omega
                  clear aft hE
                  iterate 51 (all_goals (first
                    | (simp only [am_st2, am_st1, am_set, am_cut, am_get])
                    | (refine And.intro (⟨by with_reducible assumption, by omega⟩) ?_)
                    | (refine And.intro (by omega) ?_)
                    | (refine And.intro (fun hb => absurd hb (by omega)) (fun hb => ?_))
                    | (refine And.intro (fun hb => ?_) (fun hb => absurd hb (by omega)))
                    | (refine And.intro (fun hb => ?_) (fun hb => ?_))
                    | (intro hb)
                    | (simp only [g3, fcc, eE, em])
                    | (conv => whnf)))
                  refine hK (hcl _ (fun X x1 x2 => ?_))
                  rw [hB]
                  iterate 30 (all_goals (first
                    | (simp only [am_st2, am_st1, am_set, am_cut, am_get])
                    | (refine And.intro (by omega) ?_)
                    | (refine And.intro (fun hb => absurd hb (by omega)) (fun hb => ?_))
                    | (refine And.intro (fun hb => ?_) (fun hb => absurd hb (by omega)))
                    | (refine And.intro (fun hb => ?_) (fun hb => ?_))
                    | (intro hb)
                    | (conv => whnf)))
                  exact hS (aft2 X _ x1 x2)
        have st := piv (n - c + 1).toNat c (by omega) (by omega) (by omega) rfl
        clear piv after ih
        refine am_run 400 mt_F_determinant ok_F_determinant (fun K S hK hS => ?_)
        iterate 30 (all_goals (first
          | (simp only [am_st2, am_st1, am_set, am_cut, am_get])
          | (refine And.intro (by omega) ?_)
          | (refine And.intro (fun hb => absurd hb (by omega)) (fun hb => ?_))
          | (refine And.intro (fun hb => ?_) (fun hb => absurd hb (by omega)))
          | (refine And.intro (fun hb => ?_) (fun hb => ?_))
          | (intro hb)
          | (conv => whnf)))
        exact hS st
  have st := fun x5 => loop (n + 1).toNat 0 1 x5 V (by omega) (by omega) (by omega) (by omega) (fun _ _ => rfl) hr (by rw [show (n - 0).toNat = n.toNat by omega]; exact hD.symm)
  clear loop
  refine am_run 400 mt_F_determinant ok_F_determinant (fun K S hK hS => ?_)
  iterate 30 (all_goals (first
    | (simp only [am_st2, am_st1, am_set, am_cut, am_get])
    | (refine And.intro (by omega) ?_)
    | (refine And.intro (fun hb => absurd hb (by omega)) (fun hb => ?_))
    | (refine And.intro (fun hb => ?_) (fun hb => absurd hb (by omega)))
    | (refine And.intro (fun hb => ?_) (fun hb => ?_))
    | (intro hb)
    | (conv => whnf)))
  exact hS (st _)
