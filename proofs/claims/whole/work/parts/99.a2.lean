/-! ask, both sides -/
theorem as_rng {kd w n b v : Int} {g : Int → Int} {l : List Int} (h : as_I kd w n b g l v) (hn : 1 ≤ n ∧ n ≤ 10) (hb : 0 ≤ b ∧ b ≤ 10) : (0 ≤ v ∧ v ≤ 200) ∧ l.length ≤ 5 ∧ ∀ i, i < l.length → 0 ≤ l.getD i 0 ∧ l.getD i 0 ≤ 100 := by
  have pr : ∀ r, 0 ≤ r → r ≤ n / 2 + 1 → 0 ≤ n * ((n / 2 + 1 - r) / 2) ∧ n * ((n / 2 + 1 - r) / 2) ≤ 60 := fun r a c => by
    have x0 : 0 ≤ (n / 2 + 1 - r) / 2 := by omega
    have x1 : (n / 2 + 1 - r) / 2 ≤ 6 := by omega
    refine ⟨Int.mul_nonneg (by omega) x0, ?_⟩
    have := Int.mul_le_mul hn.2 x1 x0 (by decide)
    omega
  have d1 : ∀ i, i < [10].length → 0 ≤ [(10 : Int)].getD i 0 ∧ [(10 : Int)].getD i 0 ≤ 100 := by decide
  have d2 : ∀ i, i < [11, 10].length → 0 ≤ [(11 : Int), 10].getD i 0 ∧ [(11 : Int), 10].getD i 0 ≤ 100 := by decide
  have d3 : ∀ i, i < [12, 11, 10].length → 0 ≤ [(12 : Int), 11, 10].getD i 0 ∧ [(12 : Int), 11, 10].getD i 0 ≤ 100 := by decide
  have d4 : ∀ i, i < [13, 11, 10, 21, 20].length → 0 ≤ [(13 : Int), 11, 10, 21, 20].getD i 0 ∧ [(13 : Int), 11, 10, 21, 20].getD i 0 ≤ 100 := by decide
  have d5 : ∀ i, i < [14, 10].length → 0 ≤ [(14 : Int), 10].getD i 0 ∧ [(14 : Int), 10].getD i 0 ≤ 100 := by decide
  have d6 : ∀ i, i < [20].length → 0 ≤ [(20 : Int)].getD i 0 ∧ [(20 : Int)].getD i 0 ≤ 100 := by decide
  have d7 : ∀ i, i < [21, 20].length → 0 ≤ [(21 : Int), 20].getD i 0 ∧ [(21 : Int), 20].getD i 0 ≤ 100 := by decide
  have d8 : ∀ i, i < [22, 20, 14, 10].length → 0 ≤ [(22 : Int), 20, 14, 10].getD i 0 ∧ [(22 : Int), 20, 14, 10].getD i 0 ≤ 100 := by decide
  rcases h with ⟨-, ⟨-, e, e2⟩ | ⟨-, e, e2⟩ | ⟨-, e, e2⟩ | ⟨-, e, e2⟩ | ⟨-, e, r, L, o, r0, r1, e2⟩⟩ | ⟨-, ⟨-, e, e2⟩ | ⟨-, e, e2⟩ | ⟨-, e, r, L, o, r0, r1, e2⟩⟩ <;> subst e
  · exact ⟨by omega, by decide, d1⟩
  · exact ⟨by omega, by decide, d2⟩
  · exact ⟨by omega, by decide, d3⟩
  · exact ⟨by omega, by decide, d4⟩
  · have := pr r r0 r1
    exact ⟨by omega, by decide, d5⟩
  · exact ⟨by omega, by decide, d6⟩
  · exact ⟨by omega, by decide, d7⟩
  · have := pr r r0 r1
    exact ⟨by omega, by decide, d8⟩
theorem II_tr {p : Int} {f0 : Int → Int} {sh : Int → Option Nat} {V V' : am_V} {T : Nat} (h : II V sh T p f0) (F : ∀ a, ns a → a ≠ 31 → a ≠ 95 → V' a = V a) (F3 : ∀ j, j ≠ 17 → j ≠ 8 → V' 3 j = V 3 j) (F86 : ∀ j, j ≠ 0 → j ≠ 1 → j ≠ 12 → V' 86 j = V 86 j) (F65 : V' 65 = V 65 ∧ V' 76 = V 76) (k : iv_tr V') (s : iv_st V') : II V' sh T p f0 := by
  obtain ⟨⟨h0, h1, h2, h3, h4, h5, h7, h8, h9⟩, -⟩ := h
  refine ⟨⟨by rw [F 0 (by decide) (by decide) (by decide)]; exact h0, iv_sh_eq h1 (F 13 (by decide) (by decide) (by decide)) (F 14 (by decide) (by decide) (by decide)) (F 87 (by decide) (by decide) (by decide)) (F 88 (by decide) (by decide) (by decide)), iv_it_eq h2 (F 4 (by decide) (by decide) (by decide)) (F 89 (by decide) (by decide) (by decide)), iv_tg_eq h3 (F 90 (by decide) (by decide) (by decide)) (F 91 (by decide) (by decide) (by decide)) (F 92 (by decide) (by decide) (by decide)) (fun a q _ => F a (by omega) (by omega) (by omega)) (Nat.le_refl _) h3.1, k, iv_se_eq h5 (F 41 (by decide) (by decide) (by decide)) (F 32 (by decide) (by decide) (by decide)) (F 98 (by decide) (by decide) (by decide)) (F 99 (by decide) (by decide) (by decide)), iv_p_eq h7 (F3 0 (by decide) (by decide)) (F86 2 (by decide) (by decide) (by decide)) (F 63 (by decide) (by decide) (by decide)) (F 64 (by decide) (by decide) (by decide)) (F 75 (by decide) (by decide) (by decide)), iv_k_eq h8 (F 1 (by decide) (by decide) (by decide)) (F 2 (by decide) (by decide) (by decide)) (F 96 (by decide) (by decide) (by decide)) (F 17 (by decide) (by decide) (by decide)) (fun j _ _ => by rw [F65.1, F65.2]; exact ⟨rfl, rfl⟩), iv_q_eq h9 (F 50 (by decide) (by decide) (by decide))⟩, s⟩
/-- the reference, asked -/
theorem s_M_ask {G : am_G} {d : Nat} {sh : Int → Option Nat} {V : am_V} {T : Nat} {Q : Option AV → am_V → am_T → Nat → Prop} {k w n b v : Int} {l : List Int} {g : Int → Int} (h0 : am_in32 k) (h1 : am_in32 w)
    (hB : ¬ ((0 ≤ k ∧ k < 10) ∧ (w = 0 ∨ w = 1)) → Q (some (vI (-1000001))) (am_up V 86 0 0) (am_RF sh) T)
    (hF : ((0 ≤ k ∧ k < 10) ∧ (w = 0 ∨ w = 1)) → V 90 k = -1 ∧ Q (some (vI (-1000011))) (am_up (am_up (am_up (am_up V 86 0 0) 86 12 0) 86 1 0) 86 1 1) (am_RF sh) T ∨ (rk V k n b ∧ (∀ j, 0 ≤ j → j < n → g j = V 92 (10 * k + j)) ∧ (V 90 k = 4 → m_prs g n) ∧ as_I (V 90 k) w n b g l v ∧ ∀ V', rT l (am_up (am_up (am_up V 86 0 0) 86 12 0) 86 1 0) V' → Q (some (vI v)) V' (am_RF sh) T)) : am_Calls G (d + 6) 107 [vR 86, vI k, vI w] V (am_RF sh) T Q := by
  refine am_enter mt_M_ask ok_M_ask rfl ?_
  refine am_run 400 mt_M_ask ok_M_ask (fun K S hK hS => ?_)
  iterate 30 (all_goals (first
    | (refine And.intro (by omega) ?_)
    | (refine And.intro (fun hb => absurd hb (by omega)) (fun hb => ?_))
    | (refine And.intro (fun hb => ?_) (fun hb => absurd hb (by omega)))
    | (refine And.intro (fun hb => ?_) (fun hb => ?_))
    | (intro hb)
    | (conv => whnf)))
  refine hK (s_M_isPlace h0 (fun r2 hr2 => ?_))
  by_cases hk : 0 ≤ k ∧ k < 10
  rotate_left
  · iterate 30 (all_goals (first
      | (refine And.intro (by omega) ?_)
      | (refine And.intro (fun hb => absurd hb (by omega)) (fun hb => ?_))
      | (refine And.intro (fun hb => ?_) (fun hb => absurd hb (by omega)))
      | (refine And.intro (fun hb => ?_) (fun hb => ?_))
      | (intro hb)
      | (conv => whnf)))
    exact hB (fun z => hk z.1)
  obtain rfl : r2 = 1 := by omega
  iterate 30 (all_goals (first
    | (refine And.intro (by omega) ?_)
    | (refine And.intro (fun hb => absurd hb (by omega)) (fun hb => ?_))
    | (refine And.intro (fun hb => ?_) (fun hb => absurd hb (by omega)))
    | (refine And.intro (fun hb => ?_) (fun hb => ?_))
    | (intro hb)
    | (conv => whnf)))
  refine hK (s_M_in (by omega) (by omega) (by omega) (fun r3 hr3 => ?_))
  by_cases hw2 : w = 0 ∨ w = 1
  rotate_left
  · iterate 30 (all_goals (first
      | (refine And.intro (by omega) ?_)
      | (refine And.intro (fun hb => absurd hb (by omega)) (fun hb => ?_))
      | (refine And.intro (fun hb => ?_) (fun hb => absurd hb (by omega)))
      | (refine And.intro (fun hb => ?_) (fun hb => ?_))
      | (intro hb)
      | (conv => whnf)))
    exact hB (fun z => hw2 z.2)
  obtain rfl : r3 = 1 := by omega
  have e90 : am_up (am_up (am_up V 86 0 0) 86 12 0) 86 1 0 90 = V 90 := by rw [am_up_ne (by decide), am_up_ne (by decide), am_up_ne (by decide)]
  have e91 : am_up (am_up (am_up V 86 0 0) 86 12 0) 86 1 0 91 = V 91 := by rw [am_up_ne (by decide), am_up_ne (by decide), am_up_ne (by decide)]
  have e92 : am_up (am_up (am_up V 86 0 0) 86 12 0) 86 1 0 92 = V 92 := by rw [am_up_ne (by decide), am_up_ne (by decide), am_up_ne (by decide)]
  have e12 : am_up (am_up (am_up V 86 0 0) 86 12 0) 86 1 0 86 12 = 0 := by rw [am_up_at, if_neg (by decide), am_up_same]
  rcases hF ⟨hk, hw2⟩ with ⟨f1, f2⟩ | ⟨f1, f2, f3, f4, f5⟩
  · clear hF hB
    have e90k : am_up (am_up (am_up V 86 0 0) 86 12 0) 86 1 0 90 k = -1 := by rw [e90]; exact f1
    iterate 30 (all_goals (first
      | (refine And.intro (by omega) ?_)
      | (refine And.intro (by decide) ?_)
      | (refine And.intro (fun hb => absurd hb (by omega)) (fun hb => ?_))
      | (refine And.intro (fun hb => ?_) (fun hb => absurd hb (by omega)))
      | (refine And.intro (fun hb => ?_) (fun hb => ?_))
      | (intro hb)
      | (simp only [e90k])
      | (conv => whnf)))
    refine hK (s_M_found ?_)
    iterate 30 (all_goals (first
      | (refine And.intro (by omega) ?_)
      | (refine And.intro (fun hb => absurd hb (by omega)) (fun hb => ?_))
      | (refine And.intro (fun hb => ?_) (fun hb => absurd hb (by omega)))
      | (refine And.intro (fun hb => ?_) (fun hb => ?_))
      | (intro hb)
      | (conv => whnf)))
    exact f2
  · clear hF hB
    have kd := f1.2.2.2.2.2
    have e90k : am_up (am_up (am_up V 86 0 0) 86 12 0) 86 1 0 90 k = V 90 k := by rw [e90]
    obtain ⟨U, hU⟩ : ∃ U, U = am_up (am_up (am_up V 86 0 0) 86 12 0) 86 1 0 := ⟨_, rfl⟩
    have f1' : rk U k n b := by rw [hU]; exact rk_eq f1 e90 e91 e92
    have e90' : U 90 = V 90 := by rw [hU]; exact e90
    have e92' : U 92 = V 92 := by rw [hU]; exact e92
    have e12' : U 86 12 = 0 := by rw [hU]; exact e12
    have e90k' : U 90 k = V 90 k := by rw [e90']
    rw [← hU] at f5
    rcases hw2 with e | e
    · subst e
      iterate 30 (all_goals (first
        | (refine And.intro (by omega) ?_)
        | (refine And.intro (by decide) ?_)
        | (refine And.intro (fun hb => absurd hb (by omega)) (fun hb => ?_))
        | (refine And.intro (fun hb => ?_) (fun hb => absurd hb (by omega)))
        | (refine And.intro (fun hb => ?_) (fun hb => ?_))
        | (intro hb)
        | (simp only [e90k])
        | (conv => whnf)))
      rw [← hU]
      refine hK (s_M_sized (g := g) (l := l) (v := v) f1' (by rw [e92']; exact f2) (by rw [e90']; exact f3) (by omega) (by rw [e90']; exact f4) (fun Y y => ?_))
      have q := f5 Y y
      iterate 30 (all_goals (first
        | (refine And.intro (by omega) ?_)
        | (refine And.intro (fun hb => absurd hb (by omega)) (fun hb => ?_))
        | (refine And.intro (fun hb => ?_) (fun hb => absurd hb (by omega)))
        | (refine And.intro (fun hb => ?_) (fun hb => ?_))
        | (intro hb)
        | (conv => whnf)))
      exact q
    · subst e
      iterate 30 (all_goals (first
        | (refine And.intro (by omega) ?_)
        | (refine And.intro (by decide) ?_)
        | (refine And.intro (fun hb => absurd hb (by omega)) (fun hb => ?_))
        | (refine And.intro (fun hb => ?_) (fun hb => absurd hb (by omega)))
        | (refine And.intro (fun hb => ?_) (fun hb => ?_))
        | (intro hb)
        | (simp only [e90k])
        | (conv => whnf)))
      rw [← hU]
      refine hK (s_M_marked (g := g) (l := l) (v := v) f1' (by rw [e92']; exact f2) (by rw [e90']; exact f3) (by omega) (by rw [e90']; exact f4) (fun Y y => ?_))
      have q := f5 Y y
      iterate 30 (all_goals (first
        | (refine And.intro (by omega) ?_)
        | (refine And.intro (fun hb => absurd hb (by omega)) (fun hb => ?_))
        | (refine And.intro (fun hb => ?_) (fun hb => absurd hb (by omega)))
        | (refine And.intro (fun hb => ?_) (fun hb => ?_))
        | (intro hb)
        | (conv => whnf)))
      exact q
theorem pr_ask {G : am_G} {d : Nat} {sh : Int → Option Nat} {V : am_V} {T : Nat} {p : Int} {f0 : Int → Int} {k w : Int} (hI : II V sh T p f0) (h0 : am_in32 k) (h1 : am_in32 w) : am_Calls G (d + 9) 13 [vR 3, vI k, vI w] V (am_RF sh) T (pr_int G (d + 9) 107 [vR 86, vI k, vI w] p f0) := by
  have hJ := hI.1
  by_cases hc : (0 ≤ k ∧ k < 10) ∧ (w = 0 ∨ w = 1)
  · rcases hJ.2.2.2.1.2 k hc.1.1 hc.1.2 with ⟨e1, e2⟩ | ⟨a, n, e1, ha, haT, ok, x4, x5, x6⟩
    · refine am_enter mt_F_ask ok_F_ask rfl ?_
      refine am_run 400 mt_F_ask ok_F_ask (fun K S hK hS => ?_)
      iterate 30 (all_goals (first
        | (refine And.intro (by omega) ?_)
        | (refine And.intro (fun hb => absurd hb (by omega)) (fun hb => ?_))
        | (refine And.intro (fun hb => ?_) (fun hb => absurd hb (by omega)))
        | (refine And.intro (fun hb => ?_) (fun hb => ?_))
        | (intro hb)
        | (conv => whnf)))
      refine hK (s_F_noPlace h0 (fun r hr => ?_))
      iterate 50 (all_goals (first
        | (refine am_aN e1 ?_)
        | (refine And.intro (by omega) ?_)
        | (refine am_nN ?_)
        | (refine am_nS ?_)
        | (refine am_mN ?_)
        | (refine am_mS ?_)
        | (refine And.intro (fun hb => absurd hb (by omega)) (fun hb => ?_))
        | (refine And.intro (fun hb => ?_) (fun hb => absurd hb (by omega)))
        | (refine And.intro (fun hb => ?_) (fun hb => ?_))
        | (intro hb)
        | (conv => whnf)))
      refine hK (s_F_finding ?_)
      iterate 30 (all_goals (first
        | (refine And.intro (by omega) ?_)
        | (refine And.intro (fun hb => absurd hb (by omega)) (fun hb => ?_))
        | (refine And.intro (fun hb => ?_) (fun hb => absurd hb (by omega)))
        | (refine And.intro (fun hb => ?_) (fun hb => ?_))
        | (intro hb)
        | (conv => whnf)))
      refine pr_i (by omega) (by simp +decide [am_up_ne, am_up_at, reduceIte]; exact hJ.1) (s_M_ask (n := 1) (b := 1) (v := 1) (l := []) (g := fun _ => 0) h0 h1 (fun z => absurd hc z) (fun _ => Or.inl ⟨by simp +decide only [am_up_ne, am_up_at, reduceIte]; exact e2, ?_⟩))
      first | exact pr_k (II_tr hI (fun a q1 q2 q3 => by simp only [am_up_ne q1.1, am_up_ne q1.2.1]) (fun j q1 q2 => by simp +decide [am_up_ne, am_up_at, reduceIte, q1, q2]) (fun j q1 q2 q3 => by simp +decide [am_up_ne, am_up_at, reduceIte, q1, q2, q3]) (by simp +decide [am_up_ne, am_up_at, reduceIte]) (by unfold iv_tr; simp +decide [am_up_ne, am_up_at, reduceIte]; intro j a b; omega) (by unfold iv_st; simp +decide [am_up_ne, am_up_at, reduceIte])) | exact pr_k2 (II_tr hI (fun a q1 q2 q3 => by simp only [am_up_ne q1.1, am_up_ne q1.2.1]) (fun j q1 q2 => by simp +decide [am_up_ne, am_up_at, reduceIte, q1, q2]) (fun j q1 q2 q3 => by simp +decide [am_up_ne, am_up_at, reduceIte, q1, q2, q3]) (by simp +decide [am_up_ne, am_up_at, reduceIte]) (by unfold iv_tr; simp +decide [am_up_ne, am_up_at, reduceIte]; intro j a b; omega) (by unfold iv_st; simp +decide [am_up_ne, am_up_at, reduceIte]))
    · have xk := m_kd_rng ok.2.2.2.2.2
      have xn := ok.2.1
      have hnb := ok.2.2.2.1
      have hnr : 0 ≤ V a 1 ∧ V a 1 ≤ 10 := by
        refine ⟨hnb.1, ?_⟩
        rcases hnb.2.2 with e | ⟨i, i1, i2, i3⟩
        · omega
        · have := m_rgs_lt ok.2.2.1 i1 i2
          omega
      have hrk : rk V k n (V a 1) := ⟨hc.1, x5, xn, fun j z0 z1 => by rw [x6 j z0 z1]; have := m_rgs_lt ok.2.2.1 z0 z1; omega, m_nb_eq hnb (fun i a b => (x6 i a b).symm), by omega⟩
      have a_0 : 107 ≤ a := ha.1
      have a_l := th_lay ha
      have a_b := th_ble ha
      have a_q := th_beq ha
      have a_m := th_lay1 ha
      have a_c := th_ble1 ha
      have a_r := th_beq1 ha
      have a_R : am_RF sh a 2 = some (a + 1) := th_RF ha
      have a_z : Nat.beq (a + 1) 0 = false := rfl
      have a_3 : Nat.ble 3 (a + 1) = true := th_ble3 ha
      have a_i : ∀ r, am_isr 3 (vR a :: r) = true := th_isr ha
      have a3 : a ≠ 3 := by omega
      have a13 : a + 1 ≠ 3 := by omega
      obtain ⟨V0, hV0⟩ : ∃ V0, V0 = am_up V 3 8 0 := ⟨_, rfl⟩
      have v0a : V0 a = V a := by rw [hV0, am_up_ne a3]
      have v0b : V0 (a + 1) = V (a + 1) := by rw [hV0, am_up_ne a13]
      have v08 : V0 3 8 = 0 := by rw [hV0, am_up_same]
      have fin : ∀ U l v, cT l V0 U → as_I (V a 4) w n (V a 1) (V (a + 1)) l v → pr_int G (d + 9) 107 [vR 86, vI k, vI w] p f0 (some (vI v)) (am_up U 3 17 0) (am_RF sh) T := fun U l v u hv => by
        have rg := as_rng hv xn hnr
        obtain ⟨u1, u2, u3, u4, u5⟩ := u
        have uV : ∀ x, x ≠ 3 → x ≠ 31 → x ≠ 30 → am_up U 3 17 0 x = V x := fun x z1 z2 z3 => by rw [am_up_ne z1, u4 x z1 z2 z3 z3, hV0, am_up_ne z1]
        have e90 := uV 90 (by decide) (by decide) (by decide)
        have e91 := uV 91 (by decide) (by decide) (by decide)
        have e92 := uV 92 (by decide) (by decide) (by decide)
        refine pr_i (by omega) (by rw [uV 0 (by decide) (by decide) (by decide)]; exact hJ.1) (s_M_ask (n := n) (b := V a 1) (v := v) (l := l) (g := V (a + 1)) h0 h1 (fun z => absurd hc z) (fun _ => Or.inr ⟨rk_eq hrk e90 e91 e92, by rw [e92]; exact fun j z0 z1 => (x6 j z0 z1).symm, by rw [e90, x4]; exact m_kd_prs ok.2.2.2.2.2, by rw [e90, x4]; exact hv, fun V' v' => ?_⟩))
        obtain ⟨y1, y2, y3, y4, y5⟩ := v'
        have y1' : V' 86 12 = l.length := by rw [y1, am_up_at, if_neg (by decide), am_up_same]; omega
        have y3' : ∀ i : Nat, i < l.length → V' 95 i = l.getD i 0 := fun i hi => by
          have := y3 i hi
          rw [am_up_at, if_neg (by decide), am_up_same, Int.zero_add] at this
          exact this
        have z3 : ∀ j, V' 3 j = am_up U 3 17 0 3 j := fun j => by rw [y4 3 (by decide) (by decide) (by decide) (by decide), am_up_ne (by decide), am_up_ne (by decide), am_up_ne (by decide)]
        have z38 : V' 3 8 = l.length := by rw [z3, am_up_at, if_neg (by decide), u1, v08]; omega
        have z31 : V' 31 = U 31 := by rw [y4 31 (by decide) (by decide) (by decide) (by decide), am_up_ne (by decide), am_up_ne (by decide), am_up_ne (by decide), am_up_ne (by decide)]
        have u3' : ∀ i : Nat, i < l.length → U 31 i = l.getD i 0 := fun i hi => by
          have := u3 i hi
          rw [v08, Int.zero_add] at this
          exact this
        refine pr_k (II_tr (V' := V') hI (fun a q1 q2 q3 => by rw [y4 a (by omega) (by omega) (by omega) (by omega), am_up_ne q1.2.1, am_up_ne q1.2.1, am_up_ne q1.2.1, uV a (by omega) (by omega) (by omega)]) (fun j q1 q2 => by rw [z3, am_up_at, if_neg q1, u5 j q2, hV0, am_up_at, if_neg q2]) (fun j q1 q2 q3 => by rw [y5 j q3, am_up_at, if_neg q2, am_up_at, if_neg q3, am_up_at, if_neg q1, uV 86 (by decide) (by decide) (by decide)]) (by rw [y4 65 (by decide) (by decide) (by decide) (by decide), am_up_ne (by decide), am_up_ne (by decide), am_up_ne (by decide), uV 65 (by decide) (by decide) (by decide), y4 76 (by decide) (by decide) (by decide) (by decide), am_up_ne (by decide), am_up_ne (by decide), am_up_ne (by decide), uV 76 (by decide) (by decide) (by decide)]; exact ⟨rfl, rfl⟩) (by
          unfold iv_tr
          rw [z38, y1', z31]
          refine ⟨by omega, rfl, fun j a b => ?_⟩
          obtain ⟨i, rfl⟩ : ∃ i : Nat, (i : Int) = j := ⟨j.toNat, by omega⟩
          rw [u3' i (by omega), y3' i (by omega)]
          exact ⟨rg.2.2 i (by omega), rfl⟩) (by
          unfold iv_st
          rw [z3, am_up_same, y5 1 (by decide), am_up_same]
          omega))
      have ok0 : th_ok V0 a n := th_ok_eq ok v0a v0b
      refine am_enter mt_F_ask ok_F_ask rfl ?_
      refine am_run 400 mt_F_ask ok_F_ask (fun K S hK hS => ?_)
      iterate 30 (all_goals (first
        | (refine And.intro (by omega) ?_)
        | (refine And.intro (fun hb => absurd hb (by omega)) (fun hb => ?_))
        | (refine And.intro (fun hb => ?_) (fun hb => absurd hb (by omega)))
        | (refine And.intro (fun hb => ?_) (fun hb => ?_))
        | (intro hb)
        | (conv => whnf)))
      refine hK (s_F_noPlace h0 (fun r hr => ?_))
      rcases hc.2 with e | e
      · subst e
        iterate 50 (all_goals (first
          | (refine am_aS e1 ?_)
          | (refine And.intro (by omega) ?_)
          | (refine And.intro (by decide) ?_)
          | (refine am_nN ?_)
          | (refine am_nS ?_)
          | (refine am_mN ?_)
          | (refine am_mS ?_)
          | (refine And.intro (fun hb => absurd hb (by omega)) (fun hb => ?_))
          | (refine And.intro (fun hb => ?_) (fun hb => absurd hb (by omega)))
          | (refine And.intro (fun hb => ?_) (fun hb => ?_))
          | (intro hb)
          | (refine am_if_mk (a_i _) ?_)
          | (simp only [a_l, a_b, a_q, a_m, a_c, a_r, a_R, a_z, a_3])
          | (conv => whnf)))
        rw [← hV0]
        refine hK (s_F_sizeOf ha ok0 v08 (fun U l v u hv => ?_))
        rw [v0a, v0b] at hv
        have q := fin U l v u hv
        iterate 30 (all_goals (first
          | (refine And.intro (by omega) ?_)
          | (refine And.intro (fun hb => absurd hb (by omega)) (fun hb => ?_))
          | (refine And.intro (fun hb => ?_) (fun hb => absurd hb (by omega)))
          | (refine And.intro (fun hb => ?_) (fun hb => ?_))
          | (intro hb)
          | (conv => whnf)))
        refine hK (s_F_fine ?_)
        iterate 30 (all_goals (first
          | (refine And.intro (by omega) ?_)
          | (refine And.intro (fun hb => absurd hb (by omega)) (fun hb => ?_))
          | (refine And.intro (fun hb => ?_) (fun hb => absurd hb (by omega)))
          | (refine And.intro (fun hb => ?_) (fun hb => ?_))
          | (intro hb)
          | (conv => whnf)))
        exact q
      · subst e
        iterate 50 (all_goals (first
          | (refine am_aS e1 ?_)
          | (refine And.intro (by omega) ?_)
          | (refine And.intro (by decide) ?_)
          | (refine am_nN ?_)
          | (refine am_nS ?_)
          | (refine am_mN ?_)
          | (refine am_mS ?_)
          | (refine And.intro (fun hb => absurd hb (by omega)) (fun hb => ?_))
          | (refine And.intro (fun hb => ?_) (fun hb => absurd hb (by omega)))
          | (refine And.intro (fun hb => ?_) (fun hb => ?_))
          | (intro hb)
          | (refine am_if_mk (a_i _) ?_)
          | (simp only [a_l, a_b, a_q, a_m, a_c, a_r, a_R, a_z, a_3])
          | (conv => whnf)))
        rw [← hV0]
        refine hK (s_F_markOf ha ok0 v08 (fun U l v u hv => ?_))
        rw [v0a, v0b] at hv
        have q := fin U l v u hv
        iterate 30 (all_goals (first
          | (refine And.intro (by omega) ?_)
          | (refine And.intro (fun hb => absurd hb (by omega)) (fun hb => ?_))
          | (refine And.intro (fun hb => ?_) (fun hb => absurd hb (by omega)))
          | (refine And.intro (fun hb => ?_) (fun hb => ?_))
          | (intro hb)
          | (conv => whnf)))
        refine hK (s_F_fine ?_)
        iterate 30 (all_goals (first
          | (refine And.intro (by omega) ?_)
          | (refine And.intro (fun hb => absurd hb (by omega)) (fun hb => ?_))
          | (refine And.intro (fun hb => ?_) (fun hb => absurd hb (by omega)))
          | (refine And.intro (fun hb => ?_) (fun hb => ?_))
          | (intro hb)
          | (conv => whnf)))
        exact q
  · have bad : pr_int G (d + 9) 107 [vR 86, vI k, vI w] p f0 (some (vI (-1000001))) V (am_RF sh) T := pr_i (by omega) hJ.1 (s_M_ask (n := 1) (b := 1) (v := 1) (l := []) (g := fun _ => 0) h0 h1 (fun _ => pr_k (II_bad hI)) (fun z => absurd z hc))
    refine am_enter mt_F_ask ok_F_ask rfl ?_
    refine am_run 400 mt_F_ask ok_F_ask (fun K S hK hS => ?_)
    iterate 30 (all_goals (first
      | (refine And.intro (by omega) ?_)
      | (refine And.intro (fun hb => absurd hb (by omega)) (fun hb => ?_))
      | (refine And.intro (fun hb => ?_) (fun hb => absurd hb (by omega)))
      | (refine And.intro (fun hb => ?_) (fun hb => ?_))
      | (intro hb)
      | (conv => whnf)))
    refine hK (s_F_noPlace h0 (fun r hr => ?_))
    iterate 30 (all_goals (first
      | (refine And.intro (by omega) ?_)
      | (refine And.intro (fun hb => absurd hb (by omega)) (fun hb => ?_))
      | (refine And.intro (fun hb => ?_) (fun hb => absurd hb (by omega)))
      | (refine And.intro (fun hb => ?_) (fun hb => ?_))
      | (intro hb)
      | (conv => whnf)))
    all_goals exact bad
