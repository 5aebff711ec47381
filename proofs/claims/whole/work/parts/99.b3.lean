/-! joinOf, the class -/
theorem m_kr_free {g : Int → Int} {n i j l r : Int} (h1 : i < j) (h2 : j < l) (h3 : l < r) (a : m_kr g n i l) (b : m_kr g n j r) : m_kr g n j l := by
  have a' : m_cl g n i l := a.elim (fun z => z.2) (fun z => by omega)
  have b' : m_cl g n j r := b.elim (fun z => z.2) (fun z => by omega)
  refine Or.inl ⟨by omega, fun u v u1 u2 v1 v2 v3 q => ?_⟩
  by_cases z : v ≤ j
  · exact b' u v u1 (by omega) v1 v2 (by omega) q
  · exact a' u v (by omega) u2 v1 v2 (by omega) q
theorem jm_free {A B M : Int → Int} {n : Int} (h : jm A B M n) : ¬ m_Cr M n := by
  rintro ⟨a, b, c, e, a1, a2, a3, a4, a5, q1, q2, q3⟩
  have x := (h a c a1 (by omega) (by omega) (by omega)).mp q3
  have y := (h b e (by omega) (by omega) (by omega) a5).mp q1
  have z := (h b c (by omega) (by omega) (by omega) (by omega)).mpr ⟨m_kr_free a2 a3 a4 x.1 y.1, m_kr_free a2 a3 a4 x.2 y.2⟩
  exact q2 (z.symm.trans q1)
theorem s_F_joinOf {G : am_G} {d : Nat} {sh : Int → Option Nat} {V : am_V} {T : Nat} {Q : Option AV → am_V → am_T → Nat → Prop} {a b : Nat} {n : Int} (ha : th_pl a) (hb : th_pl b) (hT : th_pl T) (haT : a + 2 ≤ T) (hbT : b + 2 ≤ T) (oka : th_ok V a n) (okb : th_ok V b n) (hFa : ¬ m_Cr (V (a + 1)) n) (hFb : ¬ m_Cr (V (b + 1)) n) (hQ : ∀ V' M T', T' = T + 8 → th_pl T' → (∀ x, x ≠ 30 → x < T → V' x = V x) → th_ok V' T' n → jm (V (a + 1)) (V (b + 1)) M n → (∀ i j, 0 ≤ i → i < n → 0 ≤ j → j < n → (V' (T' + 1) i = V' (T' + 1) j ↔ jn M n i j)) → Q (some (vR T')) V' (am_RF sh) (T' + 2)) : am_Calls G (d + 6) 42 [vR 3, vR a, vR b] V (am_RF sh) T Q := by
  have hn := oka.2.1
  have rgs : ∀ {W : am_V} {c : Nat}, th_ok W c n → ∀ i, 0 ≤ i → i < n → 0 ≤ W (c + 1) i ∧ W (c + 1) i < 10 := fun ok i z0 z1 => by have := m_rgs_lt ok.2.2.1 z0 z1; omega
  obtain ⟨T1, eT1⟩ : ∃ T1, T1 = T + 2 := ⟨_, rfl⟩
  obtain ⟨T2, eT2⟩ : ∃ T2, T2 = T1 + 2 := ⟨_, rfl⟩
  obtain ⟨T3, eT3⟩ : ∃ T3, T3 = T2 + 2 := ⟨_, rfl⟩
  obtain ⟨T4, eT4⟩ : ∃ T4, T4 = T3 + 2 := ⟨_, rfl⟩
  have hT1 : th_pl T1 := ⟨by have := hT.1; omega, by have := hT.2; have := hT.1; omega⟩
  have hT2 : th_pl T2 := ⟨by have := hT1.1; omega, by have := hT1.2; have := hT1.1; omega⟩
  have hT3 : th_pl T3 := ⟨by have := hT2.1; omega, by have := hT2.2; have := hT2.1; omega⟩
  have hT4 : th_pl T4 := ⟨by have := hT3.1; omega, by have := hT3.2; have := hT3.1; omega⟩
  have a_0 : 107 ≤ a := ha.1
  have a_l := th_lay ha
  have a_b := th_ble ha
  have a_q := th_beq ha
  have a_m := th_lay1 ha
  have a_c := th_ble1 ha
  have a_r := th_beq1 ha
  have a_R : am_RF sh a 2 = some (a + 1) := th_RF ha
  have a_z : Nat.beq (a + 1) 0 = false := rfl
  have a_3 : Nat.ble 3 (a + 1) = true := th_ble3 ha
  have a_i : ∀ r, am_isr 3 (vR a :: r) = true := th_isr ha
  have b_0 : 107 ≤ b := hb.1
  have b_l := th_lay hb
  have b_b := th_ble hb
  have b_q := th_beq hb
  have b_m := th_lay1 hb
  have b_c := th_ble1 hb
  have b_r := th_beq1 hb
  have b_R : am_RF sh b 2 = some (b + 1) := th_RF hb
  have b_z : Nat.beq (b + 1) 0 = false := rfl
  have b_3 : Nat.ble 3 (b + 1) = true := th_ble3 hb
  have b_i : ∀ r, am_isr 3 (vR b :: r) = true := th_isr hb
  have T_0 : 107 ≤ T := hT.1
  have T_l := th_lay hT
  have T_b := th_ble hT
  have T_q := th_beq hT
  have T_m := th_lay1 hT
  have T_c := th_ble1 hT
  have T_r := th_beq1 hT
  have T_R : am_RF sh T 2 = some (T + 1) := th_RF hT
  have T_z : Nat.beq (T + 1) 0 = false := rfl
  have T_3 : Nat.ble 3 (T + 1) = true := th_ble3 hT
  have T_i : ∀ r, am_isr 3 (vR T :: r) = true := th_isr hT
  have T1_0 : 107 ≤ T1 := hT1.1
  have T1_l := th_lay hT1
  have T1_b := th_ble hT1
  have T1_q := th_beq hT1
  have T1_m := th_lay1 hT1
  have T1_c := th_ble1 hT1
  have T1_r := th_beq1 hT1
  have T1_R : am_RF sh T1 2 = some (T1 + 1) := th_RF hT1
  have T1_z : Nat.beq (T1 + 1) 0 = false := rfl
  have T1_3 : Nat.ble 3 (T1 + 1) = true := th_ble3 hT1
  have T1_i : ∀ r, am_isr 3 (vR T1 :: r) = true := th_isr hT1
  have T2_0 : 107 ≤ T2 := hT2.1
  have T2_l := th_lay hT2
  have T2_b := th_ble hT2
  have T2_q := th_beq hT2
  have T2_m := th_lay1 hT2
  have T2_c := th_ble1 hT2
  have T2_r := th_beq1 hT2
  have T2_R : am_RF sh T2 2 = some (T2 + 1) := th_RF hT2
  have T2_z : Nat.beq (T2 + 1) 0 = false := rfl
  have T2_3 : Nat.ble 3 (T2 + 1) = true := th_ble3 hT2
  have T2_i : ∀ r, am_isr 3 (vR T2 :: r) = true := th_isr hT2
  have T3_0 : 107 ≤ T3 := hT3.1
  have T3_l := th_lay hT3
  have T3_b := th_ble hT3
  have T3_q := th_beq hT3
  have T3_m := th_lay1 hT3
  have T3_c := th_ble1 hT3
  have T3_r := th_beq1 hT3
  have T3_R : am_RF sh T3 2 = some (T3 + 1) := th_RF hT3
  have T3_z : Nat.beq (T3 + 1) 0 = false := rfl
  have T3_3 : Nat.ble 3 (T3 + 1) = true := th_ble3 hT3
  have T3_i : ∀ r, am_isr 3 (vR T3 :: r) = true := th_isr hT3
  have T4_0 : 107 ≤ T4 := hT4.1
  have T4_l := th_lay hT4
  have T4_b := th_ble hT4
  have T4_q := th_beq hT4
  have T4_m := th_lay1 hT4
  have T4_c := th_ble1 hT4
  have T4_r := th_beq1 hT4
  have T4_R : am_RF sh T4 2 = some (T4 + 1) := th_RF hT4
  have T4_z : Nat.beq (T4 + 1) 0 = false := rfl
  have T4_3 : Nat.ble 3 (T4 + 1) = true := th_ble3 hT4
  have T4_i : ∀ r, am_isr 3 (vR T4 :: r) = true := th_isr hT4
  refine am_enter mt_F_joinOf ok_F_joinOf rfl ?_
  refine am_run 400 mt_F_joinOf ok_F_joinOf (fun K S hK hS => ?_)
  iterate 30 (all_goals (first
    | (refine And.intro (by omega) ?_)
    | (refine And.intro (by decide) ?_)
    | (refine And.intro (fun hb => absurd hb (by omega)) (fun hb => ?_))
    | (refine And.intro (fun hb => ?_) (fun hb => absurd hb (by omega)))
    | (refine And.intro (fun hb => ?_) (fun hb => ?_))
    | (intro hb)
    | (refine am_if_mk (a_i _) ?_)
    | (simp only [a_l, a_b, a_q, a_m, a_c, a_r, a_R, a_z, a_3])
    | (conv => whnf)))
  refine hK (s_F_complementOf (n := n) ha hn hT haT oka.1 (rgs oka) hFa (fun U u1 u2 u3 => ?_))
  rw [← eT1]
  have ub : U b = V b := u1 b (by omega) (by omega) (by omega)
  have ub1 : U (b + 1) = V (b + 1) := u1 (b + 1) (by omega) (by omega) (by omega)
  have okb1 : th_ok U b n := th_ok_eq okb ub ub1
  iterate 30 (all_goals (first
    | (refine And.intro (by omega) ?_)
    | (refine And.intro (by decide) ?_)
    | (refine And.intro (fun hb => absurd hb (by omega)) (fun hb => ?_))
    | (refine And.intro (fun hb => ?_) (fun hb => absurd hb (by omega)))
    | (refine And.intro (fun hb => ?_) (fun hb => ?_))
    | (intro hb)
    | (refine am_if_mk (b_i _) ?_)
    | (refine am_if_mk (T_i _) ?_)
    | (simp only [b_l, b_b, b_q, b_m, b_c, b_r, b_R, b_z, b_3, T_l, T_b, T_q, T_m, T_c, T_r, T_R, T_z, T_3])
    | (conv => whnf)))
  refine hK (s_F_complementOf (n := n) hb hn hT1 (by omega) okb1.1 (rgs okb1) (by rw [ub1]; exact hFb) (fun X x1 x2 x3 => ?_))
  rw [← eT2]
  have xT : X T = U T := x1 T (by omega) (by omega) (by omega)
  have xT1 : X (T + 1) = U (T + 1) := x1 (T + 1) (by omega) (by omega) (by omega)
  have okT : th_ok X T n := th_ok_eq u2 xT xT1
  iterate 30 (all_goals (first
    | (refine And.intro (by omega) ?_)
    | (refine And.intro (by decide) ?_)
    | (refine And.intro (fun hb => absurd hb (by omega)) (fun hb => ?_))
    | (refine And.intro (fun hb => ?_) (fun hb => absurd hb (by omega)))
    | (refine And.intro (fun hb => ?_) (fun hb => ?_))
    | (intro hb)
    | (refine am_if_mk (T_i _) ?_)
    | (refine am_if_mk (T1_i _) ?_)
    | (simp only [T_l, T_b, T_q, T_m, T_c, T_r, T_R, T_z, T_3, T1_l, T1_b, T1_q, T1_m, T1_c, T1_r, T1_R, T1_z, T1_3])
    | (conv => whnf)))
  refine hK (s_F_meetOf (n := n) hT hT1 hn hT2 (by omega) (by omega) okT.1 (rgs okT) (rgs x2) (fun Y y1 y2 y3 => ?_))
  rw [← eT3]
  have hM : jm (V (a + 1)) (V (b + 1)) (Y (T2 + 1)) n := fun i j i0 i1 j0 j1 => by
    rw [y3 i j i0 i1 j0 j1, xT1, u3 i j i0 i1 j0 j1, x3 i j i0 i1 j0 j1, ub1]
  iterate 30 (all_goals (first
    | (refine And.intro (by omega) ?_)
    | (refine And.intro (by decide) ?_)
    | (refine And.intro (fun hb => absurd hb (by omega)) (fun hb => ?_))
    | (refine And.intro (fun hb => ?_) (fun hb => absurd hb (by omega)))
    | (refine And.intro (fun hb => ?_) (fun hb => ?_))
    | (intro hb)
    | (refine am_if_mk (T2_i _) ?_)
    | (simp only [T2_l, T2_b, T2_q, T2_m, T2_c, T2_r, T2_R, T2_z, T2_3])
    | (conv => whnf)))
  refine hK (s_F_complementOf (n := n) hT2 hn hT3 (by omega) y2.1 (rgs y2) (jm_free hM) (fun Z z1 z2 z3 => ?_))
  rw [← eT4]
  have zT2 : Z T2 0 = n := by rw [z1 T2 (by omega) (by omega) (by omega)]; exact y2.1
  iterate 30 (all_goals (first
    | (refine And.intro (by omega) ?_)
    | (refine And.intro (by decide) ?_)
    | (refine And.intro (fun hb => absurd hb (by omega)) (fun hb => ?_))
    | (refine And.intro (fun hb => ?_) (fun hb => absurd hb (by omega)))
    | (refine And.intro (fun hb => ?_) (fun hb => ?_))
    | (intro hb)
    | (refine am_if_mk (T2_i _) ?_)
    | (refine am_if_mk (T3_i _) ?_)
    | (simp only [T2_l, T2_b, T2_q, T2_m, T2_c, T2_r, T2_R, T2_z, T2_3, T3_l, T3_b, T3_q, T3_m, T3_c, T3_r, T3_R, T3_z, T3_3, zT2])
    | (conv => whnf)))
  refine hK (s_F_turnedBy (n := n) hT3 hn hT4 (by omega) (by omega) z2.1 (rgs z2) (fun V' v1 v2 v3 => ?_))
  have q := hQ V' (Y (T2 + 1)) T4 (by omega) hT4 (fun x q1 q2 => by rw [v1 x q1 (by omega) (by omega), z1 x q1 (by omega) (by omega), y1 x q1 (by omega) (by omega), x1 x q1 (by omega) (by omega), u1 x q1 (by omega) (by omega)]) v2 hM (fun i j i0 i1 j0 j1 => by
    rw [v3 i j i0 i1 j0 j1, z3 _ _ (by split <;> omega) (by split <;> omega) (by split <;> omega) (by split <;> omega)]
    exact jn_turn ⟨i0, i1⟩ ⟨j0, j1⟩)
  iterate 30 (all_goals (first
    | (refine And.intro (by omega) ?_)
    | (refine And.intro (by decide) ?_)
    | (refine And.intro (fun hb => absurd hb (by omega)) (fun hb => ?_))
    | (refine And.intro (fun hb => ?_) (fun hb => absurd hb (by omega)))
    | (refine And.intro (fun hb => ?_) (fun hb => ?_))
    | (intro hb)
    | (refine am_if_mk (T4_i _) ?_)
    | (simp only [T4_l, T4_b, T4_q, T4_m, T4_c, T4_r, T4_R, T4_z, T4_3])
    | (conv => whnf)))
  exact q
