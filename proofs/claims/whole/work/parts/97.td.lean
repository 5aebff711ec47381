/-! told 1 and 2 -/
def sm (g : Int → Int) (n : Nat) : Nat → Int
  | 0 => 0
  | b + 1 => sm g n b + m_cg g b n
theorem sm_S (g : Int → Int) (n : Nat) : ∀ b : Nat, sm g (n + 1) b = sm g n b + if 0 ≤ g n ∧ g n < b then 1 else 0
  | 0 => by rw [if_neg (by omega)]; rfl
  | b + 1 => by
    rw [sm, sm, sm_S g n b, m_cg]
    by_cases q : g n = b
    · rw [if_pos q, if_neg (by omega), if_pos (by omega)]; omega
    · rw [if_neg q]
      by_cases q2 : 0 ≤ g n ∧ g n < b
      · rw [if_pos q2, if_pos (by omega)]; omega
      · rw [if_neg q2, if_neg (by omega)]; omega
theorem sm_le (g : Int → Int) (b : Nat) : ∀ n : Nat, sm g n b ≤ n
  | 0 => by
    have : ∀ b, sm g 0 b = 0 := fun b => by
      induction b with
      | zero => rfl
      | succ b ih => rw [sm, ih]; rfl
    rw [this]; exact Int.le_refl _
  | n + 1 => by
    have := sm_le g b n
    rw [sm_S]
    split <;> omega
theorem sm_nn (g : Int → Int) (n : Nat) : ∀ b : Nat, 0 ≤ sm g n b
  | 0 => Int.le_refl _
  | b + 1 => by
    have := sm_nn g n b
    have := (m_cg_le g b n).1
    rw [sm]; omega
theorem pd_nat {f g : Int → Int} {n : Int} (hn : n ≤ 10) (hf : ∀ s, 0 ≤ s → s ≤ 10 → (f s).natAbs ≤ 4 ^ s.toNat) : ∀ b, (pd f g n b).natAbs ≤ 4 ^ (sm g n.toNat b).toNat
  | 0 => by show (1 : Int).natAbs ≤ 4 ^ (0 : Int).toNat; decide
  | b + 1 => by
    have h1 := pd_nat (g := g) hn hf b
    have h2 := m_cg_le g b n.toNat
    have h3 := hf (m_cg g b n.toNat) h2.1 (by omega)
    have h4 := sm_nn g n.toNat b
    rw [pd, Int.natAbs_mul, sm, Int.toNat_add h4 h2.1, Nat.pow_add]
    exact Nat.mul_le_mul h1 h3
theorem pd_in {f g : Int → Int} {n : Int} (hn : 0 ≤ n ∧ n ≤ 10) (hf : ∀ s, 0 ≤ s → s ≤ 10 → (f s).natAbs ≤ 4 ^ s.toNat) (b : Nat) : -1048576 ≤ pd f g n b ∧ pd f g n b ≤ 1048576 := by
  have h1 := pd_nat (g := g) hn.2 hf b
  have h2 := sm_le g b n.toNat
  have h3 : (4 : Nat) ^ (sm g n.toNat b).toNat ≤ 4 ^ 10 := Nat.pow_le_pow_right (by decide) (by omega)
  have h4 : (4 : Nat) ^ 10 = 1048576 := by decide
  omega
theorem k_cat_b0 : ∀ s : Fin 11, (k_cat ((s : Nat) : Int)).natAbs ≤ 4 ^ (s : Nat) ∧ (k_wt ((s : Nat) : Int)).natAbs ≤ 4 ^ (s : Nat) := by decide +kernel
theorem k_cat_b (s : Int) (h0 : 0 ≤ s) (h1 : s ≤ 10) : (k_cat s).natAbs ≤ 4 ^ s.toNat ∧ (k_wt s).natAbs ≤ 4 ^ s.toNat := by
  have := k_cat_b0 ⟨s.toNat, by omega⟩
  rw [show (((⟨s.toNat, by omega⟩ : Fin 11) : Nat) : Int) = s from Int.toNat_of_nonneg h0] at this
  exact this
theorem s_M_told12 {G : am_G} {d : Nat} {sh : Int → Option Nat} {V : am_V} {T : Nat} {Q : Option AV → am_V → am_T → Nat → Prop} {k w n : Int} (h0 : am_in32 k) (h1 : am_in32 w) (hw : w ≠ 0 ∧ w ≠ 3)
    (hB : ¬ ((0 ≤ k ∧ k < 10) ∧ (w = 1 ∨ w = 2)) → Q (some (vI (-1000001))) (am_up V 86 0 0) (am_RF sh) T)
    (hk0 : ((0 ≤ k ∧ k < 10) ∧ (w = 1 ∨ w = 2)) → -1 ≤ V 90 k ∧ V 90 k ≤ 4)
    (hF : ((0 ≤ k ∧ k < 10) ∧ (w = 1 ∨ w = 2)) → V 90 k < 0 → Q (some (vI (-1000011))) (am_up (am_up V 86 0 0) 86 1 1) (am_RF sh) T)
    (hX : ((0 ≤ k ∧ k < 10) ∧ (w = 1 ∨ w = 2)) → 0 ≤ V 90 k → ¬ (V 90 k = 1 ∨ V 90 k = 2 ∨ V 90 k = 3) → Q (some (vI (-1000013))) (am_up (am_up V 86 0 0) 86 1 3) (am_RF sh) T)
    (hn : ((0 ≤ k ∧ k < 10) ∧ (w = 1 ∨ w = 2)) → 0 ≤ V 90 k → V 91 k = n ∧ (1 ≤ n ∧ n ≤ 10) ∧ m_rgs (fun j => V 92 (10 * k + j)) n)
    (hcat : ∀ j, 0 ≤ j → j ≤ 10 → V 96 j = k_cat j)
    (hQ : ((0 ≤ k ∧ k < 10) ∧ (w = 1 ∨ w = 2)) → (V 90 k = 1 ∨ V 90 k = 2 ∨ V 90 k = 3) → ∀ (V' : am_V) (r : Int), m_nb (fun j => V 92 (10 * k + j)) n r → (∀ a, a ≠ 93 → V' a = am_up (am_up V 86 0 0) 86 1 0 a) → Q (some (vI (pd (if w = 2 then k_cat else k_wt) (fun j => V 92 (10 * k + j)) n r.toNat))) V' (am_RF sh) T) (hnb : ((0 ≤ k ∧ k < 10) ∧ (w = 1 ∨ w = 2)) → 0 ≤ V 90 k → ∃ r, m_nb (fun j => V 92 (10 * k + j)) n r) : am_Calls G (d + 6) 112 [vR 86, vI k, vI w] V (am_RF sh) T Q := by
  refine am_enter mt_M_told ok_M_told rfl ?_
  have e90 : am_up V 86 0 0 90 k = V 90 k := by rw [am_up_ne (by decide)]
  refine am_run 400 mt_M_told ok_M_told (fun K S hK hS => ?_)
  iterate 30 (all_goals (first
    | (refine And.intro (by omega) ?_)
    | (refine And.intro (fun hb => absurd hb (by omega)) (fun hb => ?_))
    | (refine And.intro (fun hb => ?_) (fun hb => absurd hb (by omega)))
    | (refine And.intro (fun hb => ?_) (fun hb => ?_))
    | (intro hb)
    | (conv => whnf)))
  refine hK (s_M_isPlace h0 (fun r2 hr2 => ?_))
  by_cases hk : 0 ≤ k ∧ k < 10
  rotate_left
  · iterate 30 (all_goals (first
      | (refine And.intro (by omega) ?_)
      | (refine And.intro (fun hb => absurd hb (by omega)) (fun hb => ?_))
      | (refine And.intro (fun hb => ?_) (fun hb => absurd hb (by omega)))
      | (refine And.intro (fun hb => ?_) (fun hb => ?_))
      | (intro hb)
      | (conv => whnf)))
    exact hB (fun z => hk z.1)
  obtain rfl : r2 = 1 := by omega
  iterate 30 (all_goals (first
    | (refine And.intro (by omega) ?_)
    | (refine And.intro (fun hb => absurd hb (by omega)) (fun hb => ?_))
    | (refine And.intro (fun hb => ?_) (fun hb => absurd hb (by omega)))
    | (refine And.intro (fun hb => ?_) (fun hb => ?_))
    | (intro hb)
    | (conv => whnf)))
  refine hK (s_M_in (by omega) (by omega) (by omega) (fun r3 hr3 => ?_))
  by_cases hw2 : w = 1 ∨ w = 2
  rotate_left
  · iterate 30 (all_goals (first
      | (refine And.intro (by omega) ?_)
      | (refine And.intro (fun hb => absurd hb (by omega)) (fun hb => ?_))
      | (refine And.intro (fun hb => ?_) (fun hb => absurd hb (by omega)))
      | (refine And.intro (fun hb => ?_) (fun hb => ?_))
      | (intro hb)
      | (conv => whnf)))
    exact hB (fun z => hw2 z.2)
  obtain rfl : r3 = 1 := by omega
  have hk0 := hk0 ⟨hk, hw2⟩
  iterate 30 (all_goals (first
    | (refine And.intro (by omega) ?_)
    | (refine And.intro (fun hb => absurd hb (by omega)) (fun hb => ?_))
    | (refine And.intro (fun hb => ?_) (fun hb => absurd hb (by omega)))
    | (refine And.intro (fun hb => ?_) (fun hb => ?_))
    | (intro hb)
    | (conv => whnf)))
  refine hK (s_M_asked hk (by rw [e90]; omega) (by omega) (fun r4 hr4 => ?_))
  rw [e90] at hr4
  by_cases hk1 : V 90 k < 0
  · obtain rfl : r4 = 1 := by omega
    iterate 30 (all_goals (first
      | (refine And.intro (by omega) ?_)
      | (refine And.intro (fun hb => absurd hb (by omega)) (fun hb => ?_))
      | (refine And.intro (fun hb => ?_) (fun hb => absurd hb (by omega)))
      | (refine And.intro (fun hb => ?_) (fun hb => ?_))
      | (intro hb)
      | (conv => whnf)))
    exact hK (s_M_found (hF ⟨hk, hw2⟩ hk1))
  by_cases hk2 : V 90 k = 1 ∨ V 90 k = 2 ∨ V 90 k = 3
  rotate_left
  · obtain rfl : r4 = 3 := by omega
    iterate 30 (all_goals (first
      | (refine And.intro (by omega) ?_)
      | (refine And.intro (fun hb => absurd hb (by omega)) (fun hb => ?_))
      | (refine And.intro (fun hb => ?_) (fun hb => absurd hb (by omega)))
      | (refine And.intro (fun hb => ?_) (fun hb => ?_))
      | (intro hb)
      | (conv => whnf)))
    exact hK (s_M_found (hX ⟨hk, hw2⟩ (by omega) hk2))
  obtain rfl : r4 = 0 := by omega
  obtain ⟨n1, n2, n3⟩ := hn ⟨hk, hw2⟩ (by omega)
  obtain ⟨r, hr⟩ := hnb ⟨hk, hw2⟩ (by omega)
  have e91 : am_up (am_up V 86 0 0) 86 1 0 91 k = n := by rw [am_up_ne (by decide), am_up_ne (by decide)]; exact n1
  iterate 30 (all_goals (first
    | (refine And.intro (by omega) ?_)
    | (refine And.intro (by decide) ?_)
    | (refine And.intro (fun hb => absurd hb (by omega)) (fun hb => ?_))
    | (refine And.intro (fun hb => ?_) (fun hb => absurd hb (by omega)))
    | (refine And.intro (fun hb => ?_) (fun hb => ?_))
    | (intro hb)
    | (simp only [e91])
    | (conv => whnf)))
  refine hK (s_M_load (n := n) hk (by omega) e91 (by omega) (fun W w1 w2 w3 => ?_))
  have w2' : ∀ j, 0 ≤ j → j < n → V 92 (10 * k + j) = W 93 (0 + j) := fun j j0 j1 => by rw [w2 j j0 j1, am_up_ne (by decide), am_up_ne (by decide)]
  have q := hQ ⟨hk, hw2⟩ hk2 W r hr w1
  rw [pd_eq w2'] at q
  have rg := m_rgs_eq n3 w2'
  have nb := m_nb_eq hr w2'
  have ct : ∀ j, 0 ≤ j → j ≤ 10 → W 96 j = k_cat j := fun j a b => by rw [w1 96 (by decide), am_up_ne (by decide), am_up_ne (by decide)]; exact hcat j a b
  clear hQ hB hF hX hn hnb hr n3 w2 w3
  rcases hw2 with e | e
  · subst e
    rw [if_neg (by decide)] at q
    iterate 30 (all_goals (first
      | (refine And.intro (by omega) ?_)
      | (refine And.intro (fun hb => absurd hb (by omega)) (fun hb => ?_))
      | (refine And.intro (fun hb => ?_) (fun hb => absurd hb (by omega)))
      | (refine And.intro (fun hb => ?_) (fun hb => ?_))
      | (intro hb)
      | (conv => whnf)))
    refine hK (s_M_product n2 (by omega) rg nb ct ?_)
    rw [if_neg (by decide)]
    iterate 30 (all_goals (first
      | (refine And.intro (by omega) ?_)
      | (refine And.intro (fun hb => absurd hb (by omega)) (fun hb => ?_))
      | (refine And.intro (fun hb => ?_) (fun hb => absurd hb (by omega)))
      | (refine And.intro (fun hb => ?_) (fun hb => ?_))
      | (intro hb)
      | (conv => whnf)))
    exact q
  · subst e
    rw [if_pos rfl] at q
    iterate 30 (all_goals (first
      | (refine And.intro (by omega) ?_)
      | (refine And.intro (fun hb => absurd hb (by omega)) (fun hb => ?_))
      | (refine And.intro (fun hb => ?_) (fun hb => absurd hb (by omega)))
      | (refine And.intro (fun hb => ?_) (fun hb => ?_))
      | (intro hb)
      | (conv => whnf)))
    refine hK (s_M_product n2 (by omega) rg nb ct ?_)
    rw [if_pos (by decide)]
    iterate 30 (all_goals (first
      | (refine And.intro (by omega) ?_)
      | (refine And.intro (fun hb => absurd hb (by omega)) (fun hb => ?_))
      | (refine And.intro (fun hb => ?_) (fun hb => absurd hb (by omega)))
      | (refine And.intro (fun hb => ?_) (fun hb => ?_))
      | (intro hb)
      | (conv => whnf)))
    exact q
theorem pr_told12 {G : am_G} {d : Nat} {sh : Int → Option Nat} {V : am_V} {T : Nat} {p : Int} {f0 : Int → Int} {k w : Int} (hI : II V sh T p f0) (h0 : am_in32 k) (h1 : am_in32 w) (hw : w ≠ 0 ∧ w ≠ 3) : am_Calls G (d + 9) 16 [vR 3, vI k, vI w] V (am_RF sh) T (pr_int G (d + 9) 112 [vR 86, vI k, vI w] p f0) := by
  have hJ := hI.1
  have hkk : iv_k V := hJ.2.2.2.2.2.2.2.1
  have hcat : ∀ j, 0 ≤ j → j ≤ 10 → V 96 j = k_cat j := fun j a b => (hkk.1 j a b).2.1
  by_cases hc : (0 ≤ k ∧ k < 10) ∧ (w = 1 ∨ w = 2)
  · rcases hJ.2.2.2.1.2 k hc.1.1 hc.1.2 with ⟨e1, e2⟩ | ⟨a, n, e1, ha, haT, ok, x4, x5, x6⟩
    · refine am_enter mt_F_told ok_F_told rfl ?_
      refine am_run 400 mt_F_told ok_F_told (fun K S hK hS => ?_)
      iterate 30 (all_goals (first
        | (refine And.intro (by omega) ?_)
        | (refine And.intro (fun hb => absurd hb (by omega)) (fun hb => ?_))
        | (refine And.intro (fun hb => ?_) (fun hb => absurd hb (by omega)))
        | (refine And.intro (fun hb => ?_) (fun hb => ?_))
        | (intro hb)
        | (conv => whnf)))
      refine hK (s_F_noPlace h0 (fun r hr => ?_))
      iterate 50 (all_goals (first
        | (refine am_aN e1 ?_)
        | (refine And.intro (by omega) ?_)
        | (refine am_nN ?_)
        | (refine am_nS ?_)
        | (refine am_mN ?_)
        | (refine am_mS ?_)
        | (refine And.intro (fun hb => absurd hb (by omega)) (fun hb => ?_))
        | (refine And.intro (fun hb => ?_) (fun hb => absurd hb (by omega)))
        | (refine And.intro (fun hb => ?_) (fun hb => ?_))
        | (intro hb)
        | (conv => whnf)))
      refine hK (s_F_finding ?_)
      iterate 30 (all_goals (first
        | (refine And.intro (by omega) ?_)
        | (refine And.intro (fun hb => absurd hb (by omega)) (fun hb => ?_))
        | (refine And.intro (fun hb => ?_) (fun hb => absurd hb (by omega)))
        | (refine And.intro (fun hb => ?_) (fun hb => ?_))
        | (intro hb)
        | (conv => whnf)))
      refine pr_i (by omega) (by simp +decide [am_up_ne, am_up_at, reduceIte]; exact hJ.1) (s_M_told12 (n := 1) h0 h1 hw (fun z => absurd hc z) (fun _ => ?_) (fun _ _ => pr_k (II_find2 hI (by omega))) (fun _ z => ?_) (fun _ z => ?_) (by simp +decide only [am_up_ne, am_up_at, reduceIte]; exact hcat) (fun _ z => ?_) (fun _ z => ?_))
      · simp +decide only [am_up_ne, am_up_at, reduceIte]; omega
      all_goals (exfalso; simp +decide only [am_up_ne, am_up_at, reduceIte] at z; omega)
    · have xk := m_kd_rng ok.2.2.2.2.2
      have xn := ok.2.1
      have x0 : V a 0 = n := ok.1
      have hrg : m_rgs (fun j => V 92 (10 * k + j)) n := m_rgs_eq ok.2.2.1 (fun j z0 z1 => (x6 j z0 z1).symm)
      have hnb : m_nb (fun j => V 92 (10 * k + j)) n (V a 1) := m_nb_eq ok.2.2.2.1 (fun j z0 z1 => (x6 j z0 z1).symm)
      have a_0 : 107 ≤ a := ha.1
      have a_l := th_lay ha
      have a_b := th_ble ha
      have a_q := th_beq ha
      have a_m := th_lay1 ha
      have a_c := th_ble1 ha
      have a_r := th_beq1 ha
      have a_R : am_RF sh a 2 = some (a + 1) := th_RF ha
      have a_z : Nat.beq (a + 1) 0 = false := rfl
      have a_3 : Nat.ble 3 (a + 1) = true := th_ble3 ha
      have a_i : ∀ r, am_isr 3 (vR a :: r) = true := th_isr ha
      refine am_enter mt_F_told ok_F_told rfl ?_
      refine am_run 400 mt_F_told ok_F_told (fun K S hK hS => ?_)
      iterate 30 (all_goals (first
        | (refine And.intro (by omega) ?_)
        | (refine And.intro (fun hb => absurd hb (by omega)) (fun hb => ?_))
        | (refine And.intro (fun hb => ?_) (fun hb => absurd hb (by omega)))
        | (refine And.intro (fun hb => ?_) (fun hb => ?_))
        | (intro hb)
        | (conv => whnf)))
      refine hK (s_F_noPlace h0 (fun r hr => ?_))
      iterate 50 (all_goals (first
        | (refine am_aS e1 ?_)
        | (refine And.intro (by omega) ?_)
        | (refine And.intro (by decide) ?_)
        | (refine am_nN ?_)
        | (refine am_nS ?_)
        | (refine am_mN ?_)
        | (refine am_mS ?_)
        | (refine And.intro (fun hb => absurd hb (by omega)) (fun hb => ?_))
        | (refine And.intro (fun hb => ?_) (fun hb => absurd hb (by omega)))
        | (refine And.intro (fun hb => ?_) (fun hb => ?_))
        | (intro hb)
        | (refine am_if_mk (a_i _) ?_)
        | (simp only [a_l, a_b, a_q, a_m, a_c, a_r, a_R, a_z, a_3])
        | (conv => whnf)))
      refine hK (s_T_isOf ha (by omega) xk (fun r5 hr5 => ?_))
      by_cases hk2 : V a 4 = 1 ∨ V a 4 = 2 ∨ V a 4 = 3
      rotate_left
      · obtain rfl : r5 = 0 := by omega
        iterate 50 (all_goals (first
          | (refine And.intro (by omega) ?_)
          | (refine And.intro (by decide) ?_)
          | (refine am_nN ?_)
          | (refine am_nS ?_)
          | (refine am_mN ?_)
          | (refine am_mS ?_)
          | (refine And.intro (fun hb => absurd hb (by omega)) (fun hb => ?_))
          | (refine And.intro (fun hb => ?_) (fun hb => absurd hb (by omega)))
          | (refine And.intro (fun hb => ?_) (fun hb => ?_))
          | (intro hb)
          | (refine am_if_mk (a_i _) ?_)
          | (simp only [a_l, a_b, a_q, a_m, a_c, a_r, a_R, a_z, a_3])
          | (conv => whnf)))
        refine hK (s_F_finding ?_)
        iterate 30 (all_goals (first
          | (refine And.intro (by omega) ?_)
          | (refine And.intro (fun hb => absurd hb (by omega)) (fun hb => ?_))
          | (refine And.intro (fun hb => ?_) (fun hb => absurd hb (by omega)))
          | (refine And.intro (fun hb => ?_) (fun hb => ?_))
          | (intro hb)
          | (conv => whnf)))
        refine pr_i (by omega) (by simp +decide [am_up_ne, am_up_at, reduceIte]; exact hJ.1) (s_M_told12 (n := n) h0 h1 hw (fun z => absurd hc z) (fun _ => ?_) (fun _ z => ?_) (fun _ _ _ => pr_k (II_find2 hI (by omega))) (fun _ _ => ?_) (by simp +decide only [am_up_ne, am_up_at, reduceIte]; exact hcat) (fun _ z => ?_) (fun _ _ => ?_))
        · simp +decide only [am_up_ne, am_up_at, reduceIte]; omega
        · exfalso; simp +decide only [am_up_ne, am_up_at, reduceIte] at z; omega
        · simp +decide only [am_up_ne, am_up_at, reduceIte]; exact ⟨x5, xn, hrg⟩
        · exfalso; simp +decide only [am_up_ne, am_up_at, reduceIte] at z; omega
        · simp +decide only [am_up_ne, am_up_at, reduceIte]; exact ⟨_, hnb⟩
      obtain rfl : r5 = 1 := by omega
      have fin : ∀ z, z = pd (if w = 2 then k_cat else k_wt) (V (a + 1)) n (V a 1).toNat → pr_int G (d + 9) 112 [vR 86, vI k, vI w] p f0 (some (vI z)) (am_up V 3 17 0) (am_RF sh) T := fun z ez => by
        have zb : -1048576 ≤ z ∧ z ≤ 1048576 := by
          rw [ez]
          refine pd_in ⟨by omega, xn.2⟩ (fun s a b => ?_) _
          split
          · exact (k_cat_b s a b).1
          · exact (k_cat_b s a b).2
        refine pr_i (by omega) (by simp +decide [am_up_ne, am_up_at, reduceIte]; exact hJ.1) (s_M_told12 (n := n) h0 h1 hw (fun z => absurd hc z) (fun _ => ?_) (fun _ z => ?_) (fun _ _ z => ?_) (fun _ _ => ?_) (by simp +decide only [am_up_ne, am_up_at, reduceIte]; exact hcat) (fun _ _ V' r q1 q2 => ?_) (fun _ _ => ?_))
        · simp +decide only [am_up_ne, am_up_at, reduceIte]; omega
        · exfalso; simp +decide only [am_up_ne, am_up_at, reduceIte] at z; omega
        · exfalso; simp +decide only [am_up_ne, am_up_at, reduceIte] at z; omega
        · simp +decide only [am_up_ne, am_up_at, reduceIte]; exact ⟨x5, xn, hrg⟩
        · have e92 : am_up V 3 17 0 92 = V 92 := am_up_ne (by decide)
          rw [e92] at q1 ⊢
          have er : r = V a 1 := m_nb_uniq q1 hnb
          rw [er, pd_eq x6, ← ez]
          first | exact pr_k (II_rd (V' := V') (II_find2 (c := 0) hI (by omega)) (fun a q => q2 a (by omega)) (fun j q => by rw [q2 3 (by decide)]) (fun j q1 q3 => by rw [q2 86 (by decide)]) (q2 65 (by decide)) (q2 76 (by decide)) (by rw [q2 86 (by decide), q2 3 (by decide)]; simp +decide [am_up_ne, am_up_at, reduceIte])) | exact pr_k2 (II_rd (V' := V') (II_find2 (c := 0) hI (by omega)) (fun a q => q2 a (by omega)) (fun j q => by rw [q2 3 (by decide)]) (fun j q1 q3 => by rw [q2 86 (by decide)]) (q2 65 (by decide)) (q2 76 (by decide)) (by rw [q2 86 (by decide), q2 3 (by decide)]; simp +decide [am_up_ne, am_up_at, reduceIte]))
        · simp +decide only [am_up_ne, am_up_at, reduceIte]; exact ⟨_, hnb⟩
      rcases hc.2 with e | e
      · subst e
        rw [if_neg (by decide)] at fin
        iterate 50 (all_goals (first
          | (refine And.intro (by omega) ?_)
          | (refine And.intro (by decide) ?_)
          | (refine am_nN ?_)
          | (refine am_nS ?_)
          | (refine am_mN ?_)
          | (refine am_mS ?_)
          | (refine And.intro (fun hb => absurd hb (by omega)) (fun hb => ?_))
          | (refine And.intro (fun hb => ?_) (fun hb => absurd hb (by omega)))
          | (refine And.intro (fun hb => ?_) (fun hb => ?_))
          | (intro hb)
          | (refine am_if_mk (a_i _) ?_)
          | (simp only [a_l, a_b, a_q, a_m, a_c, a_r, a_R, a_z, a_3])
          | (conv => whnf)))
        refine hK (s_T_productOver2 (n := n) (f := k_wt) ha ok (fun j z0 z1 => (hkk.1 j z0 z1).2.2) ?_)
        iterate 30 (all_goals (first
          | (refine And.intro (by omega) ?_)
          | (refine And.intro (fun hb => absurd hb (by omega)) (fun hb => ?_))
          | (refine And.intro (fun hb => ?_) (fun hb => absurd hb (by omega)))
          | (refine And.intro (fun hb => ?_) (fun hb => ?_))
          | (intro hb)
          | (conv => whnf)))
        refine hK (s_F_fine ?_)
        iterate 30 (all_goals (first
          | (refine And.intro (by omega) ?_)
          | (refine And.intro (fun hb => absurd hb (by omega)) (fun hb => ?_))
          | (refine And.intro (fun hb => ?_) (fun hb => absurd hb (by omega)))
          | (refine And.intro (fun hb => ?_) (fun hb => ?_))
          | (intro hb)
          | (conv => whnf)))
        exact fin _ rfl
      · subst e
        rw [if_pos rfl] at fin
        iterate 50 (all_goals (first
          | (refine And.intro (by omega) ?_)
          | (refine And.intro (by decide) ?_)
          | (refine am_nN ?_)
          | (refine am_nS ?_)
          | (refine am_mN ?_)
          | (refine am_mS ?_)
          | (refine And.intro (fun hb => absurd hb (by omega)) (fun hb => ?_))
          | (refine And.intro (fun hb => ?_) (fun hb => absurd hb (by omega)))
          | (refine And.intro (fun hb => ?_) (fun hb => ?_))
          | (intro hb)
          | (refine am_if_mk (a_i _) ?_)
          | (simp only [a_l, a_b, a_q, a_m, a_c, a_r, a_R, a_z, a_3])
          | (conv => whnf)))
        refine hK (s_T_productOver1 (n := n) (f := k_cat) ha ok (fun j z0 z1 => (hkk.1 j z0 z1).1) ?_)
        iterate 30 (all_goals (first
          | (refine And.intro (by omega) ?_)
          | (refine And.intro (fun hb => absurd hb (by omega)) (fun hb => ?_))
          | (refine And.intro (fun hb => ?_) (fun hb => absurd hb (by omega)))
          | (refine And.intro (fun hb => ?_) (fun hb => ?_))
          | (intro hb)
          | (conv => whnf)))
        refine hK (s_F_fine ?_)
        iterate 30 (all_goals (first
          | (refine And.intro (by omega) ?_)
          | (refine And.intro (fun hb => absurd hb (by omega)) (fun hb => ?_))
          | (refine And.intro (fun hb => ?_) (fun hb => absurd hb (by omega)))
          | (refine And.intro (fun hb => ?_) (fun hb => ?_))
          | (intro hb)
          | (conv => whnf)))
        exact fin _ rfl
  · have bad : pr_int G (d + 9) 112 [vR 86, vI k, vI w] p f0 (some (vI (-1000001))) V (am_RF sh) T := pr_i (by omega) hJ.1 (s_M_told12 (n := 1) h0 h1 hw (fun _ => pr_k (II_bad hI)) (fun z => absurd z hc) (fun z => absurd z hc) (fun z => absurd z hc) (fun z => absurd z hc) hcat (fun z => absurd z hc) (fun z => absurd z hc))
    refine am_enter mt_F_told ok_F_told rfl ?_
    refine am_run 400 mt_F_told ok_F_told (fun K S hK hS => ?_)
    iterate 30 (all_goals (first
      | (refine And.intro (by omega) ?_)
      | (refine And.intro (fun hb => absurd hb (by omega)) (fun hb => ?_))
      | (refine And.intro (fun hb => ?_) (fun hb => absurd hb (by omega)))
      | (refine And.intro (fun hb => ?_) (fun hb => ?_))
      | (intro hb)
      | (conv => whnf)))
    refine hK (s_F_noPlace h0 (fun r hr => ?_))
    iterate 30 (all_goals (first
      | (refine And.intro (by omega) ?_)
      | (refine And.intro (fun hb => absurd hb (by omega)) (fun hb => ?_))
      | (refine And.intro (fun hb => ?_) (fun hb => absurd hb (by omega)))
      | (refine And.intro (fun hb => ?_) (fun hb => ?_))
      | (intro hb)
      | (conv => whnf)))
    all_goals exact bad
