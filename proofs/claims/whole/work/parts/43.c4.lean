/-! the class: a Thing is made -/
/-- a Thing of n points lies at a -/
def th_ok (V : am_V) (a : Nat) (n : Int) : Prop := V a 0 = n ∧ (1 ≤ n ∧ n ≤ 10) ∧ m_rgs (V (a + 1)) n ∧ m_nb (V (a + 1)) n (V a 1) ∧ ((V a 3 = 1 ∧ m_prs (V (a + 1)) n) ∨ (V a 3 = 0 ∧ ¬ m_prs (V (a + 1)) n)) ∧ m_kd (V (a + 1)) n (V a 4)
theorem th_ok_eq {V V' : am_V} {a : Nat} {n : Int} (h : th_ok V a n) (h1 : V' a = V a) (h2 : V' (a + 1) = V (a + 1)) : th_ok V' a n := by
  unfold th_ok
  rw [h1, h2]
  exact h
theorem m_prs_nb {g : Int → Int} {n r : Int} (hg : m_rgs g n) (h : m_nb g n r) : (∀ b, 0 ≤ b → b < r → m_cg g b n.toNat = 2) → m_prs g n := fun w i a b => w (g i) (hg i a b).1 (h.2.1 i a b)
theorem m_prs_nb' {g : Int → Int} {n r b : Int} (hg : m_rgs g n) (h : m_nb g n r) (h0 : 0 ≤ b) (h1 : b < r) (h2 : m_cg g b n.toNat ≠ 2) : ¬ m_prs g n := fun w => by
  obtain ⟨j, j1, j2, j3⟩ := m_nb_met hg h h0 h1
  have := w j j1 j2
  rw [j3] at this
  exact h2 this
theorem s_T_initN {G : am_G} {d : Nat} {sh : Int → Option Nat} {V : am_V} {Q : Option AV → am_V → am_T → Nat → Prop} {a : Nat} {n : Int} (ht : th_pl a) (h1 : 1 < n ∧ n ≤ 10) (hr : ∀ i, 0 ≤ i → i < n → am_in32 (V 30 i)) (hQ : ∀ V', (∀ x, x ≠ a → x ≠ a + 1 → V' x = V x) → th_ok V' a n → (∀ i j, 0 ≤ i → i < n → 0 ≤ j → j < n → (V' (a + 1) i = V' (a + 1) j ↔ V 30 i = V 30 j)) → Q none V' (am_RF sh) (a + 2)) : am_Calls G (d + 4) 153 [vR a, vR 30, vI n] V (am_zeroR (am_RF sh) a) (a + 1) Q := by
  have a_0 : 107 ≤ a := ht.1
  have a_l := th_lay ht
  have a_b := th_ble ht
  have a_q := th_beq ht
  have a_m := th_lay1 ht
  have a_c := th_ble1 ht
  have a_r := th_beq1 ht
  have a_R : am_RF sh a 2 = some (a + 1) := th_RF ht
  have a_z : Nat.beq (a + 1) 0 = false := rfl
  have a_3 : Nat.ble 3 (a + 1) = true := th_ble3 ht
  have a_i : ∀ r, am_isr 3 (vR a :: r) = true := th_isr ht
  have hRn : am_upR (am_zeroR (am_zeroR (am_RF sh) a) (a + 1)) a 2 (some (a + 1)) = am_RF sh := th_RFnew ht
  have hc := th_pc_of ht
  have ne1 : a ≠ a + 1 := by omega
  refine am_enter mt_T_init ok_T_init rfl ?_
  refine am_run 400 mt_T_init ok_T_init (fun K S hK hS => ?_)
  iterate 40 (all_goals (first
    | (refine And.intro (by omega) ?_)
    | (refine And.intro (by decide) ?_)
    | (refine And.intro (fun hb => absurd hb (by omega)) (fun hb => ?_))
    | (refine And.intro (fun hb => ?_) (fun hb => absurd hb (by omega)))
    | (refine And.intro (fun hb => ?_) (fun hb => ?_))
    | (intro hb)
    | (refine am_if_mk (a_i _) ?_)
    | (simp only [a_l, a_b, a_q, a_m, a_c, a_r, a_R, a_z, a_3, hRn, am_up_same])
    | (conv => whnf)))
  refine hK (s_T_numberBlocks hc (by omega) (fun i q1 q2 => by rw [am_up_ne (by omega), am_zero_ne (by omega)]; exact hr i q1 q2) (fun W r w1 w2 => ?_))
  have eW : ∀ x, x ≠ a → x ≠ a + 1 → W x = V x := fun x q1 q2 => by rw [w1 x q2, am_up_ne q1, am_zero_ne q2]
  have e0 : W a 0 = n := by rw [w1 a ne1, am_up_same]
  rw [am_up_ne (by omega), am_zero_ne (by omega)] at w2
  have hg : m_rgs (W (a + 1)) n := w2.1
  have hnb := m_num_nb w2
  have hrel := w2.2.1
  have hrr := w2.2.2.1
  have hrg : ∀ i, 0 ≤ i → i < n → am_in32 (W (a + 1) i) := fun i q1 q2 => by
    have := m_rgs_lt hg q1 q2
    constructor <;> omega
  have ue : am_up W a 1 r (a + 1) = W (a + 1) := am_up_ne (Ne.symm ne1)
  have u0 : am_up W a 1 r a 0 = n := by rw [am_up_at, if_neg (by decide), e0]
  have u1 : am_up W a 1 r a 1 = r := am_up_same
  have fin : ∀ f, ((f = 1 ∧ m_prs (W (a + 1)) n) ∨ (f = 0 ∧ ¬ m_prs (W (a + 1)) n)) → ∀ kd, m_kd (W (a + 1)) n kd → Q none (am_up (am_up (am_up W a 1 r) a 3 f) a 4 kd) (am_RF sh) (a + 2) := by
    intro f hf kd hkd
    have er : am_up (am_up (am_up W a 1 r) a 3 f) a 4 kd (a + 1) = W (a + 1) := by rw [am_up_ne (Ne.symm ne1), am_up_ne (Ne.symm ne1), ue]
    refine hQ _ (fun x q1 q2 => by rw [am_up_ne q1, am_up_ne q1, am_up_ne q1, eW x q1 q2]) ⟨?_, ⟨by omega, h1.2⟩, ?_, ?_, ?_, ?_⟩ ?_
    · rw [am_up_at, if_neg (by decide), am_up_at, if_neg (by decide), u0]
    · rw [er]; exact hg
    · rw [er, am_up_at, if_neg (by decide), am_up_at, if_neg (by decide), u1]; exact hnb
    · rw [er, am_up_at, if_neg (by decide), am_up_at, if_pos rfl]; exact hf
    · rw [er, am_up_at, if_pos rfl]; exact hkd
    · rw [er]; exact hrel
  iterate 30 (all_goals (first
    | (refine And.intro (by omega) ?_)
    | (refine And.intro (by decide) ?_)
    | (refine And.intro (fun hb => absurd hb (by omega)) (fun hb => ?_))
    | (refine And.intro (fun hb => ?_) (fun hb => absurd hb (by omega)))
    | (refine And.intro (fun hb => ?_) (fun hb => ?_))
    | (intro hb)
    | (refine am_if_mk (a_i _) ?_)
    | (simp only [a_l, a_b, a_q, a_m, a_c, a_r, a_R, a_z, a_3, u0, u1])
    | (conv => whnf)))
  refine hK (s_T_allInPairs hc (by omega) (by omega) (by rw [ue]; exact hrg) (fun w => ?_) (fun b q1 q2 q3 => ?_))
  · rw [ue] at w
    have hp := m_prs_nb hg hnb w
    have ve : am_up (am_up W a 1 r) a 3 1 (a + 1) = W (a + 1) := by rw [am_up_ne (Ne.symm ne1), ue]
    have v0 : am_up (am_up W a 1 r) a 3 1 a 0 = n := by rw [am_up_at, if_neg (by decide), u0]
    have v3 : am_up (am_up W a 1 r) a 3 1 a 3 = 1 := am_up_same
    iterate 30 (all_goals (first
      | (refine And.intro (by omega) ?_)
      | (refine And.intro (by decide) ?_)
      | (refine And.intro (fun hb => absurd hb (by omega)) (fun hb => ?_))
      | (refine And.intro (fun hb => ?_) (fun hb => absurd hb (by omega)))
      | (refine And.intro (fun hb => ?_) (fun hb => ?_))
      | (intro hb)
      | (refine am_if_mk (a_i _) ?_)
      | (simp only [a_l, a_b, a_q, a_m, a_c, a_r, a_R, a_z, a_3, v0, v3])
      | (conv => whnf)))
    refine hK (s_T_kindToTell hc (by omega) (by rw [ve]; exact hg) (Or.inl ⟨rfl, by rw [ve]; exact hp⟩) (fun kd hkd => ?_))
    rw [ve] at hkd
    iterate 30 (all_goals (first
      | (refine And.intro (by omega) ?_)
      | (refine And.intro (by decide) ?_)
      | (refine And.intro (fun hb => absurd hb (by omega)) (fun hb => ?_))
      | (refine And.intro (fun hb => ?_) (fun hb => absurd hb (by omega)))
      | (refine And.intro (fun hb => ?_) (fun hb => ?_))
      | (intro hb)
      | (refine am_if_mk (a_i _) ?_)
      | (simp only [a_l, a_b, a_q, a_m, a_c, a_r, a_R, a_z, a_3])
      | (conv => whnf)))
    exact fin 1 (Or.inl ⟨rfl, hp⟩) kd hkd
  · rw [ue] at q3
    have hp := m_prs_nb' hg hnb q1 q2 q3
    have ve : am_up (am_up W a 1 r) a 3 0 (a + 1) = W (a + 1) := by rw [am_up_ne (Ne.symm ne1), ue]
    have v0 : am_up (am_up W a 1 r) a 3 0 a 0 = n := by rw [am_up_at, if_neg (by decide), u0]
    have v3 : am_up (am_up W a 1 r) a 3 0 a 3 = 0 := am_up_same
    iterate 30 (all_goals (first
      | (refine And.intro (by omega) ?_)
      | (refine And.intro (by decide) ?_)
      | (refine And.intro (fun hb => absurd hb (by omega)) (fun hb => ?_))
      | (refine And.intro (fun hb => ?_) (fun hb => absurd hb (by omega)))
      | (refine And.intro (fun hb => ?_) (fun hb => ?_))
      | (intro hb)
      | (refine am_if_mk (a_i _) ?_)
      | (simp only [a_l, a_b, a_q, a_m, a_c, a_r, a_R, a_z, a_3, v0, v3])
      | (conv => whnf)))
    refine hK (s_T_kindToTell hc (by omega) (by rw [ve]; exact hg) (Or.inr ⟨rfl, by rw [ve]; exact hp⟩) (fun kd hkd => ?_))
    rw [ve] at hkd
    iterate 30 (all_goals (first
      | (refine And.intro (by omega) ?_)
      | (refine And.intro (by decide) ?_)
      | (refine And.intro (fun hb => absurd hb (by omega)) (fun hb => ?_))
      | (refine And.intro (fun hb => ?_) (fun hb => absurd hb (by omega)))
      | (refine And.intro (fun hb => ?_) (fun hb => ?_))
      | (intro hb)
      | (refine am_if_mk (a_i _) ?_)
      | (simp only [a_l, a_b, a_q, a_m, a_c, a_r, a_R, a_z, a_3])
      | (conv => whnf)))
    exact fin 0 (Or.inr ⟨rfl, hp⟩) kd hkd
theorem s_T_init1 {G : am_G} {d : Nat} {sh : Int → Option Nat} {V : am_V} {Q : Option AV → am_V → am_T → Nat → Prop} {a : Nat} (ht : th_pl a) (hr : ∀ i, 0 ≤ i → i < 1 → am_in32 (V 30 i)) (hQ : ∀ V', (∀ x, x ≠ a → x ≠ a + 1 → V' x = V x) → th_ok V' a 1 → (∀ i j, 0 ≤ i → i < 1 → 0 ≤ j → j < 1 → (V' (a + 1) i = V' (a + 1) j ↔ V 30 i = V 30 j)) → Q none V' (am_RF sh) (a + 2)) : am_Calls G (d + 4) 153 [vR a, vR 30, vI 1] V (am_zeroR (am_RF sh) a) (a + 1) Q := by
  have a_0 : 107 ≤ a := ht.1
  have a_l := th_lay ht
  have a_b := th_ble ht
  have a_q := th_beq ht
  have a_m := th_lay1 ht
  have a_c := th_ble1 ht
  have a_r := th_beq1 ht
  have a_R : am_RF sh a 2 = some (a + 1) := th_RF ht
  have a_z : Nat.beq (a + 1) 0 = false := rfl
  have a_3 : Nat.ble 3 (a + 1) = true := th_ble3 ht
  have a_i : ∀ r, am_isr 3 (vR a :: r) = true := th_isr ht
  have hRn : am_upR (am_zeroR (am_zeroR (am_RF sh) a) (a + 1)) a 2 (some (a + 1)) = am_RF sh := th_RFnew ht
  have hc := th_pc_of ht
  have ne1 : a ≠ a + 1 := by omega
  refine am_enter mt_T_init ok_T_init rfl ?_
  refine am_run 400 mt_T_init ok_T_init (fun K S hK hS => ?_)
  iterate 40 (all_goals (first
    | (refine And.intro (by omega) ?_)
    | (refine And.intro (by decide) ?_)
    | (refine And.intro (fun hb => absurd hb (by omega)) (fun hb => ?_))
    | (refine And.intro (fun hb => ?_) (fun hb => absurd hb (by omega)))
    | (refine And.intro (fun hb => ?_) (fun hb => ?_))
    | (intro hb)
    | (refine am_if_mk (a_i _) ?_)
    | (simp only [a_l, a_b, a_q, a_m, a_c, a_r, a_R, a_z, a_3, hRn, am_up_same])
    | (conv => whnf)))
  refine hK (s_T_numberBlocks hc (by omega) (fun i q1 q2 => by rw [am_up_ne (by omega), am_zero_ne (by omega)]; exact hr i q1 q2) (fun W r w1 w2 => ?_))
  have eW : ∀ x, x ≠ a → x ≠ a + 1 → W x = V x := fun x q1 q2 => by rw [w1 x q2, am_up_ne q1, am_zero_ne q2]
  have e0 : W a 0 = 1 := by rw [w1 a ne1, am_up_same]
  rw [am_up_ne (by omega), am_zero_ne (by omega)] at w2
  have hg : m_rgs (W (a + 1)) 1 := w2.1
  have hnb := m_num_nb w2
  have hrel := w2.2.1
  have hrr := w2.2.2.1
  have hrg : ∀ i, 0 ≤ i → i < 1 → am_in32 (W (a + 1) i) := fun i q1 q2 => by
    have := m_rgs_lt hg q1 q2
    constructor <;> omega
  have ue : am_up W a 1 r (a + 1) = W (a + 1) := am_up_ne (Ne.symm ne1)
  have u0 : am_up W a 1 r a 0 = 1 := by rw [am_up_at, if_neg (by decide), e0]
  have u1 : am_up W a 1 r a 1 = r := am_up_same
  have fin : ∀ f, ((f = 1 ∧ m_prs (W (a + 1)) 1) ∨ (f = 0 ∧ ¬ m_prs (W (a + 1)) 1)) → ∀ kd, m_kd (W (a + 1)) 1 kd → Q none (am_up (am_up (am_up W a 1 r) a 3 f) a 4 kd) (am_RF sh) (a + 2) := by
    intro f hf kd hkd
    have er : am_up (am_up (am_up W a 1 r) a 3 f) a 4 kd (a + 1) = W (a + 1) := by rw [am_up_ne (Ne.symm ne1), am_up_ne (Ne.symm ne1), ue]
    refine hQ _ (fun x q1 q2 => by rw [am_up_ne q1, am_up_ne q1, am_up_ne q1, eW x q1 q2]) ⟨?_, ⟨by omega, by omega⟩, ?_, ?_, ?_, ?_⟩ ?_
    · rw [am_up_at, if_neg (by decide), am_up_at, if_neg (by decide), u0]
    · rw [er]; exact hg
    · rw [er, am_up_at, if_neg (by decide), am_up_at, if_neg (by decide), u1]; exact hnb
    · rw [er, am_up_at, if_neg (by decide), am_up_at, if_pos rfl]; exact hf
    · rw [er, am_up_at, if_pos rfl]; exact hkd
    · rw [er]; exact hrel
  iterate 30 (all_goals (first
    | (refine And.intro (by omega) ?_)
    | (refine And.intro (by decide) ?_)
    | (refine And.intro (fun hb => absurd hb (by omega)) (fun hb => ?_))
    | (refine And.intro (fun hb => ?_) (fun hb => absurd hb (by omega)))
    | (refine And.intro (fun hb => ?_) (fun hb => ?_))
    | (intro hb)
    | (refine am_if_mk (a_i _) ?_)
    | (simp only [a_l, a_b, a_q, a_m, a_c, a_r, a_R, a_z, a_3, u0, u1])
    | (conv => whnf)))
  refine hK (s_T_allInPairs hc (by omega) (by omega) (by rw [ue]; exact hrg) (fun w => ?_) (fun b q1 q2 q3 => ?_))
  · rw [ue] at w
    have hp := m_prs_nb hg hnb w
    have ve : am_up (am_up W a 1 r) a 3 1 (a + 1) = W (a + 1) := by rw [am_up_ne (Ne.symm ne1), ue]
    have v0 : am_up (am_up W a 1 r) a 3 1 a 0 = 1 := by rw [am_up_at, if_neg (by decide), u0]
    have v3 : am_up (am_up W a 1 r) a 3 1 a 3 = 1 := am_up_same
    iterate 30 (all_goals (first
      | (refine And.intro (by omega) ?_)
      | (refine And.intro (by decide) ?_)
      | (refine And.intro (fun hb => absurd hb (by omega)) (fun hb => ?_))
      | (refine And.intro (fun hb => ?_) (fun hb => absurd hb (by omega)))
      | (refine And.intro (fun hb => ?_) (fun hb => ?_))
      | (intro hb)
      | (refine am_if_mk (a_i _) ?_)
      | (simp only [a_l, a_b, a_q, a_m, a_c, a_r, a_R, a_z, a_3, v0, v3])
      | (conv => whnf)))
    refine hK (s_T_kindToTell hc (by omega) (by rw [ve]; exact hg) (Or.inl ⟨rfl, by rw [ve]; exact hp⟩) (fun kd hkd => ?_))
    rw [ve] at hkd
    iterate 30 (all_goals (first
      | (refine And.intro (by omega) ?_)
      | (refine And.intro (by decide) ?_)
      | (refine And.intro (fun hb => absurd hb (by omega)) (fun hb => ?_))
      | (refine And.intro (fun hb => ?_) (fun hb => absurd hb (by omega)))
      | (refine And.intro (fun hb => ?_) (fun hb => ?_))
      | (intro hb)
      | (refine am_if_mk (a_i _) ?_)
      | (simp only [a_l, a_b, a_q, a_m, a_c, a_r, a_R, a_z, a_3])
      | (conv => whnf)))
    exact fin 1 (Or.inl ⟨rfl, hp⟩) kd hkd
  · rw [ue] at q3
    have hp := m_prs_nb' hg hnb q1 q2 q3
    have ve : am_up (am_up W a 1 r) a 3 0 (a + 1) = W (a + 1) := by rw [am_up_ne (Ne.symm ne1), ue]
    have v0 : am_up (am_up W a 1 r) a 3 0 a 0 = 1 := by rw [am_up_at, if_neg (by decide), u0]
    have v3 : am_up (am_up W a 1 r) a 3 0 a 3 = 0 := am_up_same
    iterate 30 (all_goals (first
      | (refine And.intro (by omega) ?_)
      | (refine And.intro (by decide) ?_)
      | (refine And.intro (fun hb => absurd hb (by omega)) (fun hb => ?_))
      | (refine And.intro (fun hb => ?_) (fun hb => absurd hb (by omega)))
      | (refine And.intro (fun hb => ?_) (fun hb => ?_))
      | (intro hb)
      | (refine am_if_mk (a_i _) ?_)
      | (simp only [a_l, a_b, a_q, a_m, a_c, a_r, a_R, a_z, a_3, v0, v3])
      | (conv => whnf)))
    refine hK (s_T_kindToTell hc (by omega) (by rw [ve]; exact hg) (Or.inr ⟨rfl, by rw [ve]; exact hp⟩) (fun kd hkd => ?_))
    rw [ve] at hkd
    iterate 30 (all_goals (first
      | (refine And.intro (by omega) ?_)
      | (refine And.intro (by decide) ?_)
      | (refine And.intro (fun hb => absurd hb (by omega)) (fun hb => ?_))
      | (refine And.intro (fun hb => ?_) (fun hb => absurd hb (by omega)))
      | (refine And.intro (fun hb => ?_) (fun hb => ?_))
      | (intro hb)
      | (refine am_if_mk (a_i _) ?_)
      | (simp only [a_l, a_b, a_q, a_m, a_c, a_r, a_R, a_z, a_3])
      | (conv => whnf)))
    exact fin 0 (Or.inr ⟨rfl, hp⟩) kd hkd
theorem s_T_init {G : am_G} {d : Nat} {sh : Int → Option Nat} {V : am_V} {Q : Option AV → am_V → am_T → Nat → Prop} {a : Nat} {n : Int} (ht : th_pl a) (h1 : 1 ≤ n ∧ n ≤ 10) (hr : ∀ i, 0 ≤ i → i < n → am_in32 (V 30 i)) (hQ : ∀ V', (∀ x, x ≠ a → x ≠ a + 1 → V' x = V x) → th_ok V' a n → (∀ i j, 0 ≤ i → i < n → 0 ≤ j → j < n → (V' (a + 1) i = V' (a + 1) j ↔ V 30 i = V 30 j)) → Q none V' (am_RF sh) (a + 2)) : am_Calls G (d + 4) 153 [vR a, vR 30, vI n] V (am_zeroR (am_RF sh) a) (a + 1) Q := by
  by_cases hn : n = 1
  · subst hn
    exact s_T_init1 ht hr hQ
  · exact s_T_initN ht (by omega) hr hQ
theorem s_T_isOf {G : am_G} {d : Nat} {V : am_V} {R : am_T} {T : Nat} {Q : Option AV → am_V → am_T → Nat → Prop} {a : Nat} {b : Int} (ha : th_pl a) (h1 : am_in32 b) (h2 : 0 ≤ V a 4 ∧ V a 4 ≤ 4) (hQ : ∀ r, (r = 1 ∧ (b = 0 ∨ V a 4 = b ∨ (b = 1 ∧ (V a 4 = 2 ∨ V a 4 = 3)))) ∨ (r = 0 ∧ ¬ (b = 0 ∨ V a 4 = b ∨ (b = 1 ∧ (V a 4 = 2 ∨ V a 4 = 3)))) → Q (some (vI r)) V R T) : am_Calls G (d + 1) 161 [vR a, vI b] V R T Q := by
  refine am_enter mt_T_isOf ok_T_isOf rfl ?_
  have a_l := th_lay ha
  have a_b := th_ble ha
  have a_q := th_beq ha
  refine am_run 400 mt_T_isOf ok_T_isOf (fun K S hK hS => ?_)
  iterate 30 (all_goals (first
    | (refine And.intro (by omega) ?_)
    | (refine And.intro (by decide) ?_)
    | (refine And.intro (fun hb => absurd hb (by omega)) (fun hb => ?_))
    | (refine And.intro (fun hb => ?_) (fun hb => absurd hb (by omega)))
    | (refine And.intro (fun hb => ?_) (fun hb => ?_))
    | (intro hb)
    | (simp only [a_l, a_b, a_q])
    | (conv => whnf)))
  all_goals exact hQ _ (by omega)
