/-! products over blocks -/
theorem m_cg_mono (g : Int → Int) (b : Int) : ∀ (k n : Nat), k ≤ n → m_cg g b k ≤ m_cg g b n
  | k, 0, h => by rw [show k = 0 by omega]; exact Int.le_refl _
  | k, n + 1, h => by
    by_cases e : k = n + 1
    · rw [e]; exact Int.le_refl _
    · refine Int.le_trans (m_cg_mono g b k n (by omega)) ?_
      rw [m_cg]
      split <;> omega
theorem m_cg_pos {g : Int → Int} {b n i : Int} (h0 : 0 ≤ i) (h1 : i < n) (h : g i = b) : 1 ≤ m_cg g b n.toNat := by
  have a := m_cg_mono g b (i + 1).toNat n.toNat (by omega)
  rw [m_cg_S g b i h0, if_pos h] at a
  have := (m_cg_le g b i.toNat).1
  omega
/-- the product over the first blocks -/
def pd (f g : Int → Int) (n : Int) : Nat → Int
  | 0 => 1
  | b + 1 => pd f g n b * f (m_cg g b n.toNat)
theorem pd_S (f g : Int → Int) (n b : Int) (h : 0 ≤ b) : pd f g n (b + 1).toNat = pd f g n b.toNat * f (m_cg g b n.toNat) := by
  rw [show (b + 1).toNat = b.toNat + 1 by omega, pd, show ((b.toNat : Nat) : Int) = b by omega]
theorem pd_eq {f g h : Int → Int} {n : Int} (e : ∀ i, 0 ≤ i → i < n → g i = h i) : ∀ b, pd f g n b = pd f h n b
  | 0 => rfl
  | b + 1 => by rw [pd, pd, pd_eq e b, m_cg_eq n.toNat (fun i a c => e i a (by omega))]
theorem k_wt0 : ∀ s : Fin 11, 1 ≤ (s : Nat) → k_wt ((s : Nat) : Int) = if ((s : Nat) : Int) % 2 = 1 then k_cat (((s : Nat) : Int) - 1) else -k_cat (((s : Nat) : Int) - 1) := by decide +kernel
theorem k_wt_cat {s : Int} (h0 : 1 ≤ s) (h1 : s ≤ 10) : k_wt s = if s % 2 = 1 then k_cat (s - 1) else -k_cat (s - 1) := by
  have := k_wt0 ⟨s.toNat, by omega⟩ (by show 1 ≤ s.toNat; omega)
  rw [show (((⟨s.toNat, by omega⟩ : Fin 11) : Nat) : Int) = s from Int.toNat_of_nonneg (by omega)] at this
  exact this
theorem s_T_productOver1 {G : am_G} {d : Nat} {sh : Int → Option Nat} {V : am_V} {T : Nat} {Q : Option AV → am_V → am_T → Nat → Prop} {a : Nat} {n : Int} {f : Int → Int} (ha : th_pl a) (ok : th_ok V a n) (hf : ∀ j, 0 ≤ j → j ≤ 10 → V 1 j = f j) (hQ : Q (some (vI (pd f (V (a + 1)) n (V a 1).toNat))) V (am_RF sh) T) : am_Calls G (d + 2) 163 [vR a, vR 1] V (am_RF sh) T Q := by
  obtain ⟨o1, o2, o3, o4, o5, o6⟩ := ok
  have hr : ∀ i, 0 ≤ i → i < n → am_in32 (V (a + 1) i) := fun i z0 z1 => by
    have := m_rgs_lt o3 z0 z1
    constructor <;> omega
  have hb : 0 ≤ V a 1 ∧ V a 1 ≤ 10 := by
    refine ⟨o4.1, ?_⟩
    rcases o4.2.2 with e | ⟨i, i1, i2, i3⟩
    · omega
    · have := m_rgs_lt o3 i1 i2
      omega
  have a_0 : 107 ≤ a := ha.1
  have a_l := th_lay ha
  have a_b := th_ble ha
  have a_q := th_beq ha
  have a_m := th_lay1 ha
  have a_c := th_ble1 ha
  have a_r := th_beq1 ha
  have a_R : am_RF sh a 2 = some (a + 1) := th_RF ha
  have a_z : Nat.beq (a + 1) 0 = false := rfl
  have a_3 : Nat.ble 3 (a + 1) = true := th_ble3 ha
  have a_i : ∀ r, am_isr 3 (vR a :: r) = true := th_isr ha
  refine am_enter mt_T_productOver ok_T_productOver rfl ?_
  have loop : ∀ (jj : Nat) (b : Int), 0 ≤ b → b ≤ V a 1 → V a 1 - b < jj → am_Sem G (d + 1) 163 V T Q 4 [some (vR a), some (vR 1), some (vI (pd f (V (a + 1)) n b.toNat)), some (vI b)] [] V (am_RF sh) T 0 0 := by
    intro jj
    induction jj with
    | zero => intro b z0 z1 z2; omega
    | succ jj ih =>
      intro b z0 z1 z2
      by_cases hbn : b = V a 1
      · rw [hbn]
        refine am_run 400 mt_T_productOver ok_T_productOver (fun K S hK hS => ?_)
        iterate 30 (all_goals (first
          | (refine And.intro (by omega) ?_)
          | (refine And.intro (by decide) ?_)
          | (refine And.intro (fun hb => absurd hb (by omega)) (fun hb => ?_))
          | (refine And.intro (fun hb => ?_) (fun hb => absurd hb (by omega)))
          | (refine And.intro (fun hb => ?_) (fun hb => ?_))
          | (intro hb)
          | (refine am_if_mk (a_i _) ?_)
          | (simp only [a_l, a_b, a_q, a_m, a_c, a_r, a_R, a_z, a_3])
          | (conv => whnf)))
        exact hQ
      · have ih := ih (b + 1) (by omega) (by omega) (by omega)
        rw [pd_S _ _ _ _ z0] at ih
        have rc := m_cg_le (V (a + 1)) b n.toNat
        have fv := hf (m_cg (V (a + 1)) b n.toNat) rc.1 (by omega)
        refine am_run 400 mt_T_productOver ok_T_productOver (fun K S hK hS => ?_)
        iterate 30 (all_goals (first
          | (refine And.intro (by omega) ?_)
          | (refine And.intro (by decide) ?_)
          | (refine And.intro (fun hb => absurd hb (by omega)) (fun hb => ?_))
          | (refine And.intro (fun hb => ?_) (fun hb => absurd hb (by omega)))
          | (refine And.intro (fun hb => ?_) (fun hb => ?_))
          | (intro hb)
          | (refine am_if_mk (a_i _) ?_)
          | (simp only [a_l, a_b, a_q, a_m, a_c, a_r, a_R, a_z, a_3, o1])
          | (conv => whnf)))
        refine hK (s_T_pointsIn (th_pc_of ha) (by omega) hr (by omega) ?_)
        iterate 30 (all_goals (first
          | (refine And.intro (by omega) ?_)
          | (refine And.intro (by decide) ?_)
          | (refine And.intro (fun hb => absurd hb (by omega)) (fun hb => ?_))
          | (refine And.intro (fun hb => ?_) (fun hb => absurd hb (by omega)))
          | (refine And.intro (fun hb => ?_) (fun hb => ?_))
          | (intro hb)
          | (simp only [fv])
          | (conv => whnf)))
        exact hS ih
  refine am_run 400 mt_T_productOver ok_T_productOver (fun K S hK hS => ?_)
  iterate 30 (all_goals (first
    | (refine And.intro (by omega) ?_)
    | (refine And.intro (fun hb => absurd hb (by omega)) (fun hb => ?_))
    | (refine And.intro (fun hb => ?_) (fun hb => absurd hb (by omega)))
    | (refine And.intro (fun hb => ?_) (fun hb => ?_))
    | (intro hb)
    | (conv => whnf)))
  exact hS (loop (V a 1 + 1).toNat 0 (by omega) (by omega) (by omega))
theorem s_T_productOver2 {G : am_G} {d : Nat} {sh : Int → Option Nat} {V : am_V} {T : Nat} {Q : Option AV → am_V → am_T → Nat → Prop} {a : Nat} {n : Int} {f : Int → Int} (ha : th_pl a) (ok : th_ok V a n) (hf : ∀ j, 0 ≤ j → j ≤ 10 → V 2 j = f j) (hQ : Q (some (vI (pd f (V (a + 1)) n (V a 1).toNat))) V (am_RF sh) T) : am_Calls G (d + 2) 163 [vR a, vR 2] V (am_RF sh) T Q := by
  obtain ⟨o1, o2, o3, o4, o5, o6⟩ := ok
  have hr : ∀ i, 0 ≤ i → i < n → am_in32 (V (a + 1) i) := fun i z0 z1 => by
    have := m_rgs_lt o3 z0 z1
    constructor <;> omega
  have hb : 0 ≤ V a 1 ∧ V a 1 ≤ 10 := by
    refine ⟨o4.1, ?_⟩
    rcases o4.2.2 with e | ⟨i, i1, i2, i3⟩
    · omega
    · have := m_rgs_lt o3 i1 i2
      omega
  have a_0 : 107 ≤ a := ha.1
  have a_l := th_lay ha
  have a_b := th_ble ha
  have a_q := th_beq ha
  have a_m := th_lay1 ha
  have a_c := th_ble1 ha
  have a_r := th_beq1 ha
  have a_R : am_RF sh a 2 = some (a + 1) := th_RF ha
  have a_z : Nat.beq (a + 1) 0 = false := rfl
  have a_3 : Nat.ble 3 (a + 1) = true := th_ble3 ha
  have a_i : ∀ r, am_isr 3 (vR a :: r) = true := th_isr ha
  refine am_enter mt_T_productOver ok_T_productOver rfl ?_
  have loop : ∀ (jj : Nat) (b : Int), 0 ≤ b → b ≤ V a 1 → V a 1 - b < jj → am_Sem G (d + 1) 163 V T Q 4 [some (vR a), some (vR 2), some (vI (pd f (V (a + 1)) n b.toNat)), some (vI b)] [] V (am_RF sh) T 0 0 := by
    intro jj
    induction jj with
    | zero => intro b z0 z1 z2; omega
    | succ jj ih =>
      intro b z0 z1 z2
      by_cases hbn : b = V a 1
      · rw [hbn]
        refine am_run 400 mt_T_productOver ok_T_productOver (fun K S hK hS => ?_)
        iterate 30 (all_goals (first
          | (refine And.intro (by omega) ?_)
          | (refine And.intro (by decide) ?_)
          | (refine And.intro (fun hb => absurd hb (by omega)) (fun hb => ?_))
          | (refine And.intro (fun hb => ?_) (fun hb => absurd hb (by omega)))
          | (refine And.intro (fun hb => ?_) (fun hb => ?_))
          | (intro hb)
          | (refine am_if_mk (a_i _) ?_)
          | (simp only [a_l, a_b, a_q, a_m, a_c, a_r, a_R, a_z, a_3])
          | (conv => whnf)))
        exact hQ
      · have ih := ih (b + 1) (by omega) (by omega) (by omega)
        rw [pd_S _ _ _ _ z0] at ih
        have rc := m_cg_le (V (a + 1)) b n.toNat
        have fv := hf (m_cg (V (a + 1)) b n.toNat) rc.1 (by omega)
        refine am_run 400 mt_T_productOver ok_T_productOver (fun K S hK hS => ?_)
        iterate 30 (all_goals (first
          | (refine And.intro (by omega) ?_)
          | (refine And.intro (by decide) ?_)
          | (refine And.intro (fun hb => absurd hb (by omega)) (fun hb => ?_))
          | (refine And.intro (fun hb => ?_) (fun hb => absurd hb (by omega)))
          | (refine And.intro (fun hb => ?_) (fun hb => ?_))
          | (intro hb)
          | (refine am_if_mk (a_i _) ?_)
          | (simp only [a_l, a_b, a_q, a_m, a_c, a_r, a_R, a_z, a_3, o1])
          | (conv => whnf)))
        refine hK (s_T_pointsIn (th_pc_of ha) (by omega) hr (by omega) ?_)
        iterate 30 (all_goals (first
          | (refine And.intro (by omega) ?_)
          | (refine And.intro (by decide) ?_)
          | (refine And.intro (fun hb => absurd hb (by omega)) (fun hb => ?_))
          | (refine And.intro (fun hb => ?_) (fun hb => absurd hb (by omega)))
          | (refine And.intro (fun hb => ?_) (fun hb => ?_))
          | (intro hb)
          | (simp only [fv])
          | (conv => whnf)))
        exact hS ih
  refine am_run 400 mt_T_productOver ok_T_productOver (fun K S hK hS => ?_)
  iterate 30 (all_goals (first
    | (refine And.intro (by omega) ?_)
    | (refine And.intro (fun hb => absurd hb (by omega)) (fun hb => ?_))
    | (refine And.intro (fun hb => ?_) (fun hb => absurd hb (by omega)))
    | (refine And.intro (fun hb => ?_) (fun hb => ?_))
    | (intro hb)
    | (conv => whnf)))
  exact hS (loop (V a 1 + 1).toNat 0 (by omega) (by omega) (by omega))
theorem s_M_product {G : am_G} {d : Nat} {sh : Int → Option Nat} {V : am_V} {T : Nat} {Q : Option AV → am_V → am_T → Nat → Prop} {n w r : Int} (hn : 1 ≤ n ∧ n ≤ 10) (hw : w = 0 ∨ w = 1) (hg : m_rgs (fun i => V 93 (0 + i)) n) (hnb : m_nb (fun i => V 93 (0 + i)) n r) (hcat : ∀ j, 0 ≤ j → j ≤ 10 → V 96 j = k_cat j) (hQ : Q (some (vI (pd (if w = 1 then k_cat else k_wt) (fun i => V 93 (0 + i)) n r.toNat))) V (am_RF sh) T) : am_Calls G (d + 2) 111 [vR 86, vI 0, vI n, vI w] V (am_RF sh) T Q := by
  have hr : ∀ i, 0 ≤ i → i < n → 0 ≤ V 93 (0 + i) ∧ V 93 (0 + i) < 1000 := fun i z0 z1 => by
    have := m_rgs_lt hg z0 z1
    omega
  have hr32 : ∀ i, 0 ≤ i → i < 0 + n → am_in32 (V 93 i) := fun i z0 z1 => by
    have := hr i z0 (by omega)
    rw [Int.zero_add] at this
    constructor <;> omega
  have rr : 0 ≤ r ∧ r ≤ 10 := by
    refine ⟨hnb.1, ?_⟩
    rcases hnb.2.2 with e | ⟨i, i1, i2, i3⟩
    · omega
    · have := m_rgs_lt hg i1 i2
      have i3 : V 93 (0 + i) + 1 = r := i3
      omega
  refine am_enter mt_M_product ok_M_product rfl ?_
  have loop : ∀ (jj : Nat) (b : Int) (x6 : Option AV), 0 ≤ b → b ≤ r → r - b < jj → am_Sem G (d + 1) 111 V T Q 6 [some (vR 86), some (vI 0), some (vI n), some (vI w), some (vI (pd (if w = 1 then k_cat else k_wt) (fun i => V 93 (0 + i)) n b.toNat)), some (vI b), x6] [] V (am_RF sh) T 0 0 := by
    intro jj
    induction jj with
    | zero => intro b x6 z0 z1 z2; omega
    | succ jj ih =>
      intro b x6 z0 z1 z2
      by_cases hbn : b = r
      · subst hbn
        refine am_run 400 mt_M_product ok_M_product (fun K S hK hS => ?_)
        iterate 30 (all_goals (first
          | (refine And.intro (by omega) ?_)
          | (refine And.intro (fun hb => absurd hb (by omega)) (fun hb => ?_))
          | (refine And.intro (fun hb => ?_) (fun hb => absurd hb (by omega)))
          | (refine And.intro (fun hb => ?_) (fun hb => ?_))
          | (intro hb)
          | (conv => whnf)))
        refine hK (s_M_blocks (by omega) (by omega) (by omega) hr (fun r' q0 q1 q2 => ?_))
        have er : r' = b := m_nb_uniq (g := fun i => V 93 (0 + i)) ⟨q0, q1, q2⟩ hnb
        subst er
        iterate 30 (all_goals (first
          | (refine And.intro (by omega) ?_)
          | (refine And.intro (fun hb => absurd hb (by omega)) (fun hb => ?_))
          | (refine And.intro (fun hb => ?_) (fun hb => absurd hb (by omega)))
          | (refine And.intro (fun hb => ?_) (fun hb => ?_))
          | (intro hb)
          | (conv => whnf)))
        exact hQ
      · have nx := fun x => ih (b + 1) x (by omega) (by omega) (by omega)
        rw [pd_S _ _ _ _ z0] at nx
        clear ih
        obtain ⟨i, i1, i2, i3⟩ := m_nb_met hg hnb z0 (by omega)
        have rp := m_cg_pos (g := fun i => V 93 (0 + i)) i1 i2 i3
        have rc := m_cg_le (fun i => V 93 (0 + i)) b n.toNat
        have fc := hcat (m_cg (fun i => V 93 (0 + i)) b n.toNat) rc.1 (by omega)
        have fd := hcat (m_cg (fun i => V 93 (0 + i)) b n.toNat - 1) (by omega) (by omega)
        have fw := k_wt_cat rp (by omega)
        have es := m_cnt_cg V 0 b n.toNat
        obtain ⟨A, hA⟩ : ∃ A, A = pd (if w = 1 then k_cat else k_wt) (fun i => V 93 (0 + i)) n b.toNat := ⟨_, rfl⟩
        rw [← hA] at nx ⊢
        obtain ⟨C, hC⟩ : ∃ C, C = m_cg (fun i => V 93 (0 + i)) b n.toNat := ⟨_, rfl⟩
        rw [← hC] at nx rp rc fc fd fw es
        clear hA hC i3
        refine am_run 400 mt_M_product ok_M_product (fun K S hK hS => ?_)
        iterate 30 (all_goals (first
          | (refine And.intro (by omega) ?_)
          | (refine And.intro (fun hb => absurd hb (by omega)) (fun hb => ?_))
          | (refine And.intro (fun hb => ?_) (fun hb => absurd hb (by omega)))
          | (refine And.intro (fun hb => ?_) (fun hb => ?_))
          | (intro hb)
          | (conv => whnf)))
        refine hK (s_M_blocks (by omega) (by omega) (by omega) hr (fun r' q0 q1 q2 => ?_))
        have er : r' = r := m_nb_uniq (g := fun i => V 93 (0 + i)) ⟨q0, q1, q2⟩ hnb
        subst er
        clear q1 q2
        iterate 30 (all_goals (first
          | (refine And.intro (by omega) ?_)
          | (refine And.intro (fun hb => absurd hb (by omega)) (fun hb => ?_))
          | (refine And.intro (fun hb => ?_) (fun hb => absurd hb (by omega)))
          | (refine And.intro (fun hb => ?_) (fun hb => ?_))
          | (intro hb)
          | (conv => whnf)))
        refine hK (s_M_sizeOf (by omega) (by omega) (by omega) hr32 (by omega) ?_)
        rw [es]
        rcases hw with hw | hw
        · rw [if_neg (show ¬ w = 1 by omega), fw] at nx
          by_cases ho : C % 2 = 1
          · rw [if_pos ho] at nx
            iterate 40 (all_goals (first
              | (refine And.intro (by omega) ?_)
              | (refine And.intro (by decide) ?_)
              | (refine And.intro (fun hb => absurd hb (by omega)) (fun hb => ?_))
              | (refine And.intro (fun hb => ?_) (fun hb => absurd hb (by omega)))
              | (refine And.intro (fun hb => ?_) (fun hb => ?_))
              | (intro hb)
              | (simp only [fc, fd])
              | (conv => whnf)))
            exact hS (nx _)
          · rw [if_neg ho] at nx
            iterate 40 (all_goals (first
              | (refine And.intro (by omega) ?_)
              | (refine And.intro (by decide) ?_)
              | (refine And.intro (fun hb => absurd hb (by omega)) (fun hb => ?_))
              | (refine And.intro (fun hb => ?_) (fun hb => absurd hb (by omega)))
              | (refine And.intro (fun hb => ?_) (fun hb => ?_))
              | (intro hb)
              | (simp only [fc, fd])
              | (conv => whnf)))
            exact hS (nx _)
        · rw [if_pos hw] at nx
          iterate 40 (all_goals (first
            | (refine And.intro (by omega) ?_)
            | (refine And.intro (by decide) ?_)
            | (refine And.intro (fun hb => absurd hb (by omega)) (fun hb => ?_))
            | (refine And.intro (fun hb => ?_) (fun hb => absurd hb (by omega)))
            | (refine And.intro (fun hb => ?_) (fun hb => ?_))
            | (intro hb)
            | (simp only [fc, fd])
            | (conv => whnf)))
          exact hS (nx _)
  refine am_run 400 mt_M_product ok_M_product (fun K S hK hS => ?_)
  iterate 30 (all_goals (first
    | (refine And.intro (by omega) ?_)
    | (refine And.intro (fun hb => absurd hb (by omega)) (fun hb => ?_))
    | (refine And.intro (fun hb => ?_) (fun hb => absurd hb (by omega)))
    | (refine And.intro (fun hb => ?_) (fun hb => ?_))
    | (intro hb)
    | (conv => whnf)))
  exact hS (loop (r + 1).toNat 0 _ (by omega) (by omega) (by omega))
