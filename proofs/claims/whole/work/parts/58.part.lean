/-! part -/
theorem s_M_part {G : am_G} {d : Nat} {sh : Int → Option Nat} {V : am_V} {T : Nat} {Q : Option AV → am_V → am_T → Nat → Prop} {q s i n : Int} (h0 : am_in32 q) (h1 : am_in32 s) (h2 : am_in32 i) (h3 : am_in32 n)
    (hV : ∀ s, 0 ≤ s → s < 8 → (V 87 s = -1 ∨ (0 ≤ V 87 s ∧ V 87 s ≤ 2 ∧ 0 ≤ V 88 s ∧ V 88 s ≤ 40)))
    (hI : ∀ j, 0 ≤ j → j < 320 → am_in64 (V 89 j))
    (hB : ¬ ((0 ≤ q ∧ q < 10) ∧ (0 ≤ s ∧ s < 8) ∧ 1 ≤ n ∧ n ≤ 10) → Q (some (vI (-1000001))) (am_up V 86 0 0) (am_RF sh) T)
    (hF : ∀ c, ((0 ≤ q ∧ q < 10) ∧ (0 ≤ s ∧ s < 8) ∧ 1 ≤ n ∧ n ≤ 10) → ((c = 1 ∧ V 87 s < 0) ∨ (c = 2 ∧ 0 ≤ V 87 s ∧ ¬ (0 ≤ i ∧ i + n ≤ V 88 s))) → Q (some (vI (-1000010 - c))) (am_up (am_up V 86 0 0) 86 1 c) (am_RF sh) T)
    (hQ : ((0 ≤ q ∧ q < 10) ∧ (0 ≤ s ∧ s < 8) ∧ 1 ≤ n ∧ n ≤ 10) → 0 ≤ V 87 s → (0 ≤ i ∧ i + n ≤ V 88 s) → ∀ (V' : am_V) (r : Int) (g : Int → Int), m_rgs g n → (∀ x y, 0 ≤ x → x < n → 0 ≤ y → y < n → (g x = g y ↔ V 89 (40 * s + i + x) = V 89 (40 * s + i + y))) → m_kd g n r → V' 90 q = r → (∀ j, j ≠ q → V' 90 j = V 90 j) → V' 91 q = n → (∀ j, j ≠ q → V' 91 j = V 91 j) → (∀ k, 0 ≤ k → k < n → V' 92 (10 * q + k) = g k) → (∀ j, ¬ (10 * q ≤ j ∧ j < 10 * q + n) → V' 92 j = V 92 j) → V' 86 1 = 0 → (∀ j, j ≠ 0 → j ≠ 1 → V' 86 j = V 86 j) → (∀ a, a ≠ 86 → a ≠ 90 → a ≠ 91 → a ≠ 92 → a ≠ 93 → a ≠ 94 → V' a = V a) → Q (some (vI r)) V' (am_RF sh) T) : am_Calls G (d + 6) 86 [vR 86, vI q, vI s, vI i, vI n] V (am_RF sh) T Q := by
  refine am_enter mt_M_part ok_M_part rfl ?_
  have loop : ∀ (jj : Nat) (k : Int) (x6 : Option AV) (W : am_V), ((0 ≤ q ∧ q < 10) ∧ (0 ≤ s ∧ s < 8) ∧ 1 ≤ n ∧ n ≤ 10) → 0 ≤ V 87 s → (0 ≤ i ∧ i + n ≤ V 88 s) → V 88 s ≤ 40 → 0 ≤ k → k ≤ n → n - k < jj → (∀ a, a ≠ 93 → W a = am_up V 86 0 0 a) → (∀ y, 0 ≤ y → y < k → m_lik (fun x => V 89 (40 * s + i + x)) y (W 93 (0 + y))) → am_Sem G (d + 5) 86 V T Q 80 [some (vR 86), some (vI q), some (vI s), some (vI i), some (vI n), some (vI k), x6] [] W (am_RF sh) T 0 0 := by
    intro jj
    induction jj with
    | zero => intro k x6 W c1 c2 c3 c4 q1 q2 q3; omega
    | succ jj ih =>
      intro k x6 W c1 c2 c3 c4 q1 q2 q3 w1 w2
      by_cases hk : k = n
      · subst hk
        have rel := m_lik_rel (g := fun y => W 93 (0 + y)) w2
        refine am_run 400 mt_M_part ok_M_part (fun K S hK hS => ?_)
        iterate 30 (all_goals (first
          | (refine And.intro (by omega) ?_)
          | (refine And.intro (fun hb => absurd hb (by omega)) (fun hb => ?_))
          | (refine And.intro (fun hb => ?_) (fun hb => absurd hb (by omega)))
          | (refine And.intro (fun hb => ?_) (fun hb => ?_))
          | (intro hb)
          | (conv => whnf)))
        refine hK (s_M_lay c1.1 (by omega) (by omega) (by omega) (fun j a b => ?_) (fun V' r g e1 e2 e3 e4 e5 e6 e7 e8 e9 e10 e11 e12 => ?_))
        · have := w2 j a (by omega)
          rw [Int.zero_add] at this
          obtain ⟨z1, z2, -⟩ := this
          constructor <;> omega
        · iterate 30 (all_goals (first
            | (refine And.intro (by omega) ?_)
            | (refine And.intro (fun hb => absurd hb (by omega)) (fun hb => ?_))
            | (refine And.intro (fun hb => ?_) (fun hb => absurd hb (by omega)))
            | (refine And.intro (fun hb => ?_) (fun hb => ?_))
            | (intro hb)
            | (conv => whnf)))
          refine hQ c1 c2 c3 V' r g e1 (fun x y a1 a2 a3 a4 => by rw [e2 x y a1 a2 a3 a4]; exact rel x y a1 a2 a3 a4) e3 e4 (fun j a => by rw [e5 j a, w1 90 (by decide), am_up_ne (by decide)]) e6 (fun j a => by rw [e7 j a, w1 91 (by decide), am_up_ne (by decide)]) e8 (fun j a => by rw [e9 j a, w1 92 (by decide), am_up_ne (by decide)]) e10 (fun j a b => by rw [e11 j b, w1 86 (by decide), am_up_at, if_neg a]) (fun a a1 a2 a3 a4 a5 a6 => by rw [e12 a a1 a2 a3 a4 a5 a6, w1 a a5, am_up_ne a1])
      · have inner : ∀ (j2 : Nat) (y : Int) (U : am_V), -1 ≤ y → y < k → y + 1 < j2 → (∀ a, a ≠ 93 → U a = am_up V 86 0 0 a) → (∀ y, 0 ≤ y → y < k → m_lik (fun x => V 89 (40 * s + i + x)) y (U 93 (0 + y))) → ((U 93 (0 + k) = k ∧ ∀ z, y < z → z < k → V 89 (40 * s + i + z) ≠ V 89 (40 * s + i + k)) ∨ m_lik (fun x => V 89 (40 * s + i + x)) k (U 93 (0 + k))) → am_Sem G (d + 5) 86 V T Q 104 [some (vR 86), some (vI q), some (vI s), some (vI i), some (vI n), some (vI k), some (vI y)] [] U (am_RF sh) T 0 0 := by
          intro j2
          induction j2 with
          | zero => intro y U a b c; omega
          | succ j2 ih2 =>
            intro y U a b c u1 u2 u3
            by_cases hy : y = -1
            · have fin : m_lik (fun x => V 89 (40 * s + i + x)) k (U 93 (0 + k)) := by
                rcases u3 with ⟨e1, e2⟩ | e
                · rw [e1]
                  exact ⟨by omega, by omega, rfl, fun z z1 z2 => e2 z (by omega) z2⟩
                · exact e
              refine am_run 400 mt_M_part ok_M_part (fun K S hK hS => ?_)
              iterate 30 (all_goals (first
                | (refine And.intro (by omega) ?_)
                | (refine And.intro (fun hb => absurd hb (by omega)) (fun hb => ?_))
                | (refine And.intro (fun hb => ?_) (fun hb => absurd hb (by omega)))
                | (refine And.intro (fun hb => ?_) (fun hb => ?_))
                | (intro hb)
                | (conv => whnf)))
              refine hS (ih (k + 1) _ U c1 c2 c3 c4 (by omega) (by omega) (by omega) u1 (fun z z1 z2 => ?_))
              by_cases e : z = k
              · rw [e]; exact fin
              · exact u2 z z1 (by omega)
            · have e89 : ∀ z, U 89 z = V 89 z := fun z => by rw [u1 89 (by decide), am_up_ne (by decide)]
              have r1 : am_in64 (U 89 (40 * s + i + y)) := by rw [e89]; exact hI _ (by omega) (by omega)
              have r2 : am_in64 (U 89 (40 * s + i + k)) := by rw [e89]; exact hI _ (by omega) (by omega)
              have lk := u2 y (by omega) b
              refine am_run 400 mt_M_part ok_M_part (fun K S hK hS => ?_)
              iterate 40 (all_goals (first
                | (refine And.intro (by omega) ?_)
                | (refine And.intro (⟨r1, r2⟩) ?_)
                | (refine And.intro (fun hb => absurd hb (by omega)) (fun hb => ?_))
                | (refine And.intro (fun hb => ?_) (fun hb => absurd hb (by omega)))
                | (refine And.intro (fun hb => ?_) (fun hb => ?_))
                | (intro hb)
                | (conv => whnf)))
              all_goals refine hS (ih2 (y - 1) _ (by omega) (by omega) (by omega) (fun a ha => by rw [am_up_ne ha, u1 a ha]) (fun z z1 z2 => by rw [am_up_at, if_neg (by omega)]; exact u2 z z1 z2) ?_)
              all_goals rw [am_up_at, if_pos rfl]
              · have hne : ¬ U 89 (40 * s + i + y) = U 89 (40 * s + i + k) := by assumption
                rw [e89, e89] at hne
                rcases u3 with ⟨e1, e2⟩ | e
                · refine Or.inl ⟨e1, fun z z1 z2 => ?_⟩
                  by_cases e : z = y
                  · rw [e]; exact hne
                  · exact e2 z (by omega) z2
                · exact Or.inr e
              · have he : U 89 (40 * s + i + y) = U 89 (40 * s + i + k) := by assumption
                rw [e89, e89] at he
                obtain ⟨l1, l2, l3, l4⟩ := lk
                exact Or.inr ⟨l1, by omega, l3.trans he, fun z z1 z2 => fun e => l4 z z1 z2 (e.trans he.symm)⟩
        refine am_run 400 mt_M_part ok_M_part (fun K S hK hS => ?_)
        iterate 40 (all_goals (first
          | (refine And.intro (by omega) ?_)
          | (refine And.intro (fun hb => absurd hb (by omega)) (fun hb => ?_))
          | (refine And.intro (fun hb => ?_) (fun hb => absurd hb (by omega)))
          | (refine And.intro (fun hb => ?_) (fun hb => ?_))
          | (intro hb)
          | (conv => whnf)))
        refine hS (inner (k + 1).toNat (k - 1) _ (by omega) (by omega) (by omega) (fun a ha => by rw [am_up_ne ha, w1 a ha]) (fun z z1 z2 => by rw [am_up_at, if_neg (by omega)]; exact w2 z z1 z2) (Or.inl ⟨by rw [am_up_at, if_pos rfl], fun z z1 z2 => absurd z2 (by omega)⟩))
  refine am_run 400 mt_M_part ok_M_part (fun K S hK hS => ?_)
  iterate 30 (all_goals (first
    | (refine And.intro (by omega) ?_)
    | (refine And.intro (fun hb => absurd hb (by omega)) (fun hb => ?_))
    | (refine And.intro (fun hb => ?_) (fun hb => absurd hb (by omega)))
    | (refine And.intro (fun hb => ?_) (fun hb => ?_))
    | (intro hb)
    | (conv => whnf)))
  refine hK (s_M_isPlace h0 (fun r hr => ?_))
  iterate 30 (all_goals (first
    | (refine And.intro (by omega) ?_)
    | (refine And.intro (fun hb => absurd hb (by omega)) (fun hb => ?_))
    | (refine And.intro (fun hb => ?_) (fun hb => absurd hb (by omega)))
    | (refine And.intro (fun hb => ?_) (fun hb => ?_))
    | (intro hb)
    | (conv => whnf)))
  · exact hB (by omega)
  refine hK (s_M_isSheet h1 (fun r2 hr2 => ?_))
  iterate 30 (all_goals (first
    | (refine And.intro (by omega) ?_)
    | (refine And.intro (fun hb => absurd hb (by omega)) (fun hb => ?_))
    | (refine And.intro (fun hb => ?_) (fun hb => absurd hb (by omega)))
    | (refine And.intro (fun hb => ?_) (fun hb => ?_))
    | (intro hb)
    | (conv => whnf)))
  · exact hB (by omega)
  refine hK (s_M_in (by omega) (by omega) (by omega) (fun r3 hr3 => ?_))
  by_cases hc : (0 ≤ q ∧ q < 10) ∧ (0 ≤ s ∧ s < 8) ∧ 1 ≤ n ∧ n ≤ 10
  · have vs := hV s hc.2.1.1 hc.2.1.2
    iterate 90 (all_goals (first
      | (refine And.intro (by omega) ?_)
      | (refine And.intro (by decide) ?_)
      | (refine And.intro (fun hb => absurd hb (by omega)) (fun hb => ?_))
      | (refine And.intro (fun hb => ?_) (fun hb => absurd hb (by omega)))
      | (refine And.intro (fun hb => ?_) (fun hb => ?_))
      | (intro hb)
      | (simp +decide only [am_up_ne, am_up_at, reduceIte])
      | (conv => whnf)))
    all_goals first
      | exact hS (loop (n + 1).toNat 0 _ _ hc (by omega) (by omega) (by omega) (by omega) (by omega) (by omega) (fun _ _ => rfl) (fun y a b => absurd b (by omega)))
      | exact hK (s_M_found (hF 2 hc (by omega)))
      | exact hK (s_M_found (hF 1 hc (by omega)))
  · iterate 30 (all_goals (first
      | (refine And.intro (by omega) ?_)
      | (refine And.intro (fun hb => absurd hb (by omega)) (fun hb => ?_))
      | (refine And.intro (fun hb => ?_) (fun hb => absurd hb (by omega)))
      | (refine And.intro (fun hb => ?_) (fun hb => ?_))
      | (intro hb)
      | (conv => whnf)))
    exact hB (by omega)
theorem pr_part {G : am_G} {d : Nat} {sh : Int → Option Nat} {V : am_V} {T : Nat} {p : Int} {f0 : Int → Int} {q s i n : Int} (hI : II V sh T p f0) (h0 : am_in32 q) (h1 : am_in32 s) (h2 : am_in32 i) (h3 : am_in32 n) : am_Calls G (d + 9) 5 [vR 3, vI q, vI s, vI i, vI n] V (am_RF sh) T (pr_int G (d + 9) 86 [vR 86, vI q, vI s, vI i, vI n] p f0) := by
  have hJ := hI.1
  have hT := hJ.2.2.2.1.1
  have hst := hI.2
  have hVV : ∀ s, 0 ≤ s → s < 8 → (V 87 s = -1 ∨ (0 ≤ V 87 s ∧ V 87 s ≤ 2 ∧ 0 ≤ V 88 s ∧ V 88 s ≤ 40)) := fun s q1 q2 => by
    have := hJ.2.1 s q1 q2
    omega
  have hII : ∀ j, 0 ≤ j → j < 320 → am_in64 (V 89 j) := fun j a b => by
    have := hJ.2.2.1 (j / 40) (by omega) (by omega) (j % 40) (by omega) (by omega)
    rw [show 40 * (j / 40) + j % 40 = j by omega] at this
    rw [this.2]
    exact this.1
  have bad : ¬ ((0 ≤ q ∧ q < 10) ∧ (0 ≤ s ∧ s < 8) ∧ 1 ≤ n ∧ n ≤ 10) → pr_int G (d + 9) 86 [vR 86, vI q, vI s, vI i, vI n] p f0 (some (vI (-1000001))) V (am_RF sh) T := fun hc =>
    pr_i (by omega) hJ.1 (s_M_part h0 h1 h2 h3 hVV hII (fun _ => pr_k (II_bad hI)) (fun c q => absurd q hc) (fun q => absurd q hc))
  by_cases hc : (0 ≤ q ∧ q < 10) ∧ (0 ≤ s ∧ s < 8) ∧ 1 ≤ n ∧ n ≤ 10
  · have vs := hJ.2.1 s hc.2.1.1 hc.2.1.2
    have find : ∀ c, 0 ≤ c ∧ c ≤ 5 → ((c = 1 ∧ V 87 s < 0) ∨ (c = 2 ∧ 0 ≤ V 87 s ∧ ¬ (0 ≤ i ∧ i + n ≤ V 88 s))) → pr_int G (d + 9) 86 [vR 86, vI q, vI s, vI i, vI n] p f0 (some (vI (-1000010 - c))) (am_up V 3 17 c) (am_RF sh) T := by
      intro c hc0 hcc
      refine pr_i (by omega) (by simp +decide [am_up_ne, am_up_at, reduceIte]; exact hJ.1) (s_M_part h0 h1 h2 h3 (by simp +decide only [am_up_ne, am_up_at, reduceIte]; exact hVV) (by simp +decide only [am_up_ne, am_up_at, reduceIte]; exact hII) (fun q => absurd hc q) (fun c' _ hc' => ?_) (fun _ q2 q3 => ?_))
      · simp +decide only [am_up_ne, am_up_at, reduceIte] at hc'
        obtain rfl : c' = c := by omega
        exact pr_k (II_find2 hI hc0)
      · exfalso
        simp +decide only [am_up_ne, am_up_at, reduceIte] at q2 q3
        omega
    have T_0 : 107 ≤ T := hT.1
    have T_l := th_lay hT
    have T_b := th_ble hT
    have T_q := th_beq hT
    have T_m := th_lay1 hT
    have T_c := th_ble1 hT
    have T_r := th_beq1 hT
    have T_R : am_RF sh T 2 = some (T + 1) := th_RF hT
    have T_z : Nat.beq (T + 1) 0 = false := rfl
    have T_3 : Nat.ble 3 (T + 1) = true := th_ble3 hT
    have T_i : ∀ r, am_isr 3 (vR T :: r) = true := th_isr hT
    refine am_enter mt_F_part ok_F_part rfl ?_
    refine am_run 400 mt_F_part ok_F_part (fun K S hK hS => ?_)
    iterate 30 (all_goals (first
      | (refine And.intro (by omega) ?_)
      | (refine And.intro (fun hb => absurd hb (by omega)) (fun hb => ?_))
      | (refine And.intro (fun hb => ?_) (fun hb => absurd hb (by omega)))
      | (refine And.intro (fun hb => ?_) (fun hb => ?_))
      | (intro hb)
      | (conv => whnf)))
    refine hK (s_F_noPlace h0 (fun r hr => ?_))
    iterate 30 (all_goals (first
      | (refine And.intro (by omega) ?_)
      | (refine And.intro (fun hb => absurd hb (by omega)) (fun hb => ?_))
      | (refine And.intro (fun hb => ?_) (fun hb => absurd hb (by omega)))
      | (refine And.intro (fun hb => ?_) (fun hb => ?_))
      | (intro hb)
      | (conv => whnf)))
    refine hK (s_F_noSheet h1 (fun r2 hr2 => ?_))
    iterate 60 (all_goals (first
      | (refine And.intro (by omega) ?_)
      | (refine And.intro (fun hb => absurd hb (by omega)) (fun hb => ?_))
      | (refine And.intro (fun hb => ?_) (fun hb => absurd hb (by omega)))
      | (refine And.intro (fun hb => ?_) (fun hb => ?_))
      | (intro hb)
      | (conv => whnf)))
    all_goals (try exact hK (s_F_finding (find 1 (by omega) (by omega))))
    refine hK (s_F_noRun hc.2.1 h2 h3 (by omega) (fun r3 hr3 => ?_))
    iterate 30 (all_goals (first
      | (refine And.intro (by omega) ?_)
      | (refine And.intro (fun hb => absurd hb (by omega)) (fun hb => ?_))
      | (refine And.intro (fun hb => ?_) (fun hb => absurd hb (by omega)))
      | (refine And.intro (fun hb => ?_) (fun hb => ?_))
      | (intro hb)
      | (conv => whnf)))
    all_goals (try exact hK (s_F_finding (find 2 (by omega) (by omega))))
    have hio : 0 ≤ i ∧ i + n ≤ V 14 s := by omega
    have hio2 : 0 ≤ V 14 s ∧ V 14 s ≤ 40 ∧ V 88 s = V 14 s ∧ 0 ≤ V 87 s := by omega
    refine hK (s_F_labelLikeItems hc.2.1 hc.2.2 (by omega) (fun j a b => (hJ.2.2.1 s hc.2.1.1 hc.2.1.2 j a b).1) (fun W w1 w2 => ?_))
    have hz : am_zeroR (am_RF sh) T 3 6 = some 30 := by rw [am_zeroR_ne (by omega)]; rfl
    iterate 30 (all_goals (first
      | (refine And.intro (by omega) ?_)
      | (refine And.intro (by decide) ?_)
      | (refine And.intro (fun hb => absurd hb (by omega)) (fun hb => ?_))
      | (refine And.intro (fun hb => ?_) (fun hb => absurd hb (by omega)))
      | (refine And.intro (fun hb => ?_) (fun hb => ?_))
      | (intro hb)
      | (refine am_if_mk (T_i _) ?_)
      | (simp only [T_l, T_b, T_q, T_m, T_c, T_r, T_R, T_z, T_3, hz])
      | (conv => whnf)))
    refine hK (s_T_init hT hc.2.2 (fun j a b => ?_) (fun U u1 u2 u3 => ?_))
    · rw [am_zero_ne (by omega)]
      obtain ⟨z1, z2, -⟩ := w2 j a b
      constructor <;> omega
    · iterate 30 (all_goals (first
        | (refine And.intro (by omega) ?_)
        | (refine And.intro (by decide) ?_)
        | (refine And.intro (fun hb => absurd hb (by omega)) (fun hb => ?_))
        | (refine And.intro (fun hb => ?_) (fun hb => absurd hb (by omega)))
        | (refine And.intro (fun hb => ?_) (fun hb => ?_))
        | (intro hb)
        | (refine am_if_mk (T_i _) ?_)
        | (simp only [T_l, T_b, T_q, T_m, T_c, T_r, T_R, T_z, T_3])
        | (conv => whnf)))
      refine hK (s_F_shelve hc.1 hT ?_)
      iterate 30 (all_goals (first
        | (refine And.intro (by omega) ?_)
        | (refine And.intro (fun hb => absurd hb (by omega)) (fun hb => ?_))
        | (refine And.intro (fun hb => ?_) (fun hb => absurd hb (by omega)))
        | (refine And.intro (fun hb => ?_) (fun hb => ?_))
        | (intro hb)
        | (conv => whnf)))
      have uV : ∀ x, ns x → x < T → am_up U 3 17 0 x = V x := fun x a b => by rw [am_up_ne a.1, u1 x (by omega) (by omega), am_zero_ne (by omega), w1 x (by omega)]
      have u3' : ∀ j, U 3 j = V 3 j := fun j => by rw [u1 3 (by omega) (by omega), am_zero_ne (by omega), w1 3 (by decide)]
      have hkd := m_kd_rng u2.2.2.2.2.2
      have ux : ∀ x, x < 107 → x ≠ 3 → x ≠ 30 → am_up U 3 17 0 x = V x := fun x a b c => by rw [am_up_ne b, u1 x (by omega) (by omega), am_zero_ne (by omega), w1 x c]
      have rel : ∀ x y, 0 ≤ x → x < n → 0 ≤ y → y < n → (U (T + 1) x = U (T + 1) y ↔ V 89 (40 * s + i + x) = V 89 (40 * s + i + y)) := fun x y a1 a2 a3 a4 => by
        have e := u3 x y a1 a2 a3 a4
        rw [am_zero_ne (by omega)] at e
        have e2 := m_lik_rel (g := W 30) w2 x y a1 a2 a3 a4
        have i1 := (hJ.2.2.1 s hc.2.1.1 hc.2.1.2 (i + x) (by omega) (by omega)).2
        have i2 := (hJ.2.2.1 s hc.2.1.1 hc.2.1.2 (i + y) (by omega) (by omega)).2
        rw [e, e2, show 40 * s + i + x = 40 * s + (i + x) by omega, show 40 * s + i + y = 40 * s + (i + y) by omega, i1, i2]
      refine pr_i (by omega) (by rw [ux 0 (by decide) (by decide) (by decide)]; exact hJ.1) (s_M_part h0 h1 h2 h3 (by rw [ux 87 (by decide) (by decide) (by decide), ux 88 (by decide) (by decide) (by decide)]; exact hVV) (by rw [ux 89 (by decide) (by decide) (by decide)]; exact hII) (fun q => absurd hc q) (fun c' _ hc' => ?_) (fun _ _ _ V' r g e1 e2 e3 e4 e5 e6 e7 e8 e9 e10 e11 e12 => ?_))
      · exfalso
        rw [ux 87 (by decide) (by decide) (by decide), ux 88 (by decide) (by decide) (by decide)] at hc'
        omega
      · rw [ux 89 (by decide) (by decide) (by decide)] at e2
        have tU : am_up U 3 17 0 T = U T := am_up_ne (by omega)
        have tU1 : am_up U 3 17 0 (T + 1) = U (T + 1) := am_up_ne (by omega)
        obtain ⟨er, hfin⟩ := II_lay (V1 := am_up U 3 17 0) (V2 := V') hI hc.1 hT (Nat.le_refl _) uV (fun j q => by rw [am_up_at, if_neg q, u3' j]) am_up_same ⟨ux 65 (by decide) (by decide) (by decide), ux 76 (by decide) (by decide) (by decide)⟩ (fun j _ _ => by rw [ux 86 (by decide) (by decide) (by decide)]) (th_ok_eq u2 tU tU1) e1 (fun x y a1 a2 a3 a4 => by rw [tU1, e2 x y a1 a2 a3 a4, rel x y a1 a2 a3 a4]) e3 e4 e5 e6 e7 e8 e9 e10 e11 e12
        rw [tU] at er
        rw [er]
        first | exact pr_k (hfin) | exact pr_k2 (hfin)
  · refine am_enter mt_F_part ok_F_part rfl ?_
    refine am_run 400 mt_F_part ok_F_part (fun K S hK hS => ?_)
    iterate 30 (all_goals (first
      | (refine And.intro (by omega) ?_)
      | (refine And.intro (fun hb => absurd hb (by omega)) (fun hb => ?_))
      | (refine And.intro (fun hb => ?_) (fun hb => absurd hb (by omega)))
      | (refine And.intro (fun hb => ?_) (fun hb => ?_))
      | (intro hb)
      | (conv => whnf)))
    refine hK (s_F_noPlace h0 (fun r hr => ?_))
    iterate 30 (all_goals (first
      | (refine And.intro (by omega) ?_)
      | (refine And.intro (fun hb => absurd hb (by omega)) (fun hb => ?_))
      | (refine And.intro (fun hb => ?_) (fun hb => absurd hb (by omega)))
      | (refine And.intro (fun hb => ?_) (fun hb => ?_))
      | (intro hb)
      | (conv => whnf)))
    · exact bad hc
    refine hK (s_F_noSheet h1 (fun r2 hr2 => ?_))
    iterate 30 (all_goals (first
      | (refine And.intro (by omega) ?_)
      | (refine And.intro (fun hb => absurd hb (by omega)) (fun hb => ?_))
      | (refine And.intro (fun hb => ?_) (fun hb => absurd hb (by omega)))
      | (refine And.intro (fun hb => ?_) (fun hb => ?_))
      | (intro hb)
      | (conv => whnf)))
    all_goals exact bad hc
