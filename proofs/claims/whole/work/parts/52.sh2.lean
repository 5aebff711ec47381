/-! sheets: set, copy -/
theorem pr_set {G : am_G} {d : Nat} {sh : Int → Option Nat} {V : am_V} {T : Nat} {p : Int} {f0 : Int → Int} {s i v : Int} (hI : II V sh T p f0) (h0 : am_in32 s) (h1 : am_in32 i) (h2 : am_in64 v) : am_Calls G (d + 9) 2 [vR 3, vI s, vI i, vJ v] V (am_RF sh) T (pr_long G (d + 9) 73 [vR 86, vI s, vI i, vJ v] p f0) := by
  obtain ⟨hJ, hst⟩ := hI
  have hst2 : V 86 1 = V 3 17 ∧ 0 ≤ V 3 17 ∧ V 3 17 ≤ 5 := hst
  have b32 := m_bm32 v
  have b8 := m_bm8 (Int.bmod v 4294967296)
  by_cases hs : 0 ≤ s ∧ s < 8
  · have hsh := hJ.2.1 s hs.1 hs.2
    refine am_enter mt_F_set ok_F_set rfl ?_
    refine am_run 400 mt_F_set ok_F_set (fun K S hK hS => ?_)
    iterate 30 (all_goals (first
      | (refine And.intro (by omega) ?_)
      | (refine And.intro (fun hb => absurd hb (by omega)) (fun hb => ?_))
      | (refine And.intro (fun hb => ?_) (fun hb => absurd hb (by omega)))
      | (refine And.intro (fun hb => ?_) (fun hb => ?_))
      | (intro hb)
      | (conv => whnf)))
    refine hK (s_F_noSheet h0 (fun r hr => ?_))
    have find : ∀ c, (c = 1 ∧ V 87 s = -1) ∨ (c = 2 ∧ V 87 s = V 13 s ∧ (0 ≤ V 13 s ∧ V 13 s ≤ 2) ∧ V 88 s = V 14 s ∧ (0 ≤ V 14 s ∧ V 14 s ≤ 40) ∧ ¬ (0 ≤ i ∧ i < V 14 s)) → pr_long G (d + 9) 73 [vR 86, vI s, vI i, vJ v] p f0 (some (vJ (-1000010 - c))) (am_up V 3 17 c) (am_RF sh) T := by
      intro c hc
      have k87 : am_up V 3 17 c 87 s = V 87 s := by simp +decide [am_up_ne, am_up_at, reduceIte]
      have k88 : am_up V 3 17 c 88 s = V 88 s := by simp +decide [am_up_ne, am_up_at, reduceIte]
      refine pr_j (by omega) (by simp +decide [am_up_ne, am_up_at, reduceIte]; exact hJ.1) ?_
      generalize hW : am_up V 3 17 c = W at k87 k88
      have fin : pr_end p f0 (some (vJ (-1000010 - c))) (some (vJ (-1000010 - c))) (am_up (am_up (am_up W 86 0 0) 86 1 0) 86 1 c) (am_RF sh) T := by
        refine pr_e ?_ ?_
        · rw [← hW]
          exact IJ_86 (IJ_86 (IJ_86 (IJ_3 hJ) (Or.inl rfl)) (Or.inr rfl)) (Or.inr rfl)
        · rw [← hW]; simp +decide [am_up_ne, am_up_at, reduceIte]; omega
      refine am_enter mt_M_set ok_M_set rfl ?_
      refine am_run 400 mt_M_set ok_M_set (fun K S hK hS => ?_)
      iterate 30 (all_goals (first
        | (refine And.intro (by omega) ?_)
        | (refine And.intro (fun hb => absurd hb (by omega)) (fun hb => ?_))
        | (refine And.intro (fun hb => ?_) (fun hb => absurd hb (by omega)))
        | (refine And.intro (fun hb => ?_) (fun hb => ?_))
        | (intro hb)
        | (conv => whnf)))
      refine hK (s_M_isSheet h0 (fun r2 hr2 => ?_))
      rcases hc with ⟨rfl, e87⟩ | ⟨rfl, e87, e13, e88, e14, en⟩
      · iterate 30 (all_goals (first
          | (refine And.intro (by omega) ?_)
          | (refine And.intro (by decide) ?_)
          | (refine And.intro (fun hb => absurd hb (by omega)) (fun hb => ?_))
          | (refine And.intro (fun hb => ?_) (fun hb => absurd hb (by omega)))
          | (refine And.intro (fun hb => ?_) (fun hb => ?_))
          | (intro hb)
          | (simp +decide only [am_up_ne, am_up_at, reduceIte, k87])
          | (conv => whnf)))
        refine hK (s_M_found ?_)
        iterate 30 (all_goals (first
          | (refine And.intro (by omega) ?_)
          | (refine And.intro (fun hb => absurd hb (by omega)) (fun hb => ?_))
          | (refine And.intro (fun hb => ?_) (fun hb => absurd hb (by omega)))
          | (refine And.intro (fun hb => ?_) (fun hb => ?_))
          | (intro hb)
          | (conv => whnf)))
        exact fin
      · iterate 30 (all_goals (first
          | (refine And.intro (by omega) ?_)
          | (refine And.intro (by decide) ?_)
          | (refine And.intro (fun hb => absurd hb (by omega)) (fun hb => ?_))
          | (refine And.intro (fun hb => ?_) (fun hb => absurd hb (by omega)))
          | (refine And.intro (fun hb => ?_) (fun hb => ?_))
          | (intro hb)
          | (simp +decide only [am_up_ne, am_up_at, reduceIte, k87, k88])
          | (conv => whnf)))
        refine hK (s_M_in (by omega) (by omega) (by omega) (fun r3 hr3 => ?_))
        iterate 30 (all_goals (first
          | (refine And.intro (by omega) ?_)
          | (refine And.intro (by decide) ?_)
          | (refine And.intro (fun hb => absurd hb (by omega)) (fun hb => ?_))
          | (refine And.intro (fun hb => ?_) (fun hb => absurd hb (by omega)))
          | (refine And.intro (fun hb => ?_) (fun hb => ?_))
          | (intro hb)
          | (simp +decide only [am_up_ne, am_up_at, reduceIte, k87, k88])
          | (conv => whnf)))
        refine hK (s_M_found ?_)
        iterate 30 (all_goals (first
          | (refine And.intro (by omega) ?_)
          | (refine And.intro (fun hb => absurd hb (by omega)) (fun hb => ?_))
          | (refine And.intro (fun hb => ?_) (fun hb => absurd hb (by omega)))
          | (refine And.intro (fun hb => ?_) (fun hb => ?_))
          | (intro hb)
          | (conv => whnf)))
        exact fin
    iterate 30 (all_goals (first
      | (refine And.intro (by omega) ?_)
      | (refine And.intro (fun hb => absurd hb (by omega)) (fun hb => ?_))
      | (refine And.intro (fun hb => ?_) (fun hb => absurd hb (by omega)))
      | (refine And.intro (fun hb => ?_) (fun hb => ?_))
      | (intro hb)
      | (conv => whnf)))
    · refine hK (s_F_finding ?_)
      iterate 30 (all_goals (first
        | (refine And.intro (by omega) ?_)
        | (refine And.intro (fun hb => absurd hb (by omega)) (fun hb => ?_))
        | (refine And.intro (fun hb => ?_) (fun hb => absurd hb (by omega)))
        | (refine And.intro (fun hb => ?_) (fun hb => ?_))
        | (intro hb)
        | (conv => whnf)))
      exact find 2 (Or.inr ⟨rfl, by omega⟩)
    · have e14 : 0 ≤ V 14 s ∧ V 14 s ≤ 40 := by omega
      have e87 : V 87 s = V 13 s ∧ 0 ≤ V 13 s ∧ V 13 s ≤ 2 := by omega
      have e88 : V 88 s = V 14 s := by omega
      have k13 : am_up V 3 17 0 13 s = V 13 s := by simp +decide [am_up_ne, am_up_at, reduceIte]
      refine hK (s_F_lowestBits (by rw [k13]; omega) ?_)
      rw [k13]
      have lowr := m_low_in (l := V 13 s) h2
      have kk : am_up (am_up V 3 17 0) 4 (64 * s + i) (m_low (V 13 s) v) 4 (64 * s + i) = m_low (V 13 s) v := am_up_same
      iterate 30 (all_goals (first
        | (refine And.intro (by omega) ?_)
        | (refine And.intro (by decide) ?_)
        | (refine And.intro (fun hb => absurd hb (by omega)) (fun hb => ?_))
        | (refine And.intro (fun hb => ?_) (fun hb => absurd hb (by omega)))
        | (refine And.intro (fun hb => ?_) (fun hb => ?_))
        | (intro hb)
        | (simp only [kk])
        | (conv => whnf)))
      refine pr_j lowr (by simp +decide [am_up_ne, am_up_at, reduceIte]; exact hJ.1) ?_
      have k87 : am_up (am_up V 3 17 0) 4 (64 * s + i) (m_low (V 13 s) v) 87 s = V 13 s := by simp +decide [am_up_ne, am_up_at, reduceIte]; omega
      have k88 : am_up (am_up V 3 17 0) 4 (64 * s + i) (m_low (V 13 s) v) 88 s = V 14 s := by simp +decide [am_up_ne, am_up_at, reduceIte]; omega
      generalize hW : am_up (am_up V 3 17 0) 4 (64 * s + i) (m_low (V 13 s) v) = W at k87 k88
      have fin : ∀ x, x = m_low (V 13 s) v → pr_end p f0 (some (vJ (m_low (V 13 s) v))) (some (vJ x)) (am_up (am_up (am_up W 86 0 0) 86 1 0) 89 (40 * s + i) x) (am_RF sh) T := by
        intro x hx
        subst hx
        refine pr_e (IJ_sh hJ (fun a q q1 q2 q3 q4 q5 q6 => ?_) (fun j q => ?_) (fun j q1 q2 => ?_) ⟨?_, ?_⟩ (fun x a b => ?_) (fun x a b j c e => ?_)) ?_
        · rw [← hW]; simp +decide [am_up_ne, am_up_at, reduceIte, q.1, q.2.1, q1, q6]
        · rw [← hW]; simp +decide [am_up_ne, am_up_at, reduceIte, q]
        · rw [← hW]; simp +decide [am_up_ne, am_up_at, reduceIte, q1, q2]
        · rw [← hW]; simp +decide [am_up_ne, am_up_at, reduceIte]
        · rw [← hW]; simp +decide [am_up_ne, am_up_at, reduceIte]
        · rw [← hW]; simp +decide [am_up_ne, am_up_at, reduceIte]; exact hJ.2.1 x a b
        · rw [← hW]
          have := hJ.2.2.1 x a b j c e
          by_cases e2 : x = s ∧ j = i
          · rw [e2.1, e2.2]
            simp +decide [am_up_ne, am_up_at, reduceIte]
            exact lowr
          · have n1 : ¬ (40 * x + j = 40 * s + i) := by omega
            have n2 : ¬ (64 * x + j = 64 * s + i) := by omega
            simp +decide only [am_up_ne, am_up_at, reduceIte, n1, n2]
            exact this
        · rw [← hW]; simp +decide [am_up_ne, am_up_at, reduceIte]
      refine am_enter mt_M_set ok_M_set rfl ?_
      refine am_run 400 mt_M_set ok_M_set (fun K S hK hS => ?_)
      iterate 30 (all_goals (first
        | (refine And.intro (by omega) ?_)
        | (refine And.intro (fun hb => absurd hb (by omega)) (fun hb => ?_))
        | (refine And.intro (fun hb => ?_) (fun hb => absurd hb (by omega)))
        | (refine And.intro (fun hb => ?_) (fun hb => ?_))
        | (intro hb)
        | (conv => whnf)))
      refine hK (s_M_isSheet h0 (fun r2 hr2 => ?_))
      iterate 30 (all_goals (first
        | (refine And.intro (by omega) ?_)
        | (refine And.intro (by decide) ?_)
        | (refine And.intro (fun hb => absurd hb (by omega)) (fun hb => ?_))
        | (refine And.intro (fun hb => ?_) (fun hb => absurd hb (by omega)))
        | (refine And.intro (fun hb => ?_) (fun hb => ?_))
        | (intro hb)
        | (simp +decide only [am_up_ne, am_up_at, reduceIte, k87, k88])
        | (conv => whnf)))
      refine hK (s_M_in (by omega) (by omega) (by omega) (fun r3 hr3 => ?_))
      have k87b : am_up (am_up W 86 0 0) 86 1 0 87 s = V 13 s := by simp +decide [am_up_ne, am_up_at, reduceIte]; exact k87
      iterate 30 (all_goals (first
        | (refine And.intro (by omega) ?_)
        | (refine And.intro (by decide) ?_)
        | (refine And.intro (b32) ?_)
        | (refine And.intro (b8) ?_)
        | (refine And.intro (fun hb => absurd hb (by omega)) (fun hb => ?_))
        | (refine And.intro (fun hb => ?_) (fun hb => absurd hb (by omega)))
        | (refine And.intro (fun hb => ?_) (fun hb => ?_))
        | (intro hb)
        | (simp only [k87b, am_up_same])
        | (conv => whnf)))
      · exact fin v (by rw [m_low, if_neg (by omega), if_neg (by omega)])
      · exact fin _ (by rw [m_low, if_neg (by omega), if_pos (by omega)])
      · exact fin _ (by rw [m_low, if_pos (by omega)])
    · refine hK (s_F_finding ?_)
      iterate 30 (all_goals (first
        | (refine And.intro (by omega) ?_)
        | (refine And.intro (fun hb => absurd hb (by omega)) (fun hb => ?_))
        | (refine And.intro (fun hb => ?_) (fun hb => absurd hb (by omega)))
        | (refine And.intro (fun hb => ?_) (fun hb => ?_))
        | (intro hb)
        | (conv => whnf)))
      exact find 2 (Or.inr ⟨rfl, by omega⟩)
    · refine hK (s_F_finding ?_)
      iterate 30 (all_goals (first
        | (refine And.intro (by omega) ?_)
        | (refine And.intro (fun hb => absurd hb (by omega)) (fun hb => ?_))
        | (refine And.intro (fun hb => ?_) (fun hb => absurd hb (by omega)))
        | (refine And.intro (fun hb => ?_) (fun hb => ?_))
        | (intro hb)
        | (conv => whnf)))
      exact find 1 (Or.inl ⟨rfl, by omega⟩)
  · refine am_enter mt_F_set ok_F_set rfl ?_
    refine am_run 400 mt_F_set ok_F_set (fun K S hK hS => ?_)
    iterate 30 (all_goals (first
      | (refine And.intro (by omega) ?_)
      | (refine And.intro (fun hb => absurd hb (by omega)) (fun hb => ?_))
      | (refine And.intro (fun hb => ?_) (fun hb => absurd hb (by omega)))
      | (refine And.intro (fun hb => ?_) (fun hb => ?_))
      | (intro hb)
      | (conv => whnf)))
    refine hK (s_F_noSheet h0 (fun r hr => ?_))
    iterate 30 (all_goals (first
      | (refine And.intro (by omega) ?_)
      | (refine And.intro (fun hb => absurd hb (by omega)) (fun hb => ?_))
      | (refine And.intro (fun hb => ?_) (fun hb => absurd hb (by omega)))
      | (refine And.intro (fun hb => ?_) (fun hb => ?_))
      | (intro hb)
      | (conv => whnf)))
    refine pr_j (by omega) hJ.1 ?_
    refine am_enter mt_M_set ok_M_set rfl ?_
    refine am_run 400 mt_M_set ok_M_set (fun K S hK hS => ?_)
    iterate 30 (all_goals (first
      | (refine And.intro (by omega) ?_)
      | (refine And.intro (fun hb => absurd hb (by omega)) (fun hb => ?_))
      | (refine And.intro (fun hb => ?_) (fun hb => absurd hb (by omega)))
      | (refine And.intro (fun hb => ?_) (fun hb => ?_))
      | (intro hb)
      | (conv => whnf)))
    refine hK (s_M_isSheet h0 (fun r2 hr2 => ?_))
    iterate 30 (all_goals (first
      | (refine And.intro (by omega) ?_)
      | (refine And.intro (fun hb => absurd hb (by omega)) (fun hb => ?_))
      | (refine And.intro (fun hb => ?_) (fun hb => absurd hb (by omega)))
      | (refine And.intro (fun hb => ?_) (fun hb => ?_))
      | (intro hb)
      | (conv => whnf)))
    refine pr_e (IJ_86 hJ (Or.inl rfl)) ?_
    simp +decide [am_up_ne, am_up_at, reduceIte]; exact hst2
