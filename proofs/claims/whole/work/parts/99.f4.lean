/-! the constructor of the reference -/
def rM (R : am_T) : am_T := am_upR (am_zeroR (am_upR (am_zeroR (am_upR (am_zeroR (am_upR (am_zeroR (am_upR (am_zeroR (am_upR (am_zeroR (am_upR (am_zeroR (am_upR (am_zeroR (am_upR (am_zeroR (am_upR (am_zeroR (am_upR (am_zeroR (am_upR (am_zeroR (am_upR (am_zeroR (am_upR (am_zeroR (am_upR (am_zeroR (am_upR (am_zeroR (am_upR (am_zeroR (am_upR (am_zeroR (am_upR (am_zeroR (am_upR (am_zeroR R 87) 86 3 (some 87)) 88) 86 4 (some 88)) 89) 86 5 (some 89)) 90) 86 6 (some 90)) 91) 86 7 (some 91)) 92) 86 8 (some 92)) 93) 86 9 (some 93)) 94) 86 10 (some 94)) 95) 86 11 (some 95)) 96) 86 13 (some 96)) 97) 86 14 (some 97)) 98) 86 15 (some 98)) 99) 86 16 (some 99)) 100) 86 17 (some 100)) 101) 86 18 (some 101)) 102) 86 19 (some 102)) 103) 86 20 (some 103)) 104) 86 21 (some 104)) 105) 86 22 (some 105)) 106) 86 23 (some 106)
def mi_0 (V D : am_V) (p : Int) : Prop := (∀ a, a < 86 → D a = V a) ∧ D 86 2 = p ∧ D 86 1 = V 86 1 ∧ D 86 12 = V 86 12 ∧ (∀ s, 0 ≤ s → s < 8 → D 87 s = -1) ∧ (∀ j, D 89 j = 0) ∧ (∀ s, 0 ≤ s → s < 10 → D 90 s = -1) ∧ (∀ j, 0 ≤ j → j ≤ 10 → D 96 j = k_cat j) ∧ (∀ j, D 99 j = 0)
theorem mi_0_eq {V D D' : am_V} {p : Int} (h : mi_0 V D p) (e : ∀ a, a ≠ 98 → D' a = D a) : mi_0 V D' p := by
  unfold mi_0
  rw [e 86 (by decide), e 87 (by decide), e 89 (by decide), e 90 (by decide), e 96 (by decide), e 99 (by decide)]
  exact ⟨fun a ha => by rw [e a (by omega)]; exact h.1 a ha, h.2⟩
theorem s_M_init {G : am_G} {d : Nat} {V : am_V} {R : am_T} {x p : Int} {Q : Option AV → am_V → am_T → Nat → Prop} (hx : am_in32 x) (hp : pm_p x p) (hQ : ∀ V', mi_0 V V' p → (∀ s, 0 ≤ s → s < 8 → V' 98 s = 1) → Q none V' (rM R) 107) : am_Calls G (d + 3) 70 [vR 86, vI x] V R 87 Q := by
  obtain ⟨R', hR'⟩ : ∃ R', R' = rM R := ⟨_, rfl⟩
  have e15 : R' 86 15 = some 98 := by rw [hR']; rfl
  have loop : ∀ (jj : Nat) (s : Int) (D : am_V), 0 ≤ s → s ≤ 8 → 8 - s < jj → mi_0 V D p → (∀ j, 0 ≤ j → j < s → D 98 j = 1) → am_Sem G (d + 2) 70 V 87 Q 337 [some (vR 86), some (vI x), some (vI s)] [] D (rM R) 107 20 787 := by
    intro jj
    induction jj with
    | zero => intro s D a b c; omega
    | succ jj ih =>
      intro s D a b c w1 w2
      rw [← hR'] at ih ⊢
      by_cases hs : s = 8
      · subst hs
        have q := hQ D w1 w2
        rw [← hR'] at q
        clear hQ ih w1 w2
        refine am_run 400 mt_M_init ok_M_init (fun K S hK hS => ?_)
        iterate 30 (all_goals (first
          | (refine And.intro (by omega) ?_)
          | (refine And.intro (fun hb => absurd hb (by omega)) (fun hb => ?_))
          | (refine And.intro (fun hb => ?_) (fun hb => absurd hb (by omega)))
          | (refine And.intro (fun hb => ?_) (fun hb => ?_))
          | (intro hb)
          | (conv => whnf)))
        exact q
      · have nx := ih (s + 1) (am_up D 98 s 1) (by omega) (by omega) (by omega) (mi_0_eq w1 (fun a z => am_up_ne z)) (fun j j1 j2 => by
          rw [am_up_at]
          by_cases z : j = s
          · rw [if_pos z]
          · rw [if_neg z, w2 j j1 (by omega)])
        clear hQ ih w1 w2
        refine am_run 400 mt_M_init ok_M_init (fun K S hK hS => ?_)
        iterate 30 (all_goals (first
          | (refine And.intro (by omega) ?_)
          | (refine And.intro (by decide) ?_)
          | (refine And.intro (fun hb => absurd hb (by omega)) (fun hb => ?_))
          | (refine And.intro (fun hb => ?_) (fun hb => absurd hb (by omega)))
          | (refine And.intro (fun hb => ?_) (fun hb => ?_))
          | (intro hb)
          | (simp only [e15])
          | (conv => whnf)))
        exact hS nx
  clear hQ
  refine am_enter mt_M_init ok_M_init rfl ?_
  refine am_run 400 mt_M_init ok_M_init (fun K S hK hS => ?_)
  iterate 90 (all_goals (first
    | (refine And.intro (by omega) ?_)
    | (refine And.intro (⟨by decide, by decide⟩) ?_)
    | (refine And.intro (fun hb => absurd hb (by omega)) (fun hb => ?_))
    | (refine And.intro (fun hb => ?_) (fun hb => absurd hb (by omega)))
    | (refine And.intro (fun hb => ?_) (fun hb => ?_))
    | (intro hb)
    | (conv => whnf)))
  refine hK (s_M_in (by omega) (by omega) (by omega) (fun r hr => ?_))
  by_cases hc : 101 ≤ x ∧ x ≤ 2000000000
  · obtain rfl : r = 1 := by omega
    iterate 20 (all_goals (first
      | (refine And.intro (by omega) ?_)
      | (refine And.intro (⟨by decide, by decide⟩) ?_)
      | (refine And.intro (fun hb => absurd hb (by omega)) (fun hb => ?_))
      | (refine And.intro (fun hb => ?_) (fun hb => absurd hb (by omega)))
      | (refine And.intro (fun hb => ?_) (fun hb => ?_))
      | (intro hb)
      | (conv => whnf)))
    refine hK (s_M_isPrime hc (fun hpr => ?_) (fun hpr => ?_))
    · have ep : p = x := by
        rcases hp with z | z
        · exact z.2
        · exact absurd ⟨hc.1, hc.2, hpr⟩ z.1
      subst ep
      iterate 20 (all_goals (first
        | (refine And.intro (by omega) ?_)
        | (refine And.intro (⟨by decide, by decide⟩) ?_)
        | (refine And.intro (fun hb => absurd hb (by omega)) (fun hb => ?_))
        | (refine And.intro (fun hb => ?_) (fun hb => absurd hb (by omega)))
        | (refine And.intro (fun hb => ?_) (fun hb => ?_))
        | (intro hb)
        | (conv => whnf)))
      refine hS (loop 9 0 _ (by omega) (by omega) (by omega) ⟨fun a ha => ?_, rfl, rfl, rfl, fun s s1 s2 => ?_, fun j => rfl, fun s s1 s2 => ?_, fun j j1 j2 => ?_, fun j => rfl⟩ (fun j j1 j2 => absurd j2 (by omega)))
      · repeat (first | rw [am_up_ne (by omega)] | rw [am_zero_ne (by omega)])
      · rcases (by omega : s = 0 ∨ s = 1 ∨ s = 2 ∨ s = 3 ∨ s = 4 ∨ s = 5 ∨ s = 6 ∨ s = 7) with rfl | rfl | rfl | rfl | rfl | rfl | rfl | rfl <;> rfl
      · rcases (by omega : s = 0 ∨ s = 1 ∨ s = 2 ∨ s = 3 ∨ s = 4 ∨ s = 5 ∨ s = 6 ∨ s = 7 ∨ s = 8 ∨ s = 9) with rfl | rfl | rfl | rfl | rfl | rfl | rfl | rfl | rfl | rfl <;> rfl
      · rcases (by omega : j = 0 ∨ j = 1 ∨ j = 2 ∨ j = 3 ∨ j = 4 ∨ j = 5 ∨ j = 6 ∨ j = 7 ∨ j = 8 ∨ j = 9 ∨ j = 10) with rfl | rfl | rfl | rfl | rfl | rfl | rfl | rfl | rfl | rfl | rfl <;> rfl
    · have ep : p = 998244353 := by
        rcases hp with z | z
        · exact absurd z.1.2.2 hpr
        · exact z.2
      subst ep
      iterate 20 (all_goals (first
        | (refine And.intro (by omega) ?_)
        | (refine And.intro (⟨by decide, by decide⟩) ?_)
        | (refine And.intro (fun hb => absurd hb (by omega)) (fun hb => ?_))
        | (refine And.intro (fun hb => ?_) (fun hb => absurd hb (by omega)))
        | (refine And.intro (fun hb => ?_) (fun hb => ?_))
        | (intro hb)
        | (conv => whnf)))
      refine hS (loop 9 0 _ (by omega) (by omega) (by omega) ⟨fun a ha => ?_, rfl, rfl, rfl, fun s s1 s2 => ?_, fun j => rfl, fun s s1 s2 => ?_, fun j j1 j2 => ?_, fun j => rfl⟩ (fun j j1 j2 => absurd j2 (by omega)))
      · repeat (first | rw [am_up_ne (by omega)] | rw [am_zero_ne (by omega)])
      · rcases (by omega : s = 0 ∨ s = 1 ∨ s = 2 ∨ s = 3 ∨ s = 4 ∨ s = 5 ∨ s = 6 ∨ s = 7) with rfl | rfl | rfl | rfl | rfl | rfl | rfl | rfl <;> rfl
      · rcases (by omega : s = 0 ∨ s = 1 ∨ s = 2 ∨ s = 3 ∨ s = 4 ∨ s = 5 ∨ s = 6 ∨ s = 7 ∨ s = 8 ∨ s = 9) with rfl | rfl | rfl | rfl | rfl | rfl | rfl | rfl | rfl | rfl <;> rfl
      · rcases (by omega : j = 0 ∨ j = 1 ∨ j = 2 ∨ j = 3 ∨ j = 4 ∨ j = 5 ∨ j = 6 ∨ j = 7 ∨ j = 8 ∨ j = 9 ∨ j = 10) with rfl | rfl | rfl | rfl | rfl | rfl | rfl | rfl | rfl | rfl | rfl <;> rfl
  · obtain rfl : r = 0 := by omega
    have ep : p = 998244353 := by
      rcases hp with z | z
      · exact absurd ⟨z.1.1, z.1.2.1⟩ hc
      · exact z.2
    subst ep
    iterate 20 (all_goals (first
      | (refine And.intro (by omega) ?_)
      | (refine And.intro (⟨by decide, by decide⟩) ?_)
      | (refine And.intro (fun hb => absurd hb (by omega)) (fun hb => ?_))
      | (refine And.intro (fun hb => ?_) (fun hb => absurd hb (by omega)))
      | (refine And.intro (fun hb => ?_) (fun hb => ?_))
      | (intro hb)
      | (conv => whnf)))
    refine hS (loop 9 0 _ (by omega) (by omega) (by omega) ⟨fun a ha => ?_, rfl, rfl, rfl, fun s s1 s2 => ?_, fun j => rfl, fun s s1 s2 => ?_, fun j j1 j2 => ?_, fun j => rfl⟩ (fun j j1 j2 => absurd j2 (by omega)))
    · repeat (first | rw [am_up_ne (by omega)] | rw [am_zero_ne (by omega)])
    · rcases (by omega : s = 0 ∨ s = 1 ∨ s = 2 ∨ s = 3 ∨ s = 4 ∨ s = 5 ∨ s = 6 ∨ s = 7) with rfl | rfl | rfl | rfl | rfl | rfl | rfl | rfl <;> rfl
    · rcases (by omega : s = 0 ∨ s = 1 ∨ s = 2 ∨ s = 3 ∨ s = 4 ∨ s = 5 ∨ s = 6 ∨ s = 7 ∨ s = 8 ∨ s = 9) with rfl | rfl | rfl | rfl | rfl | rfl | rfl | rfl | rfl | rfl <;> rfl
    · rcases (by omega : j = 0 ∨ j = 1 ∨ j = 2 ∨ j = 3 ∨ j = 4 ∨ j = 5 ∨ j = 6 ∨ j = 7 ∨ j = 8 ∨ j = 9 ∨ j = 10) with rfl | rfl | rfl | rfl | rfl | rfl | rfl | rfl | rfl | rfl | rfl <;> rfl
