/-! the constructor of the class -/
def rF (R : am_T) : am_T := am_upR (am_upR (am_upR (am_zeroRn (am_zeroR (am_upR (am_upR (am_zeroRn (am_zeroR (am_zeroR
  (am_upR (am_zeroR (am_upR (am_zeroRn (am_upR (am_zeroRn (am_upR (am_zeroR (am_upR (am_zeroR (am_upR (am_zeroR (am_upR (am_zeroRn (am_upR (am_zeroR (am_upR (am_zeroR
  (am_upR (am_upR (am_zeroR (am_upR (am_zeroRn (am_zeroR (am_upR (am_zeroR (am_upR (am_zeroR (am_upR (am_zeroR (am_upR (am_zeroRn R 4 9) 3 1 (some 4)) 13) 3 2 (some 13)) 14) 3 3 (some 14)) 15) 3 4 (some 15)) 16) 17 12) 16 0 (some 17)) 29) 16 1 (some 29)) 3 5 (some 16))
  30) 3 6 (some 30)) 31) 3 7 (some 31)) 32 9) 3 9 (some 32)) 41) 3 10 (some 41)) 42) 3 12 (some 42)) 43) 3 13 (some 43)) 44 6) 3 14 (some 44)) 50 12) 3 15 (some 50)) 62) 3 16 (some 62))
  63) 64) 65 10) 64 1 (some 65)) 63 1 (some 64)) 75) 76 10) 75 1 (some 76)) 63 2 (some 75)) 3 11 (some 63)
def fi_0 (V D : am_V) (p : Int) : Prop := (∀ a, a < 3 → D a = V a) ∧ D 3 0 = p ∧ D 3 8 = 0 ∧ D 3 17 = 0 ∧ (∀ j, D 4 j = 0) ∧ (∀ s, 0 ≤ s → s < 8 → D 14 s = -1) ∧ (∀ l o, 0 ≤ l → 0 ≤ o → l + o ≤ 10 → D 17 (64 * l + o) = k_ways l.toNat o.toNat) ∧ (∀ s, 0 ≤ s → s < 8 → D 41 s = 1) ∧ D 63 0 = p ∧ D 64 0 = p ∧ D 75 0 = p ∧ (∀ j, D 65 j = if j = 0 then 1 else 0) ∧ (∀ j, D 76 j = if j = 0 then 1 else 0)
theorem fi_0_eq {V D D' : am_V} {p : Int} (h : fi_0 V D p) (e : ∀ a, a ≠ 32 → a ≠ 50 → D' a = D a) : fi_0 V D' p := by
  unfold fi_0
  rw [e 3 (by decide) (by decide), e 4 (by decide) (by decide), e 14 (by decide) (by decide), e 17 (by decide) (by decide), e 41 (by decide) (by decide), e 63 (by decide) (by decide), e 64 (by decide) (by decide), e 75 (by decide) (by decide), e 65 (by decide) (by decide), e 76 (by decide) (by decide)]
  exact ⟨fun a ha => by rw [e a (by omega) (by omega)]; exact h.1 a ha, h.2⟩
def pm_p (x p : Int) : Prop := ((101 ≤ x ∧ x ≤ 2000000000 ∧ is_pr x) ∧ p = x) ∨ (¬ (101 ≤ x ∧ x ≤ 2000000000 ∧ is_pr x) ∧ p = 998244353)
theorem s_F_init {G : am_G} {d : Nat} {V : am_V} {R : am_T} {x p : Int} {Q : Option AV → am_V → am_T → Nat → Prop} (hx : am_in32 x) (hp : pm_p x p) (hQ : ∀ V', fi_0 V V' p → (∀ s, 0 ≤ s → s < 8 → V' 32 (64 * s) = 1 ∧ V' 32 (64 * s + 1) = 0) → (∀ h g, 0 ≤ h → h ≤ 10 → 0 ≤ g → g ≤ 5 → V' 50 (64 * h + g) = k_pr h g) → Q none V' (rF R) 86) : am_Calls G (d + 3) 0 [vR 3, vI x] V R 4 Q := by
  obtain ⟨R', hR'⟩ : ∃ R', R' = rF R := ⟨_, rfl⟩
  have e9 : R' 3 9 = some 32 := by rw [hR']; rfl
  have e15 : R' 3 15 = some 50 := by rw [hR']; rfl
  have loop : ∀ (jj : Nat) (s fi : Int) (D : am_V), 0 ≤ s → s ≤ 8 → 8 - s < jj → fi_0 V D p → (∀ j, D 50 j = 0) → (∀ j, 0 ≤ j → j < s → D 32 (64 * j) = 1) → (∀ j, 0 ≤ j → j < 8 → D 32 (64 * j + 1) = 0) → am_Sem G (d + 2) 0 V 4 Q 218 [some (vR 3), some (vI x), some (vI fi), some (vI s)] [] D (rF R) 86 82 938 := by
    intro jj
    induction jj with
    | zero => intro s fi D a b c; omega
    | succ jj ih =>
      intro s fi D a b c w1 w2 w3 w4
      rw [← hR'] at ih ⊢
      by_cases hs : s = 8
      · subst hs
        have q := fun (Y : am_V) (y1 : ∀ a, a ≠ 50 → Y a = D a) => hQ Y (fi_0_eq w1 (fun a _ z => y1 a z)) (fun j j1 j2 => by rw [y1 32 (by decide)]; exact ⟨w3 j j1 j2, w4 j j1 j2⟩)
        rw [← hR'] at q
        clear hQ ih w1 w3 w4
        refine am_run 400 mt_F_init ok_F_init (fun K S hK hS => ?_)
        iterate 30 (all_goals (first
          | (refine And.intro (by omega) ?_)
          | (refine And.intro (by decide) ?_)
          | (refine And.intro (fun hb => absurd hb (by omega)) (fun hb => ?_))
          | (refine And.intro (fun hb => ?_) (fun hb => absurd hb (by omega)))
          | (refine And.intro (fun hb => ?_) (fun hb => ?_))
          | (intro hb)
          | (simp only [e15])
          | (conv => whnf)))
        refine hK (s_F_countPairings w2 (fun Y y1 y2 => ?_))
        have q := q Y y1 y2
        iterate 30 (all_goals (first
          | (refine And.intro (by omega) ?_)
          | (refine And.intro (fun hb => absurd hb (by omega)) (fun hb => ?_))
          | (refine And.intro (fun hb => ?_) (fun hb => absurd hb (by omega)))
          | (refine And.intro (fun hb => ?_) (fun hb => ?_))
          | (intro hb)
          | (conv => whnf)))
        exact q
      · have nx := ih (s + 1) fi (am_up D 32 (64 * s + 0) 1) (by omega) (by omega) (by omega) (fi_0_eq w1 (fun a z _ => am_up_ne z)) (fun j => by rw [am_up_ne (by decide)]; exact w2 j) (fun j j1 j2 => by
          rw [am_up_at]
          by_cases z : j = s
          · rw [if_pos (by omega)]
          · rw [if_neg (by omega), w3 j j1 (by omega)]) (fun j j1 j2 => by rw [am_up_at, if_neg (by omega), w4 j j1 j2])
        clear hQ ih w1 w2 w3 w4
        refine am_run 400 mt_F_init ok_F_init (fun K S hK hS => ?_)
        iterate 30 (all_goals (first
          | (refine And.intro (by omega) ?_)
          | (refine And.intro (by decide) ?_)
          | (refine And.intro (fun hb => absurd hb (by omega)) (fun hb => ?_))
          | (refine And.intro (fun hb => ?_) (fun hb => absurd hb (by omega)))
          | (refine And.intro (fun hb => ?_) (fun hb => ?_))
          | (intro hb)
          | (simp only [e9])
          | (conv => whnf)))
        exact hS nx
  clear hQ
  refine am_enter mt_F_init ok_F_init rfl ?_
  refine am_run 400 mt_F_init ok_F_init (fun K S hK hS => ?_)
  iterate 20 (all_goals (first
    | (refine And.intro (by omega) ?_)
    | (refine And.intro (⟨by decide, by decide⟩) ?_)
    | (refine And.intro (fun hb => absurd hb (by omega)) (fun hb => ?_))
    | (refine And.intro (fun hb => ?_) (fun hb => absurd hb (by omega)))
    | (refine And.intro (fun hb => ?_) (fun hb => ?_))
    | (intro hb)
    | (conv => whnf)))
  refine hK (s_O_init (fun W w1 w2 => ?_))
  by_cases hc : 101 ≤ x ∧ x ≤ 2000000000
  · iterate 20 (all_goals (first
      | (refine And.intro (by omega) ?_)
      | (refine And.intro (⟨by decide, by decide⟩) ?_)
      | (refine And.intro (fun hb => absurd hb (by omega)) (fun hb => ?_))
      | (refine And.intro (fun hb => ?_) (fun hb => absurd hb (by omega)))
      | (refine And.intro (fun hb => ?_) (fun hb => ?_))
      | (intro hb)
      | (conv => whnf)))
    refine hK (s_F_isPrime hc (fun hpr => ?_) (fun hpr => ?_))
    · have ep : p = x := by
        rcases hp with z | z
        · exact z.2
        · exact absurd ⟨hc.1, hc.2, hpr⟩ z.1
      subst ep
      iterate 20 (all_goals (first
        | (refine And.intro (by omega) ?_)
        | (refine And.intro (⟨by decide, by decide⟩) ?_)
        | (refine And.intro (fun hb => absurd hb (by omega)) (fun hb => ?_))
        | (refine And.intro (fun hb => ?_) (fun hb => absurd hb (by omega)))
        | (refine And.intro (fun hb => ?_) (fun hb => ?_))
        | (intro hb)
        | (conv => whnf)))
      refine hK (s_C_init (p := p) (fun U u1 u2 u3 u4 u5 u6 => ?_))
      iterate 20 (all_goals (first
        | (refine And.intro (by omega) ?_)
        | (refine And.intro (⟨by decide, by decide⟩) ?_)
        | (refine And.intro (fun hb => absurd hb (by omega)) (fun hb => ?_))
        | (refine And.intro (fun hb => ?_) (fun hb => absurd hb (by omega)))
        | (refine And.intro (fun hb => ?_) (fun hb => ?_))
        | (intro hb)
        | (conv => whnf)))
      refine hK (s_JA_fillI14 (fun A a1 a2 a3 => ?_))
      iterate 20 (all_goals (first
        | (refine And.intro (by omega) ?_)
        | (refine And.intro (⟨by decide, by decide⟩) ?_)
        | (refine And.intro (fun hb => absurd hb (by omega)) (fun hb => ?_))
        | (refine And.intro (fun hb => ?_) (fun hb => absurd hb (by omega)))
        | (refine And.intro (fun hb => ?_) (fun hb => ?_))
        | (intro hb)
        | (conv => whnf)))
      refine hK (s_JA_fillI41 (fun B b1 b2 b3 => ?_))
      iterate 20 (all_goals (first
        | (refine And.intro (by omega) ?_)
        | (refine And.intro (⟨by decide, by decide⟩) ?_)
        | (refine And.intro (fun hb => absurd hb (by omega)) (fun hb => ?_))
        | (refine And.intro (fun hb => ?_) (fun hb => absurd hb (by omega)))
        | (refine And.intro (fun hb => ?_) (fun hb => ?_))
        | (intro hb)
        | (conv => whnf)))
      have ba : ∀ a, a ≠ 14 → a ≠ 41 → B a = U a := fun a z1 z2 => by rw [b1 a z2, a1 a z1]
      refine hS (loop 9 0 1 B (by omega) (by omega) (by omega) ⟨fun a ha => ?_, ?_, ?_, ?_, fun j => ?_, fun j j1 j2 => ?_, fun l o l0 o0 lo => ?_, fun j j1 j2 => b2 j j1 j2, ?_, ?_, ?_, fun j => ?_, fun j => ?_⟩ (fun j => ?_) (fun j j1 j2 => absurd j2 (by omega)) (fun j j1 j2 => ?_))
      · rw [ba a (by omega) (by omega), u1 a (by omega)]
        rcases (by omega : a = 0 ∨ a = 1 ∨ a = 2) with rfl | rfl | rfl
        · show W 0 = V 0
          rw [w1 0 (by decide) (by decide)]
          rfl
        · show W 1 = V 1
          rw [w1 1 (by decide) (by decide)]
          rfl
        · show W 2 = V 2
          rw [w1 2 (by decide) (by decide)]
          rfl
      · rw [ba 3 (by decide) (by decide), u1 3 (by decide)]
        rfl
      · rw [ba 3 (by decide) (by decide), u1 3 (by decide)]
        rfl
      · rw [ba 3 (by decide) (by decide), u1 3 (by decide)]
        rfl
      · rw [ba 4 (by decide) (by decide), u1 4 (by decide)]
        show W 4 j = 0
        rw [w1 4 (by decide) (by decide)]
        rfl
      · rw [b1 14 (by decide)]
        exact a2 j j1 j2
      · rw [ba 17 (by decide) (by decide), u1 17 (by decide)]
        exact w2 l o l0 o0 lo
      · rw [ba 63 (by decide) (by decide)]
        exact u2
      · rw [ba 64 (by decide) (by decide)]
        exact u3
      · rw [ba 75 (by decide) (by decide)]
        exact u4
      · rw [ba 65 (by decide) (by decide)]
        exact u5 j
      · rw [ba 76 (by decide) (by decide)]
        exact u6 j
      · rw [ba 50 (by decide) (by decide), u1 50 (by decide)]
        rfl
      · rw [ba 32 (by decide) (by decide), u1 32 (by decide)]
        rfl
    · have ep : p = 998244353 := by
        rcases hp with z | z
        · exact absurd z.1.2.2 hpr
        · exact z.2
      subst ep
      iterate 20 (all_goals (first
        | (refine And.intro (by omega) ?_)
        | (refine And.intro (⟨by decide, by decide⟩) ?_)
        | (refine And.intro (fun hb => absurd hb (by omega)) (fun hb => ?_))
        | (refine And.intro (fun hb => ?_) (fun hb => absurd hb (by omega)))
        | (refine And.intro (fun hb => ?_) (fun hb => ?_))
        | (intro hb)
        | (conv => whnf)))
      refine hK (s_C_init (p := 998244353) (fun U u1 u2 u3 u4 u5 u6 => ?_))
      iterate 20 (all_goals (first
        | (refine And.intro (by omega) ?_)
        | (refine And.intro (⟨by decide, by decide⟩) ?_)
        | (refine And.intro (fun hb => absurd hb (by omega)) (fun hb => ?_))
        | (refine And.intro (fun hb => ?_) (fun hb => absurd hb (by omega)))
        | (refine And.intro (fun hb => ?_) (fun hb => ?_))
        | (intro hb)
        | (conv => whnf)))
      refine hK (s_JA_fillI14 (fun A a1 a2 a3 => ?_))
      iterate 20 (all_goals (first
        | (refine And.intro (by omega) ?_)
        | (refine And.intro (⟨by decide, by decide⟩) ?_)
        | (refine And.intro (fun hb => absurd hb (by omega)) (fun hb => ?_))
        | (refine And.intro (fun hb => ?_) (fun hb => absurd hb (by omega)))
        | (refine And.intro (fun hb => ?_) (fun hb => ?_))
        | (intro hb)
        | (conv => whnf)))
      refine hK (s_JA_fillI41 (fun B b1 b2 b3 => ?_))
      iterate 20 (all_goals (first
        | (refine And.intro (by omega) ?_)
        | (refine And.intro (⟨by decide, by decide⟩) ?_)
        | (refine And.intro (fun hb => absurd hb (by omega)) (fun hb => ?_))
        | (refine And.intro (fun hb => ?_) (fun hb => absurd hb (by omega)))
        | (refine And.intro (fun hb => ?_) (fun hb => ?_))
        | (intro hb)
        | (conv => whnf)))
      have ba : ∀ a, a ≠ 14 → a ≠ 41 → B a = U a := fun a z1 z2 => by rw [b1 a z2, a1 a z1]
      refine hS (loop 9 0 0 B (by omega) (by omega) (by omega) ⟨fun a ha => ?_, ?_, ?_, ?_, fun j => ?_, fun j j1 j2 => ?_, fun l o l0 o0 lo => ?_, fun j j1 j2 => b2 j j1 j2, ?_, ?_, ?_, fun j => ?_, fun j => ?_⟩ (fun j => ?_) (fun j j1 j2 => absurd j2 (by omega)) (fun j j1 j2 => ?_))
      · rw [ba a (by omega) (by omega), u1 a (by omega)]
        rcases (by omega : a = 0 ∨ a = 1 ∨ a = 2) with rfl | rfl | rfl
        · show W 0 = V 0
          rw [w1 0 (by decide) (by decide)]
          rfl
        · show W 1 = V 1
          rw [w1 1 (by decide) (by decide)]
          rfl
        · show W 2 = V 2
          rw [w1 2 (by decide) (by decide)]
          rfl
      · rw [ba 3 (by decide) (by decide), u1 3 (by decide)]
        rfl
      · rw [ba 3 (by decide) (by decide), u1 3 (by decide)]
        rfl
      · rw [ba 3 (by decide) (by decide), u1 3 (by decide)]
        rfl
      · rw [ba 4 (by decide) (by decide), u1 4 (by decide)]
        show W 4 j = 0
        rw [w1 4 (by decide) (by decide)]
        rfl
      · rw [b1 14 (by decide)]
        exact a2 j j1 j2
      · rw [ba 17 (by decide) (by decide), u1 17 (by decide)]
        exact w2 l o l0 o0 lo
      · rw [ba 63 (by decide) (by decide)]
        exact u2
      · rw [ba 64 (by decide) (by decide)]
        exact u3
      · rw [ba 75 (by decide) (by decide)]
        exact u4
      · rw [ba 65 (by decide) (by decide)]
        exact u5 j
      · rw [ba 76 (by decide) (by decide)]
        exact u6 j
      · rw [ba 50 (by decide) (by decide), u1 50 (by decide)]
        rfl
      · rw [ba 32 (by decide) (by decide), u1 32 (by decide)]
        rfl
  · have ep : p = 998244353 := by
      rcases hp with z | z
      · exact absurd ⟨z.1.1, z.1.2.1⟩ hc
      · exact z.2
    subst ep
    by_cases hl : x < 101
    · iterate 20 (all_goals (first
        | (refine And.intro (by omega) ?_)
        | (refine And.intro (⟨by decide, by decide⟩) ?_)
        | (refine And.intro (fun hb => absurd hb (by omega)) (fun hb => ?_))
        | (refine And.intro (fun hb => ?_) (fun hb => absurd hb (by omega)))
        | (refine And.intro (fun hb => ?_) (fun hb => ?_))
        | (intro hb)
        | (conv => whnf)))
      refine hK (s_C_init (p := 998244353) (fun U u1 u2 u3 u4 u5 u6 => ?_))
      iterate 20 (all_goals (first
        | (refine And.intro (by omega) ?_)
        | (refine And.intro (⟨by decide, by decide⟩) ?_)
        | (refine And.intro (fun hb => absurd hb (by omega)) (fun hb => ?_))
        | (refine And.intro (fun hb => ?_) (fun hb => absurd hb (by omega)))
        | (refine And.intro (fun hb => ?_) (fun hb => ?_))
        | (intro hb)
        | (conv => whnf)))
      refine hK (s_JA_fillI14 (fun A a1 a2 a3 => ?_))
      iterate 20 (all_goals (first
        | (refine And.intro (by omega) ?_)
        | (refine And.intro (⟨by decide, by decide⟩) ?_)
        | (refine And.intro (fun hb => absurd hb (by omega)) (fun hb => ?_))
        | (refine And.intro (fun hb => ?_) (fun hb => absurd hb (by omega)))
        | (refine And.intro (fun hb => ?_) (fun hb => ?_))
        | (intro hb)
        | (conv => whnf)))
      refine hK (s_JA_fillI41 (fun B b1 b2 b3 => ?_))
      iterate 20 (all_goals (first
        | (refine And.intro (by omega) ?_)
        | (refine And.intro (⟨by decide, by decide⟩) ?_)
        | (refine And.intro (fun hb => absurd hb (by omega)) (fun hb => ?_))
        | (refine And.intro (fun hb => ?_) (fun hb => absurd hb (by omega)))
        | (refine And.intro (fun hb => ?_) (fun hb => ?_))
        | (intro hb)
        | (conv => whnf)))
      have ba : ∀ a, a ≠ 14 → a ≠ 41 → B a = U a := fun a z1 z2 => by rw [b1 a z2, a1 a z1]
      refine hS (loop 9 0 0 B (by omega) (by omega) (by omega) ⟨fun a ha => ?_, ?_, ?_, ?_, fun j => ?_, fun j j1 j2 => ?_, fun l o l0 o0 lo => ?_, fun j j1 j2 => b2 j j1 j2, ?_, ?_, ?_, fun j => ?_, fun j => ?_⟩ (fun j => ?_) (fun j j1 j2 => absurd j2 (by omega)) (fun j j1 j2 => ?_))
      · rw [ba a (by omega) (by omega), u1 a (by omega)]
        rcases (by omega : a = 0 ∨ a = 1 ∨ a = 2) with rfl | rfl | rfl
        · show W 0 = V 0
          rw [w1 0 (by decide) (by decide)]
          rfl
        · show W 1 = V 1
          rw [w1 1 (by decide) (by decide)]
          rfl
        · show W 2 = V 2
          rw [w1 2 (by decide) (by decide)]
          rfl
      · rw [ba 3 (by decide) (by decide), u1 3 (by decide)]
        rfl
      · rw [ba 3 (by decide) (by decide), u1 3 (by decide)]
        rfl
      · rw [ba 3 (by decide) (by decide), u1 3 (by decide)]
        rfl
      · rw [ba 4 (by decide) (by decide), u1 4 (by decide)]
        show W 4 j = 0
        rw [w1 4 (by decide) (by decide)]
        rfl
      · rw [b1 14 (by decide)]
        exact a2 j j1 j2
      · rw [ba 17 (by decide) (by decide), u1 17 (by decide)]
        exact w2 l o l0 o0 lo
      · rw [ba 63 (by decide) (by decide)]
        exact u2
      · rw [ba 64 (by decide) (by decide)]
        exact u3
      · rw [ba 75 (by decide) (by decide)]
        exact u4
      · rw [ba 65 (by decide) (by decide)]
        exact u5 j
      · rw [ba 76 (by decide) (by decide)]
        exact u6 j
      · rw [ba 50 (by decide) (by decide), u1 50 (by decide)]
        rfl
      · rw [ba 32 (by decide) (by decide), u1 32 (by decide)]
        rfl
    · iterate 20 (all_goals (first
        | (refine And.intro (by omega) ?_)
        | (refine And.intro (⟨by decide, by decide⟩) ?_)
        | (refine And.intro (fun hb => absurd hb (by omega)) (fun hb => ?_))
        | (refine And.intro (fun hb => ?_) (fun hb => absurd hb (by omega)))
        | (refine And.intro (fun hb => ?_) (fun hb => ?_))
        | (intro hb)
        | (conv => whnf)))
      refine hK (s_C_init (p := 998244353) (fun U u1 u2 u3 u4 u5 u6 => ?_))
      iterate 20 (all_goals (first
        | (refine And.intro (by omega) ?_)
        | (refine And.intro (⟨by decide, by decide⟩) ?_)
        | (refine And.intro (fun hb => absurd hb (by omega)) (fun hb => ?_))
        | (refine And.intro (fun hb => ?_) (fun hb => absurd hb (by omega)))
        | (refine And.intro (fun hb => ?_) (fun hb => ?_))
        | (intro hb)
        | (conv => whnf)))
      refine hK (s_JA_fillI14 (fun A a1 a2 a3 => ?_))
      iterate 20 (all_goals (first
        | (refine And.intro (by omega) ?_)
        | (refine And.intro (⟨by decide, by decide⟩) ?_)
        | (refine And.intro (fun hb => absurd hb (by omega)) (fun hb => ?_))
        | (refine And.intro (fun hb => ?_) (fun hb => absurd hb (by omega)))
        | (refine And.intro (fun hb => ?_) (fun hb => ?_))
        | (intro hb)
        | (conv => whnf)))
      refine hK (s_JA_fillI41 (fun B b1 b2 b3 => ?_))
      iterate 20 (all_goals (first
        | (refine And.intro (by omega) ?_)
        | (refine And.intro (⟨by decide, by decide⟩) ?_)
        | (refine And.intro (fun hb => absurd hb (by omega)) (fun hb => ?_))
        | (refine And.intro (fun hb => ?_) (fun hb => absurd hb (by omega)))
        | (refine And.intro (fun hb => ?_) (fun hb => ?_))
        | (intro hb)
        | (conv => whnf)))
      have ba : ∀ a, a ≠ 14 → a ≠ 41 → B a = U a := fun a z1 z2 => by rw [b1 a z2, a1 a z1]
      refine hS (loop 9 0 0 B (by omega) (by omega) (by omega) ⟨fun a ha => ?_, ?_, ?_, ?_, fun j => ?_, fun j j1 j2 => ?_, fun l o l0 o0 lo => ?_, fun j j1 j2 => b2 j j1 j2, ?_, ?_, ?_, fun j => ?_, fun j => ?_⟩ (fun j => ?_) (fun j j1 j2 => absurd j2 (by omega)) (fun j j1 j2 => ?_))
      · rw [ba a (by omega) (by omega), u1 a (by omega)]
        rcases (by omega : a = 0 ∨ a = 1 ∨ a = 2) with rfl | rfl | rfl
        · show W 0 = V 0
          rw [w1 0 (by decide) (by decide)]
          rfl
        · show W 1 = V 1
          rw [w1 1 (by decide) (by decide)]
          rfl
        · show W 2 = V 2
          rw [w1 2 (by decide) (by decide)]
          rfl
      · rw [ba 3 (by decide) (by decide), u1 3 (by decide)]
        rfl
      · rw [ba 3 (by decide) (by decide), u1 3 (by decide)]
        rfl
      · rw [ba 3 (by decide) (by decide), u1 3 (by decide)]
        rfl
      · rw [ba 4 (by decide) (by decide), u1 4 (by decide)]
        show W 4 j = 0
        rw [w1 4 (by decide) (by decide)]
        rfl
      · rw [b1 14 (by decide)]
        exact a2 j j1 j2
      · rw [ba 17 (by decide) (by decide), u1 17 (by decide)]
        exact w2 l o l0 o0 lo
      · rw [ba 63 (by decide) (by decide)]
        exact u2
      · rw [ba 64 (by decide) (by decide)]
        exact u3
      · rw [ba 75 (by decide) (by decide)]
        exact u4
      · rw [ba 65 (by decide) (by decide)]
        exact u5 j
      · rw [ba 76 (by decide) (by decide)]
        exact u6 j
      · rw [ba 50 (by decide) (by decide), u1 50 (by decide)]
        rfl
      · rw [ba 32 (by decide) (by decide), u1 32 (by decide)]
        rfl
