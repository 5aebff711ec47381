/-! primes -/
def is_pr (n : Int) : Prop := ∀ k, 2 ≤ k → k * k ≤ n → n % k ≠ 0
theorem m_sq_lt {j k n : Int} (h0 : 0 ≤ k) (h : n < k * k) (hj : j * j ≤ n) : j < k := by
  rcases Int.lt_or_le j k with q | q
  · exact q
  · have : k * k ≤ j * j := Int.mul_le_mul q q h0 (by omega)
    omega
theorem m_dvd_mod {a b n : Int} (h1 : b % a = 0) (h2 : n % b = 0) : n % a = 0 :=
  Int.emod_eq_zero_of_dvd (Int.dvd_trans (Int.dvd_of_emod_eq_zero h1) (Int.dvd_of_emod_eq_zero h2))
def pm_I (n k m : Int) : Prop := (m = 1 ∧ ∀ j, 2 ≤ j → j < k → n % j ≠ 0) ∨ (m = 0 ∧ ¬ is_pr n)
theorem s_M_isPrime {G : am_G} {d : Nat} {V : am_V} {R : am_T} {T : Nat} {Q : Option AV → am_V → am_T → Nat → Prop} {n : Int} (hn : 101 ≤ n ∧ n ≤ 2000000000) (hQ1 : is_pr n → Q (some (vI 1)) V R T) (hQ0 : ¬ is_pr n → Q (some (vI 0)) V R T) : am_Calls G (d + 1) 69 [vI n] V R T Q := by
  refine am_enter mt_M_isPrime ok_M_isPrime rfl ?_
  have loop : ∀ (jj : Nat) (k m : Int), 2 ≤ k → k ≤ n + 1 → n + 1 - k < jj → pm_I n k m → am_Sem G d 69 V T Q 13 [some (vI n), some (vI m), some (vI k)] [] V R T 0 0 := by
    intro jj
    induction jj with
    | zero => intro k m a1 a2 a3; omega
    | succ jj ih =>
      intro k m a1 a2 a3 w
      have kk : 0 ≤ k * k ∧ k * k ≤ 2000000001 * 2000000001 := ⟨Int.mul_nonneg (by omega) (by omega), Int.mul_le_mul (by omega) (by omega) (by omega) (by omega)⟩
      have x1 : am_in64 (k * k) := by constructor <;> omega
      have rk : 0 ≤ n % k ∧ n % k < k := m_modr (by omega)
      have km : 2 * k ≤ k * k := Int.mul_le_mul_of_nonneg_right a1 (by omega)
      rcases w with ⟨m1, w⟩ | ⟨m0, w⟩
      · subst m1
        by_cases hk : n < k * k
        · have pr : is_pr n := fun j j1 j2 => w j j1 (m_sq_lt (by omega) hk j2)
          have q := hQ1 pr
          clear ih w pr hQ1 hQ0
          refine am_run 400 mt_M_isPrime ok_M_isPrime (fun K S hK hS => ?_)
          iterate 40 (all_goals (first
            | (refine And.intro (by omega) ?_)
            | (refine And.intro (⟨x1, by omega⟩) ?_)
            | (refine And.intro (fun hb => absurd hb (by omega)) (fun hb => ?_))
            | (refine And.intro (fun hb => ?_) (fun hb => absurd hb (by omega)))
            | (refine And.intro (fun hb => ?_) (fun hb => ?_))
            | (intro hb)
            | (conv => whnf)))
          exact q
        · by_cases hd : n % k = 0
          · have nx := ih (k + 1) 0 (by omega) (by omega) (by omega) (Or.inr ⟨rfl, fun pr => pr k a1 (by omega) hd⟩)
            clear ih w hQ1 hQ0
            refine am_run 400 mt_M_isPrime ok_M_isPrime (fun K S hK hS => ?_)
            iterate 40 (all_goals (first
              | (refine And.intro (by omega) ?_)
              | (refine And.intro (⟨x1, by omega⟩) ?_)
              | (refine And.intro (fun hb => absurd hb (by omega)) (fun hb => ?_))
              | (refine And.intro (fun hb => ?_) (fun hb => absurd hb (by omega)))
              | (refine And.intro (fun hb => ?_) (fun hb => ?_))
              | (intro hb)
              | (conv => whnf)))
            exact hS nx
          · have nx := ih (k + 1) 1 (by omega) (by omega) (by omega) (Or.inl ⟨rfl, fun j j1 j2 => by
              by_cases z : j = k
              · rw [z]; exact hd
              · exact w j j1 (by omega)⟩)
            clear ih w hQ1 hQ0
            refine am_run 400 mt_M_isPrime ok_M_isPrime (fun K S hK hS => ?_)
            iterate 40 (all_goals (first
              | (refine And.intro (by omega) ?_)
              | (refine And.intro (⟨x1, by omega⟩) ?_)
              | (refine And.intro (fun hb => absurd hb (by omega)) (fun hb => ?_))
              | (refine And.intro (fun hb => ?_) (fun hb => absurd hb (by omega)))
              | (refine And.intro (fun hb => ?_) (fun hb => ?_))
              | (intro hb)
              | (conv => whnf)))
            exact hS nx
      · subst m0
        have q := hQ0 w
        clear ih w hQ1 hQ0
        refine am_run 400 mt_M_isPrime ok_M_isPrime (fun K S hK hS => ?_)
        iterate 40 (all_goals (first
          | (refine And.intro (by omega) ?_)
          | (refine And.intro (⟨x1, by omega⟩) ?_)
          | (refine And.intro (fun hb => absurd hb (by omega)) (fun hb => ?_))
          | (refine And.intro (fun hb => ?_) (fun hb => absurd hb (by omega)))
          | (refine And.intro (fun hb => ?_) (fun hb => ?_))
          | (intro hb)
          | (conv => whnf)))
        all_goals exact q
  have st := loop n.toNat 2 1 (by omega) (by omega) (by omega) (Or.inl ⟨rfl, fun j j1 j2 => absurd j2 (by omega)⟩)
  clear loop
  refine am_run 400 mt_M_isPrime ok_M_isPrime (fun K S hK hS => ?_)
  iterate 30 (all_goals (first
    | (refine And.intro (by omega) ?_)
    | (refine And.intro (fun hb => absurd hb (by omega)) (fun hb => ?_))
    | (refine And.intro (fun hb => ?_) (fun hb => absurd hb (by omega)))
    | (refine And.intro (fun hb => ?_) (fun hb => ?_))
    | (intro hb)
    | (conv => whnf)))
  exact hS st
theorem s_F_isPrime {G : am_G} {d : Nat} {V : am_V} {R : am_T} {T : Nat} {Q : Option AV → am_V → am_T → Nat → Prop} {n : Int} (hn : 101 ≤ n ∧ n ≤ 2000000000) (hQ1 : is_pr n → Q (some (vI 1)) V R T) (hQ0 : ¬ is_pr n → Q (some (vI 0)) V R T) : am_Calls G (d + 1) 59 [vI n] V R T Q := by
  refine am_enter mt_F_isPrime ok_F_isPrime rfl ?_
  have loop : n % 2 ≠ 0 → n % 3 ≠ 0 → ∀ (jj : Nat) (e : Int), 5 ≤ e → e ≤ n + 6 → n + 6 - e < jj → e % 6 = 5 → (∀ j, 5 ≤ j → j < e → (j % 6 = 5 ∨ j % 6 = 1) → n % j ≠ 0) → am_Sem G d 59 V T Q 16 [some (vI n), some (vI e)] [] V R T 0 0 := by
    intro n2 n3 jj
    induction jj with
    | zero => intro e a1 a2 a3; omega
    | succ jj ih =>
      intro e a1 a2 a3 a4 w
      have ee : 0 ≤ e * e ∧ e * e ≤ 2000000006 * 2000000006 := ⟨Int.mul_nonneg (by omega) (by omega), Int.mul_le_mul (by omega) (by omega) (by omega) (by omega)⟩
      have x1 : am_in64 (e * e) := by constructor <;> omega
      have rk : 0 ≤ n % e ∧ n % e < e := m_modr (by omega)
      have rk2 : 0 ≤ n % (e + 2) ∧ n % (e + 2) < e + 2 := m_modr (by omega)
      have e5 : 5 * e ≤ e * e := Int.mul_le_mul_of_nonneg_right a1 (by omega)
      by_cases he : n < e * e
      · have pr : is_pr n := fun k k1 k2 h => by
          have ke := m_sq_lt (by omega) he k2
          have q2 : k % 2 ≠ 0 := fun z => n2 (m_dvd_mod z h)
          have q3 : k % 3 ≠ 0 := fun z => n3 (m_dvd_mod z h)
          exact w k (by omega) ke (by omega) h
        have q := hQ1 pr
        clear ih w pr hQ1 hQ0
        refine am_run 400 mt_F_isPrime ok_F_isPrime (fun K S hK hS => ?_)
        iterate 40 (all_goals (first
          | (refine And.intro (by omega) ?_)
          | (refine And.intro (⟨x1, by omega⟩) ?_)
          | (refine And.intro (fun hb => absurd hb (by omega)) (fun hb => ?_))
          | (refine And.intro (fun hb => ?_) (fun hb => absurd hb (by omega)))
          | (refine And.intro (fun hb => ?_) (fun hb => ?_))
          | (intro hb)
          | (conv => whnf)))
        exact q
      · by_cases hd : n % e = 0
        · have q := hQ0 (fun pr => pr e (by omega) (by omega) hd)
          clear ih w hQ1 hQ0
          refine am_run 400 mt_F_isPrime ok_F_isPrime (fun K S hK hS => ?_)
          iterate 40 (all_goals (first
            | (refine And.intro (by omega) ?_)
            | (refine And.intro (⟨x1, by omega⟩) ?_)
            | (refine And.intro (fun hb => absurd hb (by omega)) (fun hb => ?_))
            | (refine And.intro (fun hb => ?_) (fun hb => absurd hb (by omega)))
            | (refine And.intro (fun hb => ?_) (fun hb => ?_))
            | (intro hb)
            | (conv => whnf)))
          exact q
        · by_cases hd2 : n % (e + 2) = 0
          · have np : ¬ is_pr n := fun pr => by
              obtain ⟨c, hc⟩ := Int.dvd_of_emod_eq_zero hd2
              by_cases z : (e + 2) * (e + 2) ≤ n
              · exact pr (e + 2) (by omega) z hd2
              · have c0 : c < e + 2 := by
                  rcases Int.lt_or_le c (e + 2) with q | q
                  · exact q
                  · have : (e + 2) * (e + 2) ≤ (e + 2) * c := Int.mul_le_mul_of_nonneg_left q (by omega)
                    omega
                have c2 : 2 ≤ c := by
                  rcases Int.lt_or_le c 2 with q | q
                  · have : (e + 2) * c ≤ (e + 2) * 1 := Int.mul_le_mul_of_nonneg_left (by omega) (by omega)
                    omega
                  · exact q
                have cc : c * c ≤ (e + 2) * c := Int.mul_le_mul_of_nonneg_right (by omega) (by omega)
                refine pr c c2 (by omega) ?_
                rw [hc]
                exact Int.emod_eq_zero_of_dvd (Int.dvd_mul_left _ _)
            have q := hQ0 np
            clear ih w hQ1 hQ0 np
            refine am_run 400 mt_F_isPrime ok_F_isPrime (fun K S hK hS => ?_)
            iterate 40 (all_goals (first
              | (refine And.intro (by omega) ?_)
              | (refine And.intro (⟨x1, by omega⟩) ?_)
              | (refine And.intro (fun hb => absurd hb (by omega)) (fun hb => ?_))
              | (refine And.intro (fun hb => ?_) (fun hb => absurd hb (by omega)))
              | (refine And.intro (fun hb => ?_) (fun hb => ?_))
              | (intro hb)
              | (conv => whnf)))
            exact q
          · have nx := ih (e + 6) (by omega) (by omega) (by omega) (by omega) (fun j j1 j2 j3 => by
              by_cases z1 : j = e
              · rw [z1]; exact hd
              · by_cases z2 : j = e + 2
                · rw [z2]; exact hd2
                · exact w j j1 (by omega) j3)
            clear ih w hQ1 hQ0
            refine am_run 400 mt_F_isPrime ok_F_isPrime (fun K S hK hS => ?_)
            iterate 40 (all_goals (first
              | (refine And.intro (by omega) ?_)
              | (refine And.intro (⟨x1, by omega⟩) ?_)
              | (refine And.intro (fun hb => absurd hb (by omega)) (fun hb => ?_))
              | (refine And.intro (fun hb => ?_) (fun hb => absurd hb (by omega)))
              | (refine And.intro (fun hb => ?_) (fun hb => ?_))
              | (intro hb)
              | (conv => whnf)))
            exact hS nx
  by_cases n2 : n % 2 = 0
  · have q := hQ0 (fun pr => pr 2 (by omega) (by omega) n2)
    refine am_run 400 mt_F_isPrime ok_F_isPrime (fun K S hK hS => ?_)
    iterate 30 (all_goals (first
      | (refine And.intro (by omega) ?_)
      | (refine And.intro (fun hb => absurd hb (by omega)) (fun hb => ?_))
      | (refine And.intro (fun hb => ?_) (fun hb => absurd hb (by omega)))
      | (refine And.intro (fun hb => ?_) (fun hb => ?_))
      | (intro hb)
      | (conv => whnf)))
    exact q
  · by_cases n3 : n % 3 = 0
    · have q := hQ0 (fun pr => pr 3 (by omega) (by omega) n3)
      refine am_run 400 mt_F_isPrime ok_F_isPrime (fun K S hK hS => ?_)
      iterate 30 (all_goals (first
        | (refine And.intro (by omega) ?_)
        | (refine And.intro (fun hb => absurd hb (by omega)) (fun hb => ?_))
        | (refine And.intro (fun hb => ?_) (fun hb => absurd hb (by omega)))
        | (refine And.intro (fun hb => ?_) (fun hb => ?_))
        | (intro hb)
        | (conv => whnf)))
      exact q
    · have st := loop n2 n3 (n + 2).toNat 5 (by omega) (by omega) (by omega) (by omega) (fun j j1 j2 => absurd j2 (by omega))
      clear loop
      refine am_run 400 mt_F_isPrime ok_F_isPrime (fun K S hK hS => ?_)
      iterate 30 (all_goals (first
        | (refine And.intro (by omega) ?_)
        | (refine And.intro (fun hb => absurd hb (by omega)) (fun hb => ?_))
        | (refine And.intro (fun hb => ?_) (fun hb => absurd hb (by omega)))
        | (refine And.intro (fun hb => ?_) (fun hb => ?_))
        | (intro hb)
        | (conv => whnf)))
      exact hS st
