/-! the product: what the class finds -/
theorem y_z0 : (∀ j : Fin 9, y_at y_GT 0 j = if (j : Nat) = 0 then [([], 1)] else []) ∧ (∀ j : Fin 9, y_at y_HT 0 j = if (j : Nat) = 0 then [([], 1)] else []) ∧ y_at y_GT 1 0 = [] ∧ y_at y_HT 1 0 = [] := by decide +kernel
theorem y_pw {p : Int} {a : Nat → Int} {m : Int → Int} {R : List (List (List (List Nat × Nat)))} {k : Nat} (hp : 1 < p) (hk : k ≤ 8) (r0 : ∀ j : Nat, j ≤ 8 → y_at R 0 j = if j = 0 then [([], 1)] else []) (rc : ∀ e j : Nat, e < 8 → j ≤ 8 → y_cv (y_at R e) (y_at R 1) j (j + 1) = y_at R (e + 1) j) (hm : ∀ j : Nat, j ≤ k → m j = y_ep a (y_at R 1 j) % p) : ∀ e : Nat, e ≤ 8 → ∀ j : Nat, j ≤ k → sr_pw p m e j = y_ep a (y_at R e j) % p
  | 0, _, j, hj => by
    rw [r0 j (by omega), sr_pw]
    by_cases q : j = 0
    · rw [if_pos (by omega), if_pos q]
      show 1 = ((1 : Nat) * (1 : Int) + 0) % p
      rw [show ((1 : Nat) * (1 : Int) + 0) = 1 from rfl, Int.emod_eq_of_lt (by omega) hp]
    · rw [if_neg (by omega), if_neg q, y_ep, Int.zero_emod]
  | e + 1, he, j, hj => by
    have ih := y_pw hp hk r0 rc hm e (by omega)
    rw [← rc e j (by omega) (by omega), sr_pw, show ((j : Int) + 1).toNat = j + 1 by omega]
    exact y_cv_ok hp (j + 1) (by omega) (fun i hi => ⟨ih i (by omega), hm (j - i) (by omega)⟩)
theorem y_class {p : Int} {a : Nat → Int} {c1 c2 mg mh : Int → Int} {n : Nat} (hp : 1 < p) (hn : n ≤ 8) (ha : ∀ s : Nat, 1 ≤ s → s ≤ n → c1 s = a s % p ∧ c2 s = a (s + 9) % p) (g0 : mg 0 = 0) (h0 : mh 0 = 0)
    (hg : ∀ k : Nat, 1 ≤ k → k ≤ n → mg k = y_sw p c1 (sr_pw p mh) k 1 k) (hh : ∀ k : Nat, 1 ≤ k → k ≤ n → mh k = y_sw p c2 (sr_pw p mg) k 1 k) : ∀ k : Nat, 1 ≤ k → k ≤ n → y_sw p c1 (sr_pw p mh) k 0 k = y_ep a (y_PN.getD k []) % p := by
  have rG0 : ∀ j : Nat, j ≤ 8 → y_at y_GT 0 j = if j = 0 then [([], 1)] else [] := fun j hj => y_z0.1 ⟨j, by omega⟩
  have rH0 : ∀ j : Nat, j ≤ 8 → y_at y_HT 0 j = if j = 0 then [([], 1)] else [] := fun j hj => y_z0.2.1 ⟨j, by omega⟩
  have rG : ∀ e j : Nat, e < 8 → j ≤ 8 → y_cv (y_at y_GT e) (y_at y_GT 1) j (j + 1) = y_at y_GT (e + 1) j := fun e j he hj => y_ckG ⟨e, he⟩ ⟨j, by omega⟩
  have rH : ∀ e j : Nat, e < 8 → j ≤ 8 → y_cv (y_at y_HT e) (y_at y_HT 1) j (j + 1) = y_at y_HT (e + 1) j := fun e j he hj => y_ckH ⟨e, he⟩ ⟨j, by omega⟩
  have e1 : ∀ s : Nat, y_ep a (y_one s) = a s := fun s => by
    show ((1 : Nat) : Int) * (a s * 1) + 0 = a s
    omega
  have e2 : ∀ s : Nat, y_ep a (y_oth s) = a (s + 9) := fun s => by
    show ((1 : Nat) : Int) * (a (s + 9) * 1) + 0 = a (s + 9)
    omega
  have key : ∀ k : Nat, k ≤ n → (∀ j : Nat, j ≤ k → mg j = y_ep a (y_at y_GT 1 j) % p) ∧ ∀ j : Nat, j ≤ k → mh j = y_ep a (y_at y_HT 1 j) % p := by
    intro k
    induction k with
    | zero =>
      intro _
      constructor
      · intro j hj
        rw [show j = 0 by omega, y_z0.2.2.1, y_ep, Int.zero_emod]
        exact g0
      · intro j hj
        rw [show j = 0 by omega, y_z0.2.2.2, y_ep, Int.zero_emod]
        exact h0
    | succ k ih =>
      intro hk
      obtain ⟨i1, i2⟩ := ih (by omega)
      have pG := y_pw (m := mg) (a := a) hp (by omega) rG0 rG i1
      have pH := y_pw (m := mh) (a := a) hp (by omega) rH0 rH i2
      constructor
      · intro j hj
        by_cases q : j = k + 1
        · rw [q, hg (k + 1) (by omega) hk]
          have := y_ckg ⟨k, by omega⟩
          show _ = y_ep a (y_at y_GT 1 (k + 1)) % p
          rw [← show y_wt y_one (y_at y_HT) (k + 1) 1 (k + 1) = y_at y_GT 1 (k + 1) from this]
          exact y_sw_ok (less := 1) (k := k + 1) hp (by omega) (by omega) (k + 1) (fun i hi => ⟨by rw [e1]; exact (ha (i + 1) (by omega) (by omega)).1, pH i (by omega) k (Nat.le_refl _)⟩)
        · exact i1 j (by omega)
      · intro j hj
        by_cases q : j = k + 1
        · rw [q, hh (k + 1) (by omega) hk]
          have := y_ckh ⟨k, by omega⟩
          rw [← show y_wt y_oth (y_at y_GT) (k + 1) 1 (k + 1) = y_at y_HT 1 (k + 1) from this]
          exact y_sw_ok (less := 1) (k := k + 1) hp (by omega) (by omega) (k + 1) (fun i hi => ⟨by rw [e2]; exact (ha (i + 1) (by omega) (by omega)).2, pG i (by omega) k (Nat.le_refl _)⟩)
        · exact i2 j (by omega)
  intro k k1 kn
  obtain ⟨k', rfl⟩ : ∃ k', k = k' + 1 := ⟨k - 1, by omega⟩
  obtain ⟨-, i2⟩ := key n (Nat.le_refl _)
  have pH := y_pw (m := mh) (a := a) hp hn rH0 rH i2
  have := y_ckp ⟨k', by omega⟩
  rw [← show y_wt y_one (y_at y_HT) (k' + 1) 0 (k' + 1) = y_PN.getD (k' + 1) [] from this]
  exact y_sw_ok (less := 0) (k := k' + 1) hp (by omega) (by omega) (k' + 1) (fun i hi => ⟨by rw [e1]; exact (ha (i + 1) (by omega) (by omega)).1, pH (i + 1) (by omega) (k' + 1) kn⟩)
