/-! all rows of up to 8 points -/
theorem y_co_ep (a : Nat → Int) (F : List Int → List Nat) : ∀ L : List (List Int), y_ep a (y_co (L.map F)) = o_sum (fun r => y_em a (F r)) L
  | [] => rfl
  | r :: L => by
    rw [List.map_cons, y_co, y_ep_pi, y_co_ep a F L, o_sum]
    show (1 : Int) * _ + _ = _
    rw [Int.one_mul]
theorem y_chc_all {i : Nat} (h : i < 10) : y_chc i = true := by
  rcases (by omega : i = 0 ∨ i = 1 ∨ i = 2 ∨ i = 3 ∨ i = 4 ∨ i = 5 ∨ i = 6 ∨ i = 7 ∨ i = 8 ∨ i = 9) with rfl | rfl | rfl | rfl | rfl | rfl | rfl | rfl | rfl | rfl
  · exact y_chc0
  · exact y_chc1
  · exact y_chc2
  · exact y_chc3
  · exact y_chc4
  · exact y_chc5
  · exact y_chc6
  · exact y_chc7
  · exact y_chc8
  · exact y_chc9
theorem y_take_drop {α : Type} (L : List α) (s m : Nat) : L.drop s = (L.drop s).take m ++ L.drop (s + m) := by
  rw [← List.drop_drop, List.take_append_drop]
theorem y_c8 (a : Nat → Int) {i s t : Nat} (h : i < 10) (hs : s = 150 * i) (ht : t = s + 150) : o_sum (fun r => y_em a (y_rm 8 r)) ((o_cp 8 [] 0).drop s) = y_ep a (y_CP.getD i []) + o_sum (fun r => y_em a (y_rm 8 r)) ((o_cp 8 [] 0).drop t) := by
  have hc := of_decide_eq_true (Bool.and_eq_true_iff.mp (y_chc_all h)).2
  rw [y_take_drop _ s 150, o_sum_app, ← hc, y_co_ep, ht, hs]
  rfl
def y_add : List (List (List Nat × Nat)) → List (List Nat × Nat)
  | [] => []
  | P :: L => y_pa [] 1 P (y_add L)
theorem y_add_ok : y_add y_CP = y_PN.getD 8 [] := by decide +kernel
def y_fs (f : List (List Nat × Nat) → Int) : List (List (List Nat × Nat)) → Int
  | [] => 0
  | P :: L => f P + y_fs f L
theorem y_add_ep (a : Nat → Int) : ∀ L, y_ep a (y_add L) = y_fs (y_ep a) L
  | [] => rfl
  | P :: L => by
    rw [y_add, y_ep_pa, y_add_ep a L, y_fs]
    show (1 : Int) * 1 * _ + _ = _
    rw [Int.one_mul, Int.one_mul]
theorem y_fs10 (f : List (List Nat × Nat) → Int) : y_fs f y_CP = f (y_CP.getD 0 []) + (f (y_CP.getD 1 []) + (f (y_CP.getD 2 []) + (f (y_CP.getD 3 []) + (f (y_CP.getD 4 []) + (f (y_CP.getD 5 []) + (f (y_CP.getD 6 []) + (f (y_CP.getD 7 []) + (f (y_CP.getD 8 []) + (f (y_CP.getD 9 []) + (0)))))))))) := rfl
theorem y_endL : ((o_cp 8 [] 0).drop 1500).isEmpty = true := by decide +kernel
theorem y_tot8 (a : Nat → Int) : o_sum (fun r => y_em a (y_rm 8 r)) (o_cp 8 [] 0) = y_ep a (y_PN.getD 8 []) := by
  have e := y_c8 a (i := 0) (s := 0) (t := 150) (by omega) rfl rfl
  rw [List.drop_zero] at e
  rw [← y_add_ok, y_add_ep, y_fs10, e, y_c8 a (i := 1) (s := 150) (t := 300) (by omega) rfl rfl, y_c8 a (i := 2) (s := 300) (t := 450) (by omega) rfl rfl, y_c8 a (i := 3) (s := 450) (t := 600) (by omega) rfl rfl, y_c8 a (i := 4) (s := 600) (t := 750) (by omega) rfl rfl, y_c8 a (i := 5) (s := 750) (t := 900) (by omega) rfl rfl, y_c8 a (i := 6) (s := 900) (t := 1050) (by omega) rfl rfl, y_c8 a (i := 7) (s := 1050) (t := 1200) (by omega) rfl rfl, y_c8 a (i := 8) (s := 1200) (t := 1350) (by omega) rfl rfl, y_c8 a (i := 9) (s := 1350) (t := 1500) (by omega) rfl rfl, List.isEmpty_iff.mp y_endL]
  rfl
theorem y_mem8 {r : List Int} (h : r ∈ o_cp 8 [] 0) : y_ok (y_FL (y_N r)) (y_K r 8) 8 = true := by
  have key : ∀ m : Nat, m ≤ 10 → r ∈ (o_cp 8 [] 0).drop (150 * (10 - m)) → y_ok (y_FL (y_N r)) (y_K r 8) 8 = true := by
    intro m
    induction m with
    | zero =>
      intro _ h
      have e : (o_cp 8 [] 0).drop (150 * (10 - 0)) = [] := List.isEmpty_iff.mp y_endL
      rw [e] at h
      exact (List.not_mem_nil h).elim
    | succ m ih =>
      intro hm h
      rw [y_take_drop _ _ 150, List.mem_append] at h
      rcases h with h | h
      · exact List.all_eq_true.mp (Bool.and_eq_true_iff.mp (y_chc_all (i := 10 - (m + 1)) (by omega))).1 r h
      · rw [show 150 * (10 - (m + 1)) + 150 = 150 * (10 - m) by omega] at h
        exact ih (by omega) h
  exact key 10 (Nat.le_refl _) (by rw [show 150 * (10 - 10) = 0 from rfl, List.drop_zero]; exact h)
theorem y_chk_all {n : Nat} (h1 : 1 ≤ n) (h8 : n ≤ 7) : y_chk n = true := by
  rcases (by omega : n = 1 ∨ n = 2 ∨ n = 3 ∨ n = 4 ∨ n = 5 ∨ n = 6 ∨ n = 7) with rfl | rfl | rfl | rfl | rfl | rfl | rfl
  · exact y_chk1
  · exact y_chk2
  · exact y_chk3
  · exact y_chk4
  · exact y_chk5
  · exact y_chk6
  · exact y_chk7
theorem y_mem {n : Nat} (h1 : 1 ≤ n) (h8 : n ≤ 8) {r : List Int} (h : r ∈ o_cp n [] 0) : y_ok (y_FL (y_N r)) (y_K r n) n = true := by
  by_cases q : n = 8
  · subst q
    exact y_mem8 h
  · exact List.all_eq_true.mp (Bool.and_eq_true_iff.mp (y_chk_all (n := n) h1 (by omega))).1 r h
theorem y_tot {n : Nat} (h1 : 1 ≤ n) (h8 : n ≤ 8) (a : Nat → Int) : o_sum (fun r => y_em a (y_rm n r)) (o_cp n [] 0) = y_ep a (y_PN.getD n []) := by
  by_cases q : n = 8
  · subst q
    exact y_tot8 a
  · have hc := of_decide_eq_true (Bool.and_eq_true_iff.mp (y_chk_all (n := n) h1 (by omega))).2
    rw [← hc, y_co_ep]
