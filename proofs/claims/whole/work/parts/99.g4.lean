/-! the law's turns -/
set_option maxRecDepth 200000 in
set_option maxHeartbeats 4000000 in
theorem lw_t20 {G : am_G} {V0 V : am_V} {sh : Int → Option Nat} {T cc cs : Nat} {p i : Int} {Q : Option AV → am_V → am_T → Nat → Prop} (hI : II V sh T p (V0 0)) (h32 : ∀ j, am_in32 (V0 0 j)) (hL : V0 0 (-1) ≤ 3073) (hi : 1 ≤ i ∧ i ≤ V0 0 (-1) - 6) (hk : V0 0 i % 32 = 20) (hcc : cc ≤ 100000) (hcs : cs ≤ 1000000) (nx : ∀ (sh2 : Int → Option Nat) (V2 : am_V) (T2 cc2 cs2 : Nat), II V2 sh2 T2 p (V0 0) → cc2 ≤ cc + 10 → cs2 ≤ cs + 100 → am_Sem G 9 168 V0 3 Q 28 [some (vR 0), some (vR 3), some (vR 86), some (vI (i + 6))] [] V2 (am_RF sh2) T2 cc2 cs2) : am_Sem G 9 168 V0 3 Q 28 [some (vR 0), some (vR 3), some (vR 86), some (vI i)] [] V (am_RF sh) T cc cs := by
  have hV : V 0 = V0 0 := hI.1.1
  have eL : V 0 (-1) = V0 0 (-1) := by rw [hV]
  have hk' : V 0 i % 32 = 20 := by rw [hV]; exact hk
  have r : ∀ j, am_in32 (V 0 j) := fun j => by rw [hV]; exact h32 j
  refine am_run 400 mt_L_law ok_L_law (fun K S hK hS => ?_)
  iterate 6 (all_goals (first
    | (refine And.intro (by omega) ?_)
    | (refine And.intro (fun hb => absurd hb (by omega)) (fun hb => ?_))
    | (refine And.intro (fun hb => ?_) (fun hb => absurd hb (by omega)))
    | (refine And.intro (fun hb => ?_) (fun hb => ?_))
    | (intro hb)
    | (conv => whnf)))
  refine am_sw_k 20 964 ?_ ?_ ?_
  · omega
  · rfl
  conv => whnf
  iterate 60 (all_goals (first
    | (refine And.intro (by omega) ?_)
    | (refine And.intro (fun hb => absurd hb (by omega)) (fun hb => ?_))
    | (refine And.intro (fun hb => ?_) (fun hb => absurd hb (by omega)))
    | (refine And.intro (fun hb => ?_) (fun hb => ?_))
    | (intro hb)
    | (conv => whnf)))
  refine hK (am_imp (pr_join (d := 0) hI (r _) (r _) (r _) (r _)) (fun r1 V1 R1 T1 hr => ?_))
  obtain ⟨z, sh1, rfl, hz, rfl, h01, hM⟩ := hr
  have e1 : V 0 = V1 0 := hV.trans h01.symm
  try rw [e1] at hM
  have eL1 : V1 0 (-1) = V0 0 (-1) := by rw [h01]
  iterate 60 (all_goals (first
    | (refine And.intro (by omega) ?_)
    | (refine And.intro (fun hb => absurd hb (by omega)) (fun hb => ?_))
    | (refine And.intro (fun hb => ?_) (fun hb => absurd hb (by omega)))
    | (refine And.intro (fun hb => ?_) (fun hb => ?_))
    | (intro hb)
    | (conv => whnf)))
  refine hK (am_imp hM (fun r2 V2 R2 T2 hr2 => ?_))
  obtain ⟨rfl, sh2, rfl, hII⟩ := hr2
  iterate 60 (all_goals (first
    | (refine And.intro (by omega) ?_)
    | (refine And.intro (fun hb => absurd hb (by omega)) (fun hb => ?_))
    | (refine And.intro (fun hb => ?_) (fun hb => absurd hb (by omega)))
    | (refine And.intro (fun hb => ?_) (fun hb => ?_))
    | (intro hb)
    | (conv => whnf)))
  exact hS (nx sh2 V2 T2 _ _ hII (by simp only [am_nth]; omega) (by simp only [am_nth]; omega))
set_option maxRecDepth 200000 in
set_option maxHeartbeats 4000000 in
theorem lw_t21 {G : am_G} {V0 V : am_V} {sh : Int → Option Nat} {T cc cs : Nat} {p i : Int} {Q : Option AV → am_V → am_T → Nat → Prop} (hI : II V sh T p (V0 0)) (h32 : ∀ j, am_in32 (V0 0 j)) (hL : V0 0 (-1) ≤ 3073) (hi : 1 ≤ i ∧ i ≤ V0 0 (-1) - 6) (hk : V0 0 i % 32 = 21) (hcc : cc ≤ 100000) (hcs : cs ≤ 1000000) (nx : ∀ (sh2 : Int → Option Nat) (V2 : am_V) (T2 cc2 cs2 : Nat), II V2 sh2 T2 p (V0 0) → cc2 ≤ cc + 10 → cs2 ≤ cs + 100 → am_Sem G 9 168 V0 3 Q 28 [some (vR 0), some (vR 3), some (vR 86), some (vI (i + 6))] [] V2 (am_RF sh2) T2 cc2 cs2) : am_Sem G 9 168 V0 3 Q 28 [some (vR 0), some (vR 3), some (vR 86), some (vI i)] [] V (am_RF sh) T cc cs := by
  have hV : V 0 = V0 0 := hI.1.1
  have eL : V 0 (-1) = V0 0 (-1) := by rw [hV]
  have hk' : V 0 i % 32 = 21 := by rw [hV]; exact hk
  have r : ∀ j, am_in32 (V 0 j) := fun j => by rw [hV]; exact h32 j
  refine am_run 400 mt_L_law ok_L_law (fun K S hK hS => ?_)
  iterate 6 (all_goals (first
    | (refine And.intro (by omega) ?_)
    | (refine And.intro (fun hb => absurd hb (by omega)) (fun hb => ?_))
    | (refine And.intro (fun hb => ?_) (fun hb => absurd hb (by omega)))
    | (refine And.intro (fun hb => ?_) (fun hb => ?_))
    | (intro hb)
    | (conv => whnf)))
  refine am_sw_k 21 1017 ?_ ?_ ?_
  · omega
  · rfl
  conv => whnf
  iterate 60 (all_goals (first
    | (refine And.intro (by omega) ?_)
    | (refine And.intro (fun hb => absurd hb (by omega)) (fun hb => ?_))
    | (refine And.intro (fun hb => ?_) (fun hb => absurd hb (by omega)))
    | (refine And.intro (fun hb => ?_) (fun hb => ?_))
    | (intro hb)
    | (conv => whnf)))
  refine hK (am_imp (pr_change (d := 0) hI (r _) (r _) (r _) (r _)) (fun r1 V1 R1 T1 hr => ?_))
  obtain ⟨z, sh1, rfl, hz, rfl, h01, hM⟩ := hr
  have e1 : V 0 = V1 0 := hV.trans h01.symm
  try rw [e1] at hM
  have eL1 : V1 0 (-1) = V0 0 (-1) := by rw [h01]
  iterate 60 (all_goals (first
    | (refine And.intro (by omega) ?_)
    | (refine And.intro (fun hb => absurd hb (by omega)) (fun hb => ?_))
    | (refine And.intro (fun hb => ?_) (fun hb => absurd hb (by omega)))
    | (refine And.intro (fun hb => ?_) (fun hb => ?_))
    | (intro hb)
    | (conv => whnf)))
  refine hK (am_imp hM (fun r2 V2 R2 T2 hr2 => ?_))
  obtain ⟨rfl, sh2, rfl, hII⟩ := hr2
  iterate 60 (all_goals (first
    | (refine And.intro (by omega) ?_)
    | (refine And.intro (fun hb => absurd hb (by omega)) (fun hb => ?_))
    | (refine And.intro (fun hb => ?_) (fun hb => absurd hb (by omega)))
    | (refine And.intro (fun hb => ?_) (fun hb => ?_))
    | (intro hb)
    | (conv => whnf)))
  exact hS (nx sh2 V2 T2 _ _ hII (by simp only [am_nth]; omega) (by simp only [am_nth]; omega))
set_option maxRecDepth 200000 in
set_option maxHeartbeats 4000000 in
theorem lw_t22 {G : am_G} {V0 V : am_V} {sh : Int → Option Nat} {T cc cs : Nat} {p i : Int} {Q : Option AV → am_V → am_T → Nat → Prop} (hI : II V sh T p (V0 0)) (h32 : ∀ j, am_in32 (V0 0 j)) (hL : V0 0 (-1) ≤ 3073) (hi : 1 ≤ i ∧ i ≤ V0 0 (-1) - 6) (hk : V0 0 i % 32 = 22) (hcc : cc ≤ 100000) (hcs : cs ≤ 1000000) (nx : ∀ (sh2 : Int → Option Nat) (V2 : am_V) (T2 cc2 cs2 : Nat), II V2 sh2 T2 p (V0 0) → cc2 ≤ cc + 10 → cs2 ≤ cs + 100 → am_Sem G 9 168 V0 3 Q 28 [some (vR 0), some (vR 3), some (vR 86), some (vI (i + 6))] [] V2 (am_RF sh2) T2 cc2 cs2) : am_Sem G 9 168 V0 3 Q 28 [some (vR 0), some (vR 3), some (vR 86), some (vI i)] [] V (am_RF sh) T cc cs := by
  have hV : V 0 = V0 0 := hI.1.1
  have eL : V 0 (-1) = V0 0 (-1) := by rw [hV]
  have hk' : V 0 i % 32 = 22 := by rw [hV]; exact hk
  have r : ∀ j, am_in32 (V 0 j) := fun j => by rw [hV]; exact h32 j
  refine am_run 400 mt_L_law ok_L_law (fun K S hK hS => ?_)
  iterate 6 (all_goals (first
    | (refine And.intro (by omega) ?_)
    | (refine And.intro (fun hb => absurd hb (by omega)) (fun hb => ?_))
    | (refine And.intro (fun hb => ?_) (fun hb => absurd hb (by omega)))
    | (refine And.intro (fun hb => ?_) (fun hb => ?_))
    | (intro hb)
    | (conv => whnf)))
  refine am_sw_k 22 1070 ?_ ?_ ?_
  · omega
  · rfl
  conv => whnf
  iterate 60 (all_goals (first
    | (refine And.intro (by omega) ?_)
    | (refine And.intro (fun hb => absurd hb (by omega)) (fun hb => ?_))
    | (refine And.intro (fun hb => ?_) (fun hb => absurd hb (by omega)))
    | (refine And.intro (fun hb => ?_) (fun hb => ?_))
    | (intro hb)
    | (conv => whnf)))
  refine hK (am_imp (pr_hankel (d := 0) hI (r _) (r _)) (fun r1 V1 R1 T1 hr => ?_))
  obtain ⟨z, sh1, rfl, hz, rfl, h01, hM⟩ := hr
  have e1 : V 0 = V1 0 := hV.trans h01.symm
  try rw [e1] at hM
  have eL1 : V1 0 (-1) = V0 0 (-1) := by rw [h01]
  iterate 60 (all_goals (first
    | (refine And.intro (by omega) ?_)
    | (refine And.intro (fun hb => absurd hb (by omega)) (fun hb => ?_))
    | (refine And.intro (fun hb => ?_) (fun hb => absurd hb (by omega)))
    | (refine And.intro (fun hb => ?_) (fun hb => ?_))
    | (intro hb)
    | (conv => whnf)))
  refine hK (am_imp hM (fun r2 V2 R2 T2 hr2 => ?_))
  obtain ⟨rfl, sh2, rfl, hII⟩ := hr2
  iterate 60 (all_goals (first
    | (refine And.intro (by omega) ?_)
    | (refine And.intro (fun hb => absurd hb (by omega)) (fun hb => ?_))
    | (refine And.intro (fun hb => ?_) (fun hb => absurd hb (by omega)))
    | (refine And.intro (fun hb => ?_) (fun hb => ?_))
    | (intro hb)
    | (conv => whnf)))
  exact hS (nx sh2 V2 T2 _ _ hII (by simp only [am_nth]; omega) (by simp only [am_nth]; omega))
set_option maxRecDepth 200000 in
set_option maxHeartbeats 4000000 in
theorem lw_t23 {G : am_G} {V0 V : am_V} {sh : Int → Option Nat} {T cc cs : Nat} {p i : Int} {Q : Option AV → am_V → am_T → Nat → Prop} (hI : II V sh T p (V0 0)) (h32 : ∀ j, am_in32 (V0 0 j)) (hL : V0 0 (-1) ≤ 3073) (hi : 1 ≤ i ∧ i ≤ V0 0 (-1) - 6) (hk : V0 0 i % 32 = 23) (hcc : cc ≤ 100000) (hcs : cs ≤ 1000000) (nx : ∀ (sh2 : Int → Option Nat) (V2 : am_V) (T2 cc2 cs2 : Nat), II V2 sh2 T2 p (V0 0) → cc2 ≤ cc + 10 → cs2 ≤ cs + 100 → am_Sem G 9 168 V0 3 Q 28 [some (vR 0), some (vR 3), some (vR 86), some (vI (i + 6))] [] V2 (am_RF sh2) T2 cc2 cs2) : am_Sem G 9 168 V0 3 Q 28 [some (vR 0), some (vR 3), some (vR 86), some (vI i)] [] V (am_RF sh) T cc cs := by
  have hV : V 0 = V0 0 := hI.1.1
  have eL : V 0 (-1) = V0 0 (-1) := by rw [hV]
  have hk' : V 0 i % 32 = 23 := by rw [hV]; exact hk
  have r : ∀ j, am_in32 (V 0 j) := fun j => by rw [hV]; exact h32 j
  refine am_run 400 mt_L_law ok_L_law (fun K S hK hS => ?_)
  iterate 6 (all_goals (first
    | (refine And.intro (by omega) ?_)
    | (refine And.intro (fun hb => absurd hb (by omega)) (fun hb => ?_))
    | (refine And.intro (fun hb => ?_) (fun hb => absurd hb (by omega)))
    | (refine And.intro (fun hb => ?_) (fun hb => ?_))
    | (intro hb)
    | (conv => whnf)))
  refine am_sw_k 23 1104 ?_ ?_ ?_
  · omega
  · rfl
  conv => whnf
  iterate 60 (all_goals (first
    | (refine And.intro (by omega) ?_)
    | (refine And.intro (fun hb => absurd hb (by omega)) (fun hb => ?_))
    | (refine And.intro (fun hb => ?_) (fun hb => absurd hb (by omega)))
    | (refine And.intro (fun hb => ?_) (fun hb => ?_))
    | (intro hb)
    | (conv => whnf)))
  refine hK (am_imp (pr_same (d := 0) hI (r _) (r _)) (fun r1 V1 R1 T1 hr => ?_))
  obtain ⟨z, sh1, rfl, hz, rfl, h01, hM⟩ := hr
  have e1 : V 0 = V1 0 := hV.trans h01.symm
  try rw [e1] at hM
  have eL1 : V1 0 (-1) = V0 0 (-1) := by rw [h01]
  iterate 60 (all_goals (first
    | (refine And.intro (by omega) ?_)
    | (refine And.intro (fun hb => absurd hb (by omega)) (fun hb => ?_))
    | (refine And.intro (fun hb => ?_) (fun hb => absurd hb (by omega)))
    | (refine And.intro (fun hb => ?_) (fun hb => ?_))
    | (intro hb)
    | (conv => whnf)))
  refine hK (am_imp hM (fun r2 V2 R2 T2 hr2 => ?_))
  obtain ⟨rfl, sh2, rfl, hII⟩ := hr2
  iterate 60 (all_goals (first
    | (refine And.intro (by omega) ?_)
    | (refine And.intro (fun hb => absurd hb (by omega)) (fun hb => ?_))
    | (refine And.intro (fun hb => ?_) (fun hb => absurd hb (by omega)))
    | (refine And.intro (fun hb => ?_) (fun hb => ?_))
    | (intro hb)
    | (conv => whnf)))
  exact hS (nx sh2 V2 T2 _ _ hII (by simp only [am_nth]; omega) (by simp only [am_nth]; omega))
set_option maxRecDepth 200000 in
set_option maxHeartbeats 4000000 in
theorem lw_t24 {G : am_G} {V0 V : am_V} {sh : Int → Option Nat} {T cc cs : Nat} {p i : Int} {Q : Option AV → am_V → am_T → Nat → Prop} (hI : II V sh T p (V0 0)) (h32 : ∀ j, am_in32 (V0 0 j)) (hL : V0 0 (-1) ≤ 3073) (hi : 1 ≤ i ∧ i ≤ V0 0 (-1) - 6) (hk : V0 0 i % 32 = 24) (hcc : cc ≤ 100000) (hcs : cs ≤ 1000000) (nx : ∀ (sh2 : Int → Option Nat) (V2 : am_V) (T2 cc2 cs2 : Nat), II V2 sh2 T2 p (V0 0) → cc2 ≤ cc + 10 → cs2 ≤ cs + 100 → am_Sem G 9 168 V0 3 Q 28 [some (vR 0), some (vR 3), some (vR 86), some (vI (i + 6))] [] V2 (am_RF sh2) T2 cc2 cs2) : am_Sem G 9 168 V0 3 Q 28 [some (vR 0), some (vR 3), some (vR 86), some (vI i)] [] V (am_RF sh) T cc cs := by
  have hV : V 0 = V0 0 := hI.1.1
  have eL : V 0 (-1) = V0 0 (-1) := by rw [hV]
  have hk' : V 0 i % 32 = 24 := by rw [hV]; exact hk
  have r : ∀ j, am_in32 (V 0 j) := fun j => by rw [hV]; exact h32 j
  refine am_run 400 mt_L_law ok_L_law (fun K S hK hS => ?_)
  iterate 6 (all_goals (first
    | (refine And.intro (by omega) ?_)
    | (refine And.intro (fun hb => absurd hb (by omega)) (fun hb => ?_))
    | (refine And.intro (fun hb => ?_) (fun hb => absurd hb (by omega)))
    | (refine And.intro (fun hb => ?_) (fun hb => ?_))
    | (intro hb)
    | (conv => whnf)))
  refine am_sw_k 24 1137 ?_ ?_ ?_
  · omega
  · rfl
  conv => whnf
  iterate 60 (all_goals (first
    | (refine And.intro (by omega) ?_)
    | (refine And.intro (fun hb => absurd hb (by omega)) (fun hb => ?_))
    | (refine And.intro (fun hb => ?_) (fun hb => absurd hb (by omega)))
    | (refine And.intro (fun hb => ?_) (fun hb => ?_))
    | (intro hb)
    | (conv => whnf)))
  refine hK (am_imp (pr_genus (d := 0) hI (r _) (r _)) (fun r1 V1 R1 T1 hr => ?_))
  obtain ⟨z, sh1, rfl, hz, rfl, h01, hM⟩ := hr
  have e1 : V 0 = V1 0 := hV.trans h01.symm
  try rw [e1] at hM
  have eL1 : V1 0 (-1) = V0 0 (-1) := by rw [h01]
  iterate 60 (all_goals (first
    | (refine And.intro (by omega) ?_)
    | (refine And.intro (fun hb => absurd hb (by omega)) (fun hb => ?_))
    | (refine And.intro (fun hb => ?_) (fun hb => absurd hb (by omega)))
    | (refine And.intro (fun hb => ?_) (fun hb => ?_))
    | (intro hb)
    | (conv => whnf)))
  refine hK (am_imp hM (fun r2 V2 R2 T2 hr2 => ?_))
  obtain ⟨rfl, sh2, rfl, hII⟩ := hr2
  iterate 60 (all_goals (first
    | (refine And.intro (by omega) ?_)
    | (refine And.intro (fun hb => absurd hb (by omega)) (fun hb => ?_))
    | (refine And.intro (fun hb => ?_) (fun hb => absurd hb (by omega)))
    | (refine And.intro (fun hb => ?_) (fun hb => ?_))
    | (intro hb)
    | (conv => whnf)))
  exact hS (nx sh2 V2 T2 _ _ hII (by simp only [am_nth]; omega) (by simp only [am_nth]; omega))
set_option maxRecDepth 200000 in
set_option maxHeartbeats 4000000 in
theorem lw_t25 {G : am_G} {V0 V : am_V} {sh : Int → Option Nat} {T cc cs : Nat} {p i : Int} {Q : Option AV → am_V → am_T → Nat → Prop} (hI : II V sh T p (V0 0)) (h32 : ∀ j, am_in32 (V0 0 j)) (hL : V0 0 (-1) ≤ 3073) (hi : 1 ≤ i ∧ i ≤ V0 0 (-1) - 6) (hk : V0 0 i % 32 = 25) (hcc : cc ≤ 100000) (hcs : cs ≤ 1000000) (nx : ∀ (sh2 : Int → Option Nat) (V2 : am_V) (T2 cc2 cs2 : Nat), II V2 sh2 T2 p (V0 0) → cc2 ≤ cc + 10 → cs2 ≤ cs + 100 → am_Sem G 9 168 V0 3 Q 28 [some (vR 0), some (vR 3), some (vR 86), some (vI (i + 6))] [] V2 (am_RF sh2) T2 cc2 cs2) : am_Sem G 9 168 V0 3 Q 28 [some (vR 0), some (vR 3), some (vR 86), some (vI i)] [] V (am_RF sh) T cc cs := by
  have hV : V 0 = V0 0 := hI.1.1
  have eL : V 0 (-1) = V0 0 (-1) := by rw [hV]
  have hk' : V 0 i % 32 = 25 := by rw [hV]; exact hk
  have r : ∀ j, am_in32 (V 0 j) := fun j => by rw [hV]; exact h32 j
  refine am_run 400 mt_L_law ok_L_law (fun K S hK hS => ?_)
  iterate 6 (all_goals (first
    | (refine And.intro (by omega) ?_)
    | (refine And.intro (fun hb => absurd hb (by omega)) (fun hb => ?_))
    | (refine And.intro (fun hb => ?_) (fun hb => absurd hb (by omega)))
    | (refine And.intro (fun hb => ?_) (fun hb => ?_))
    | (intro hb)
    | (conv => whnf)))
  refine am_sw_k 25 1171 ?_ ?_ ?_
  · omega
  · rfl
  conv => whnf
  iterate 60 (all_goals (first
    | (refine And.intro (by omega) ?_)
    | (refine And.intro (fun hb => absurd hb (by omega)) (fun hb => ?_))
    | (refine And.intro (fun hb => ?_) (fun hb => absurd hb (by omega)))
    | (refine And.intro (fun hb => ?_) (fun hb => ?_))
    | (intro hb)
    | (conv => whnf)))
  refine hK (am_imp (pr_mean (d := 0) hI (r _) (r _)) (fun r1 V1 R1 T1 hr => ?_))
  obtain ⟨z, sh1, rfl, hz, rfl, h01, hM⟩ := hr
  have e1 : V 0 = V1 0 := hV.trans h01.symm
  try rw [e1] at hM
  have eL1 : V1 0 (-1) = V0 0 (-1) := by rw [h01]
  iterate 60 (all_goals (first
    | (refine And.intro (by omega) ?_)
    | (refine And.intro (fun hb => absurd hb (by omega)) (fun hb => ?_))
    | (refine And.intro (fun hb => ?_) (fun hb => absurd hb (by omega)))
    | (refine And.intro (fun hb => ?_) (fun hb => ?_))
    | (intro hb)
    | (conv => whnf)))
  refine hK (am_imp hM (fun r2 V2 R2 T2 hr2 => ?_))
  obtain ⟨rfl, sh2, rfl, hII⟩ := hr2
  iterate 60 (all_goals (first
    | (refine And.intro (by omega) ?_)
    | (refine And.intro (fun hb => absurd hb (by omega)) (fun hb => ?_))
    | (refine And.intro (fun hb => ?_) (fun hb => absurd hb (by omega)))
    | (refine And.intro (fun hb => ?_) (fun hb => ?_))
    | (intro hb)
    | (conv => whnf)))
  exact hS (nx sh2 V2 T2 _ _ hII (by simp only [am_nth]; omega) (by simp only [am_nth]; omega))
set_option maxRecDepth 200000 in
set_option maxHeartbeats 4000000 in
theorem lw_t26 {G : am_G} {V0 V : am_V} {sh : Int → Option Nat} {T cc cs : Nat} {p i : Int} {Q : Option AV → am_V → am_T → Nat → Prop} (hI : II V sh T p (V0 0)) (h32 : ∀ j, am_in32 (V0 0 j)) (hL : V0 0 (-1) ≤ 3073) (hi : 1 ≤ i ∧ i ≤ V0 0 (-1) - 6) (hk : V0 0 i % 32 = 26) (hcc : cc ≤ 100000) (hcs : cs ≤ 1000000) (nx : ∀ (sh2 : Int → Option Nat) (V2 : am_V) (T2 cc2 cs2 : Nat), II V2 sh2 T2 p (V0 0) → cc2 ≤ cc + 10 → cs2 ≤ cs + 100 → am_Sem G 9 168 V0 3 Q 28 [some (vR 0), some (vR 3), some (vR 86), some (vI (i + 6))] [] V2 (am_RF sh2) T2 cc2 cs2) : am_Sem G 9 168 V0 3 Q 28 [some (vR 0), some (vR 3), some (vR 86), some (vI i)] [] V (am_RF sh) T cc cs := by
  have hV : V 0 = V0 0 := hI.1.1
  have eL : V 0 (-1) = V0 0 (-1) := by rw [hV]
  have hk' : V 0 i % 32 = 26 := by rw [hV]; exact hk
  have r : ∀ j, am_in32 (V 0 j) := fun j => by rw [hV]; exact h32 j
  refine am_run 400 mt_L_law ok_L_law (fun K S hK hS => ?_)
  iterate 6 (all_goals (first
    | (refine And.intro (by omega) ?_)
    | (refine And.intro (fun hb => absurd hb (by omega)) (fun hb => ?_))
    | (refine And.intro (fun hb => ?_) (fun hb => absurd hb (by omega)))
    | (refine And.intro (fun hb => ?_) (fun hb => ?_))
    | (intro hb)
    | (conv => whnf)))
  refine am_sw_k 26 1205 ?_ ?_ ?_
  · omega
  · rfl
  conv => whnf
  iterate 60 (all_goals (first
    | (refine And.intro (by omega) ?_)
    | (refine And.intro (fun hb => absurd hb (by omega)) (fun hb => ?_))
    | (refine And.intro (fun hb => ?_) (fun hb => absurd hb (by omega)))
    | (refine And.intro (fun hb => ?_) (fun hb => ?_))
    | (intro hb)
    | (conv => whnf)))
  refine hK (am_imp (pr_walks (d := 0) hI (r _) (r _)) (fun r1 V1 R1 T1 hr => ?_))
  obtain ⟨z, sh1, rfl, hz, rfl, h01, hM⟩ := hr
  have e1 : V 0 = V1 0 := hV.trans h01.symm
  try rw [e1] at hM
  have eL1 : V1 0 (-1) = V0 0 (-1) := by rw [h01]
  iterate 60 (all_goals (first
    | (refine And.intro (by omega) ?_)
    | (refine And.intro (fun hb => absurd hb (by omega)) (fun hb => ?_))
    | (refine And.intro (fun hb => ?_) (fun hb => absurd hb (by omega)))
    | (refine And.intro (fun hb => ?_) (fun hb => ?_))
    | (intro hb)
    | (conv => whnf)))
  refine hK (am_imp hM (fun r2 V2 R2 T2 hr2 => ?_))
  obtain ⟨rfl, sh2, rfl, hII⟩ := hr2
  iterate 60 (all_goals (first
    | (refine And.intro (by omega) ?_)
    | (refine And.intro (fun hb => absurd hb (by omega)) (fun hb => ?_))
    | (refine And.intro (fun hb => ?_) (fun hb => absurd hb (by omega)))
    | (refine And.intro (fun hb => ?_) (fun hb => ?_))
    | (intro hb)
    | (conv => whnf)))
  exact hS (nx sh2 V2 T2 _ _ hII (by simp only [am_nth]; omega) (by simp only [am_nth]; omega))
set_option maxRecDepth 200000 in
set_option maxHeartbeats 4000000 in
theorem lw_t27 {G : am_G} {V0 V : am_V} {sh : Int → Option Nat} {T cc cs : Nat} {p i : Int} {Q : Option AV → am_V → am_T → Nat → Prop} (hI : II V sh T p (V0 0)) (h32 : ∀ j, am_in32 (V0 0 j)) (hL : V0 0 (-1) ≤ 3073) (hi : 1 ≤ i ∧ i ≤ V0 0 (-1) - 6) (hk : V0 0 i % 32 = 27) (hcc : cc ≤ 100000) (hcs : cs ≤ 1000000) (nx : ∀ (sh2 : Int → Option Nat) (V2 : am_V) (T2 cc2 cs2 : Nat), II V2 sh2 T2 p (V0 0) → cc2 ≤ cc + 10 → cs2 ≤ cs + 100 → am_Sem G 9 168 V0 3 Q 28 [some (vR 0), some (vR 3), some (vR 86), some (vI (i + 6))] [] V2 (am_RF sh2) T2 cc2 cs2) : am_Sem G 9 168 V0 3 Q 28 [some (vR 0), some (vR 3), some (vR 86), some (vI i)] [] V (am_RF sh) T cc cs := by
  have hV : V 0 = V0 0 := hI.1.1
  have eL : V 0 (-1) = V0 0 (-1) := by rw [hV]
  have hk' : V 0 i % 32 = 27 := by rw [hV]; exact hk
  have r : ∀ j, am_in32 (V 0 j) := fun j => by rw [hV]; exact h32 j
  refine am_run 400 mt_L_law ok_L_law (fun K S hK hS => ?_)
  iterate 6 (all_goals (first
    | (refine And.intro (by omega) ?_)
    | (refine And.intro (fun hb => absurd hb (by omega)) (fun hb => ?_))
    | (refine And.intro (fun hb => ?_) (fun hb => absurd hb (by omega)))
    | (refine And.intro (fun hb => ?_) (fun hb => ?_))
    | (intro hb)
    | (conv => whnf)))
  refine am_sw_k 27 1239 ?_ ?_ ?_
  · omega
  · rfl
  conv => whnf
  iterate 60 (all_goals (first
    | (refine And.intro (by omega) ?_)
    | (refine And.intro (fun hb => absurd hb (by omega)) (fun hb => ?_))
    | (refine And.intro (fun hb => ?_) (fun hb => absurd hb (by omega)))
    | (refine And.intro (fun hb => ?_) (fun hb => ?_))
    | (intro hb)
    | (conv => whnf)))
  refine hK (am_imp (pr_count (d := 0) hI (r _)) (fun r1 V1 R1 T1 hr => ?_))
  obtain ⟨z, sh1, rfl, hz, rfl, h01, hM⟩ := hr
  have e1 : V 0 = V1 0 := hV.trans h01.symm
  try rw [e1] at hM
  have eL1 : V1 0 (-1) = V0 0 (-1) := by rw [h01]
  iterate 60 (all_goals (first
    | (refine And.intro (by omega) ?_)
    | (refine And.intro (fun hb => absurd hb (by omega)) (fun hb => ?_))
    | (refine And.intro (fun hb => ?_) (fun hb => absurd hb (by omega)))
    | (refine And.intro (fun hb => ?_) (fun hb => ?_))
    | (intro hb)
    | (conv => whnf)))
  refine hK (am_imp hM (fun r2 V2 R2 T2 hr2 => ?_))
  obtain ⟨rfl, sh2, rfl, hII⟩ := hr2
  iterate 60 (all_goals (first
    | (refine And.intro (by omega) ?_)
    | (refine And.intro (fun hb => absurd hb (by omega)) (fun hb => ?_))
    | (refine And.intro (fun hb => ?_) (fun hb => absurd hb (by omega)))
    | (refine And.intro (fun hb => ?_) (fun hb => ?_))
    | (intro hb)
    | (conv => whnf)))
  exact hS (nx sh2 V2 T2 _ _ hII (by simp only [am_nth]; omega) (by simp only [am_nth]; omega))
set_option maxRecDepth 200000 in
set_option maxHeartbeats 4000000 in
theorem lw_t28 {G : am_G} {V0 V : am_V} {sh : Int → Option Nat} {T cc cs : Nat} {p i : Int} {Q : Option AV → am_V → am_T → Nat → Prop} (hI : II V sh T p (V0 0)) (h32 : ∀ j, am_in32 (V0 0 j)) (hL : V0 0 (-1) ≤ 3073) (hi : 1 ≤ i ∧ i ≤ V0 0 (-1) - 6) (hk : V0 0 i % 32 = 28) (hcc : cc ≤ 100000) (hcs : cs ≤ 1000000) (nx : ∀ (sh2 : Int → Option Nat) (V2 : am_V) (T2 cc2 cs2 : Nat), II V2 sh2 T2 p (V0 0) → cc2 ≤ cc + 10 → cs2 ≤ cs + 100 → am_Sem G 9 168 V0 3 Q 28 [some (vR 0), some (vR 3), some (vR 86), some (vI (i + 6))] [] V2 (am_RF sh2) T2 cc2 cs2) : am_Sem G 9 168 V0 3 Q 28 [some (vR 0), some (vR 3), some (vR 86), some (vI i)] [] V (am_RF sh) T cc cs := by
  have hV : V 0 = V0 0 := hI.1.1
  have eL : V 0 (-1) = V0 0 (-1) := by rw [hV]
  have hk' : V 0 i % 32 = 28 := by rw [hV]; exact hk
  have r : ∀ j, am_in32 (V 0 j) := fun j => by rw [hV]; exact h32 j
  refine am_run 400 mt_L_law ok_L_law (fun K S hK hS => ?_)
  iterate 6 (all_goals (first
    | (refine And.intro (by omega) ?_)
    | (refine And.intro (fun hb => absurd hb (by omega)) (fun hb => ?_))
    | (refine And.intro (fun hb => ?_) (fun hb => absurd hb (by omega)))
    | (refine And.intro (fun hb => ?_) (fun hb => ?_))
    | (intro hb)
    | (conv => whnf)))
  refine am_sw_k 28 1262 ?_ ?_ ?_
  · omega
  · rfl
  conv => whnf
  iterate 60 (all_goals (first
    | (refine And.intro (by omega) ?_)
    | (refine And.intro (fun hb => absurd hb (by omega)) (fun hb => ?_))
    | (refine And.intro (fun hb => ?_) (fun hb => absurd hb (by omega)))
    | (refine And.intro (fun hb => ?_) (fun hb => ?_))
    | (intro hb)
    | (conv => whnf)))
  refine hK (am_imp (pr_status (d := 0) hI) (fun r1 V1 R1 T1 hr => ?_))
  obtain ⟨z, sh1, rfl, hz, rfl, h01, hM⟩ := hr
  have e1 : V 0 = V1 0 := hV.trans h01.symm
  try rw [e1] at hM
  have eL1 : V1 0 (-1) = V0 0 (-1) := by rw [h01]
  iterate 60 (all_goals (first
    | (refine And.intro (by omega) ?_)
    | (refine And.intro (fun hb => absurd hb (by omega)) (fun hb => ?_))
    | (refine And.intro (fun hb => ?_) (fun hb => absurd hb (by omega)))
    | (refine And.intro (fun hb => ?_) (fun hb => ?_))
    | (intro hb)
    | (conv => whnf)))
  refine hK (am_imp hM (fun r2 V2 R2 T2 hr2 => ?_))
  obtain ⟨rfl, sh2, rfl, hII⟩ := hr2
  iterate 60 (all_goals (first
    | (refine And.intro (by omega) ?_)
    | (refine And.intro (fun hb => absurd hb (by omega)) (fun hb => ?_))
    | (refine And.intro (fun hb => ?_) (fun hb => absurd hb (by omega)))
    | (refine And.intro (fun hb => ?_) (fun hb => ?_))
    | (intro hb)
    | (conv => whnf)))
  exact hS (nx sh2 V2 T2 _ _ hII (by simp only [am_nth]; omega) (by simp only [am_nth]; omega))
