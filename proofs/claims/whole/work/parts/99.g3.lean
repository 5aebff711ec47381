/-! the law's turns -/
set_option maxRecDepth 200000 in
set_option maxHeartbeats 4000000 in
theorem lw_t10 {G : am_G} {V0 V : am_V} {sh : Int → Option Nat} {T cc cs : Nat} {p i : Int} {Q : Option AV → am_V → am_T → Nat → Prop} (hI : II V sh T p (V0 0)) (h32 : ∀ j, am_in32 (V0 0 j)) (hL : V0 0 (-1) ≤ 3073) (hi : 1 ≤ i ∧ i ≤ V0 0 (-1) - 6) (hk : V0 0 i % 32 = 10) (hcc : cc ≤ 100000) (hcs : cs ≤ 1000000) (nx : ∀ (sh2 : Int → Option Nat) (V2 : am_V) (T2 cc2 cs2 : Nat), II V2 sh2 T2 p (V0 0) → cc2 ≤ cc + 10 → cs2 ≤ cs + 100 → am_Sem G 9 168 V0 3 Q 28 [some (vR 0), some (vR 3), some (vR 86), some (vI (i + 6))] [] V2 (am_RF sh2) T2 cc2 cs2) : am_Sem G 9 168 V0 3 Q 28 [some (vR 0), some (vR 3), some (vR 86), some (vI i)] [] V (am_RF sh) T cc cs := by
  have hV : V 0 = V0 0 := hI.1.1
  have eL : V 0 (-1) = V0 0 (-1) := by rw [hV]
  have hk' : V 0 i % 32 = 10 := by rw [hV]; exact hk
  have r : ∀ j, am_in32 (V 0 j) := fun j => by rw [hV]; exact h32 j
  refine am_run 400 mt_L_law ok_L_law (fun K S hK hS => ?_)
  iterate 6 (all_goals (first
    | (refine And.intro (by omega) ?_)
    | (refine And.intro (fun hb => absurd hb (by omega)) (fun hb => ?_))
    | (refine And.intro (fun hb => ?_) (fun hb => absurd hb (by omega)))
    | (refine And.intro (fun hb => ?_) (fun hb => ?_))
    | (intro hb)
    | (conv => whnf)))
  refine am_sw_k 10 613 ?_ ?_ ?_
  · omega
  · rfl
  conv => whnf
  iterate 60 (all_goals (first
    | (refine And.intro (by omega) ?_)
    | (refine And.intro (fun hb => absurd hb (by omega)) (fun hb => ?_))
    | (refine And.intro (fun hb => ?_) (fun hb => absurd hb (by omega)))
    | (refine And.intro (fun hb => ?_) (fun hb => ?_))
    | (intro hb)
    | (conv => whnf)))
  refine hK (am_imp (pr_is (d := 0) hI (r _) (r _)) (fun r1 V1 R1 T1 hr => ?_))
  obtain ⟨z, sh1, rfl, hz, rfl, h01, hM⟩ := hr
  have e1 : V 0 = V1 0 := hV.trans h01.symm
  try rw [e1] at hM
  have eL1 : V1 0 (-1) = V0 0 (-1) := by rw [h01]
  iterate 60 (all_goals (first
    | (refine And.intro (by omega) ?_)
    | (refine And.intro (fun hb => absurd hb (by omega)) (fun hb => ?_))
    | (refine And.intro (fun hb => ?_) (fun hb => absurd hb (by omega)))
    | (refine And.intro (fun hb => ?_) (fun hb => ?_))
    | (intro hb)
    | (conv => whnf)))
  refine hK (am_imp hM (fun r2 V2 R2 T2 hr2 => ?_))
  obtain ⟨rfl, sh2, rfl, hII⟩ := hr2
  iterate 60 (all_goals (first
    | (refine And.intro (by omega) ?_)
    | (refine And.intro (fun hb => absurd hb (by omega)) (fun hb => ?_))
    | (refine And.intro (fun hb => ?_) (fun hb => absurd hb (by omega)))
    | (refine And.intro (fun hb => ?_) (fun hb => ?_))
    | (intro hb)
    | (conv => whnf)))
  exact hS (nx sh2 V2 T2 _ _ hII (by simp only [am_nth]; omega) (by simp only [am_nth]; omega))
set_option maxRecDepth 200000 in
set_option maxHeartbeats 4000000 in
theorem lw_t11 {G : am_G} {V0 V : am_V} {sh : Int → Option Nat} {T cc cs : Nat} {p i : Int} {Q : Option AV → am_V → am_T → Nat → Prop} (hI : II V sh T p (V0 0)) (h32 : ∀ j, am_in32 (V0 0 j)) (hL : V0 0 (-1) ≤ 3073) (hi : 1 ≤ i ∧ i ≤ V0 0 (-1) - 6) (hk : V0 0 i % 32 = 11) (hcc : cc ≤ 100000) (hcs : cs ≤ 1000000) (nx : ∀ (sh2 : Int → Option Nat) (V2 : am_V) (T2 cc2 cs2 : Nat), II V2 sh2 T2 p (V0 0) → cc2 ≤ cc + 10 → cs2 ≤ cs + 100 → am_Sem G 9 168 V0 3 Q 28 [some (vR 0), some (vR 3), some (vR 86), some (vI (i + 6))] [] V2 (am_RF sh2) T2 cc2 cs2) : am_Sem G 9 168 V0 3 Q 28 [some (vR 0), some (vR 3), some (vR 86), some (vI i)] [] V (am_RF sh) T cc cs := by
  have hV : V 0 = V0 0 := hI.1.1
  have eL : V 0 (-1) = V0 0 (-1) := by rw [hV]
  have hk' : V 0 i % 32 = 11 := by rw [hV]; exact hk
  have r : ∀ j, am_in32 (V 0 j) := fun j => by rw [hV]; exact h32 j
  refine am_run 400 mt_L_law ok_L_law (fun K S hK hS => ?_)
  iterate 6 (all_goals (first
    | (refine And.intro (by omega) ?_)
    | (refine And.intro (fun hb => absurd hb (by omega)) (fun hb => ?_))
    | (refine And.intro (fun hb => ?_) (fun hb => absurd hb (by omega)))
    | (refine And.intro (fun hb => ?_) (fun hb => ?_))
    | (intro hb)
    | (conv => whnf)))
  refine am_sw_k 11 646 ?_ ?_ ?_
  · omega
  · rfl
  conv => whnf
  iterate 60 (all_goals (first
    | (refine And.intro (by omega) ?_)
    | (refine And.intro (fun hb => absurd hb (by omega)) (fun hb => ?_))
    | (refine And.intro (fun hb => ?_) (fun hb => absurd hb (by omega)))
    | (refine And.intro (fun hb => ?_) (fun hb => ?_))
    | (intro hb)
    | (conv => whnf)))
  refine hK (am_imp (pr_as (d := 0) hI (r _) (r _)) (fun r1 V1 R1 T1 hr => ?_))
  obtain ⟨z, sh1, rfl, hz, rfl, h01, hM⟩ := hr
  have e1 : V 0 = V1 0 := hV.trans h01.symm
  try rw [e1] at hM
  have eL1 : V1 0 (-1) = V0 0 (-1) := by rw [h01]
  iterate 60 (all_goals (first
    | (refine And.intro (by omega) ?_)
    | (refine And.intro (fun hb => absurd hb (by omega)) (fun hb => ?_))
    | (refine And.intro (fun hb => ?_) (fun hb => absurd hb (by omega)))
    | (refine And.intro (fun hb => ?_) (fun hb => ?_))
    | (intro hb)
    | (conv => whnf)))
  refine hK (am_imp hM (fun r2 V2 R2 T2 hr2 => ?_))
  obtain ⟨rfl, sh2, rfl, hII⟩ := hr2
  iterate 60 (all_goals (first
    | (refine And.intro (by omega) ?_)
    | (refine And.intro (fun hb => absurd hb (by omega)) (fun hb => ?_))
    | (refine And.intro (fun hb => ?_) (fun hb => absurd hb (by omega)))
    | (refine And.intro (fun hb => ?_) (fun hb => ?_))
    | (intro hb)
    | (conv => whnf)))
  exact hS (nx sh2 V2 T2 _ _ hII (by simp only [am_nth]; omega) (by simp only [am_nth]; omega))
set_option maxRecDepth 200000 in
set_option maxHeartbeats 4000000 in
theorem lw_t12 {G : am_G} {V0 V : am_V} {sh : Int → Option Nat} {T cc cs : Nat} {p i : Int} {Q : Option AV → am_V → am_T → Nat → Prop} (hI : II V sh T p (V0 0)) (h32 : ∀ j, am_in32 (V0 0 j)) (hL : V0 0 (-1) ≤ 3073) (hi : 1 ≤ i ∧ i ≤ V0 0 (-1) - 6) (hk : V0 0 i % 32 = 12) (hcc : cc ≤ 100000) (hcs : cs ≤ 1000000) (nx : ∀ (sh2 : Int → Option Nat) (V2 : am_V) (T2 cc2 cs2 : Nat), II V2 sh2 T2 p (V0 0) → cc2 ≤ cc + 10 → cs2 ≤ cs + 100 → am_Sem G 9 168 V0 3 Q 28 [some (vR 0), some (vR 3), some (vR 86), some (vI (i + 6))] [] V2 (am_RF sh2) T2 cc2 cs2) : am_Sem G 9 168 V0 3 Q 28 [some (vR 0), some (vR 3), some (vR 86), some (vI i)] [] V (am_RF sh) T cc cs := by
  have hV : V 0 = V0 0 := hI.1.1
  have eL : V 0 (-1) = V0 0 (-1) := by rw [hV]
  have hk' : V 0 i % 32 = 12 := by rw [hV]; exact hk
  have r : ∀ j, am_in32 (V 0 j) := fun j => by rw [hV]; exact h32 j
  refine am_run 400 mt_L_law ok_L_law (fun K S hK hS => ?_)
  iterate 6 (all_goals (first
    | (refine And.intro (by omega) ?_)
    | (refine And.intro (fun hb => absurd hb (by omega)) (fun hb => ?_))
    | (refine And.intro (fun hb => ?_) (fun hb => absurd hb (by omega)))
    | (refine And.intro (fun hb => ?_) (fun hb => ?_))
    | (intro hb)
    | (conv => whnf)))
  refine am_sw_k 12 679 ?_ ?_ ?_
  · omega
  · rfl
  conv => whnf
  iterate 60 (all_goals (first
    | (refine And.intro (by omega) ?_)
    | (refine And.intro (fun hb => absurd hb (by omega)) (fun hb => ?_))
    | (refine And.intro (fun hb => ?_) (fun hb => absurd hb (by omega)))
    | (refine And.intro (fun hb => ?_) (fun hb => ?_))
    | (intro hb)
    | (conv => whnf)))
  refine hK (am_imp (pr_ask (d := 0) hI (r _) (r _)) (fun r1 V1 R1 T1 hr => ?_))
  obtain ⟨z, sh1, rfl, hz, rfl, h01, hM⟩ := hr
  have e1 : V 0 = V1 0 := hV.trans h01.symm
  try rw [e1] at hM
  have eL1 : V1 0 (-1) = V0 0 (-1) := by rw [h01]
  iterate 60 (all_goals (first
    | (refine And.intro (by omega) ?_)
    | (refine And.intro (fun hb => absurd hb (by omega)) (fun hb => ?_))
    | (refine And.intro (fun hb => ?_) (fun hb => absurd hb (by omega)))
    | (refine And.intro (fun hb => ?_) (fun hb => ?_))
    | (intro hb)
    | (conv => whnf)))
  refine hK (am_imp hM (fun r2 V2 R2 T2 hr2 => ?_))
  obtain ⟨rfl, sh2, rfl, hII⟩ := hr2
  iterate 60 (all_goals (first
    | (refine And.intro (by omega) ?_)
    | (refine And.intro (fun hb => absurd hb (by omega)) (fun hb => ?_))
    | (refine And.intro (fun hb => ?_) (fun hb => absurd hb (by omega)))
    | (refine And.intro (fun hb => ?_) (fun hb => ?_))
    | (intro hb)
    | (conv => whnf)))
  exact hS (nx sh2 V2 T2 _ _ hII (by simp only [am_nth]; omega) (by simp only [am_nth]; omega))
set_option maxRecDepth 200000 in
set_option maxHeartbeats 4000000 in
theorem lw_t13 {G : am_G} {V0 V : am_V} {sh : Int → Option Nat} {T cc cs : Nat} {p i : Int} {Q : Option AV → am_V → am_T → Nat → Prop} (hI : II V sh T p (V0 0)) (h32 : ∀ j, am_in32 (V0 0 j)) (hL : V0 0 (-1) ≤ 3073) (hi : 1 ≤ i ∧ i ≤ V0 0 (-1) - 6) (hk : V0 0 i % 32 = 13) (hcc : cc ≤ 100000) (hcs : cs ≤ 1000000) (nx : ∀ (sh2 : Int → Option Nat) (V2 : am_V) (T2 cc2 cs2 : Nat), II V2 sh2 T2 p (V0 0) → cc2 ≤ cc + 10 → cs2 ≤ cs + 100 → am_Sem G 9 168 V0 3 Q 28 [some (vR 0), some (vR 3), some (vR 86), some (vI (i + 6))] [] V2 (am_RF sh2) T2 cc2 cs2) : am_Sem G 9 168 V0 3 Q 28 [some (vR 0), some (vR 3), some (vR 86), some (vI i)] [] V (am_RF sh) T cc cs := by
  have hV : V 0 = V0 0 := hI.1.1
  have eL : V 0 (-1) = V0 0 (-1) := by rw [hV]
  have hk' : V 0 i % 32 = 13 := by rw [hV]; exact hk
  have r : ∀ j, am_in32 (V 0 j) := fun j => by rw [hV]; exact h32 j
  refine am_run 400 mt_L_law ok_L_law (fun K S hK hS => ?_)
  iterate 6 (all_goals (first
    | (refine And.intro (by omega) ?_)
    | (refine And.intro (fun hb => absurd hb (by omega)) (fun hb => ?_))
    | (refine And.intro (fun hb => ?_) (fun hb => absurd hb (by omega)))
    | (refine And.intro (fun hb => ?_) (fun hb => ?_))
    | (intro hb)
    | (conv => whnf)))
  refine am_sw_k 13 712 ?_ ?_ ?_
  · omega
  · rfl
  conv => whnf
  iterate 60 (all_goals (first
    | (refine And.intro (by omega) ?_)
    | (refine And.intro (fun hb => absurd hb (by omega)) (fun hb => ?_))
    | (refine And.intro (fun hb => ?_) (fun hb => absurd hb (by omega)))
    | (refine And.intro (fun hb => ?_) (fun hb => ?_))
    | (intro hb)
    | (conv => whnf)))
  refine hK (am_imp (pr_trace (d := 0) hI (r _)) (fun r1 V1 R1 T1 hr => ?_))
  obtain ⟨z, sh1, rfl, hz, rfl, h01, hM⟩ := hr
  have e1 : V 0 = V1 0 := hV.trans h01.symm
  try rw [e1] at hM
  have eL1 : V1 0 (-1) = V0 0 (-1) := by rw [h01]
  iterate 60 (all_goals (first
    | (refine And.intro (by omega) ?_)
    | (refine And.intro (fun hb => absurd hb (by omega)) (fun hb => ?_))
    | (refine And.intro (fun hb => ?_) (fun hb => absurd hb (by omega)))
    | (refine And.intro (fun hb => ?_) (fun hb => ?_))
    | (intro hb)
    | (conv => whnf)))
  refine hK (am_imp hM (fun r2 V2 R2 T2 hr2 => ?_))
  obtain ⟨rfl, sh2, rfl, hII⟩ := hr2
  iterate 60 (all_goals (first
    | (refine And.intro (by omega) ?_)
    | (refine And.intro (fun hb => absurd hb (by omega)) (fun hb => ?_))
    | (refine And.intro (fun hb => ?_) (fun hb => absurd hb (by omega)))
    | (refine And.intro (fun hb => ?_) (fun hb => ?_))
    | (intro hb)
    | (conv => whnf)))
  exact hS (nx sh2 V2 T2 _ _ hII (by simp only [am_nth]; omega) (by simp only [am_nth]; omega))
set_option maxRecDepth 200000 in
set_option maxHeartbeats 4000000 in
theorem lw_t14 {G : am_G} {V0 V : am_V} {sh : Int → Option Nat} {T cc cs : Nat} {p i : Int} {Q : Option AV → am_V → am_T → Nat → Prop} (hI : II V sh T p (V0 0)) (h32 : ∀ j, am_in32 (V0 0 j)) (hL : V0 0 (-1) ≤ 3073) (hi : 1 ≤ i ∧ i ≤ V0 0 (-1) - 6) (hk : V0 0 i % 32 = 14) (hcc : cc ≤ 100000) (hcs : cs ≤ 1000000) (nx : ∀ (sh2 : Int → Option Nat) (V2 : am_V) (T2 cc2 cs2 : Nat), II V2 sh2 T2 p (V0 0) → cc2 ≤ cc + 10 → cs2 ≤ cs + 100 → am_Sem G 9 168 V0 3 Q 28 [some (vR 0), some (vR 3), some (vR 86), some (vI (i + 6))] [] V2 (am_RF sh2) T2 cc2 cs2) : am_Sem G 9 168 V0 3 Q 28 [some (vR 0), some (vR 3), some (vR 86), some (vI i)] [] V (am_RF sh) T cc cs := by
  have hV : V 0 = V0 0 := hI.1.1
  have eL : V 0 (-1) = V0 0 (-1) := by rw [hV]
  have hk' : V 0 i % 32 = 14 := by rw [hV]; exact hk
  have r : ∀ j, am_in32 (V 0 j) := fun j => by rw [hV]; exact h32 j
  refine am_run 400 mt_L_law ok_L_law (fun K S hK hS => ?_)
  iterate 6 (all_goals (first
    | (refine And.intro (by omega) ?_)
    | (refine And.intro (fun hb => absurd hb (by omega)) (fun hb => ?_))
    | (refine And.intro (fun hb => ?_) (fun hb => absurd hb (by omega)))
    | (refine And.intro (fun hb => ?_) (fun hb => ?_))
    | (intro hb)
    | (conv => whnf)))
  refine am_sw_k 14 735 ?_ ?_ ?_
  · omega
  · rfl
  conv => whnf
  iterate 60 (all_goals (first
    | (refine And.intro (by omega) ?_)
    | (refine And.intro (fun hb => absurd hb (by omega)) (fun hb => ?_))
    | (refine And.intro (fun hb => ?_) (fun hb => absurd hb (by omega)))
    | (refine And.intro (fun hb => ?_) (fun hb => ?_))
    | (intro hb)
    | (conv => whnf)))
  refine hK (am_imp (pr_block (d := 0) hI (r _) (r _)) (fun r1 V1 R1 T1 hr => ?_))
  obtain ⟨z, sh1, rfl, hz, rfl, h01, hM⟩ := hr
  have e1 : V 0 = V1 0 := hV.trans h01.symm
  try rw [e1] at hM
  have eL1 : V1 0 (-1) = V0 0 (-1) := by rw [h01]
  iterate 60 (all_goals (first
    | (refine And.intro (by omega) ?_)
    | (refine And.intro (fun hb => absurd hb (by omega)) (fun hb => ?_))
    | (refine And.intro (fun hb => ?_) (fun hb => absurd hb (by omega)))
    | (refine And.intro (fun hb => ?_) (fun hb => ?_))
    | (intro hb)
    | (conv => whnf)))
  refine hK (am_imp hM (fun r2 V2 R2 T2 hr2 => ?_))
  obtain ⟨rfl, sh2, rfl, hII⟩ := hr2
  iterate 60 (all_goals (first
    | (refine And.intro (by omega) ?_)
    | (refine And.intro (fun hb => absurd hb (by omega)) (fun hb => ?_))
    | (refine And.intro (fun hb => ?_) (fun hb => absurd hb (by omega)))
    | (refine And.intro (fun hb => ?_) (fun hb => ?_))
    | (intro hb)
    | (conv => whnf)))
  exact hS (nx sh2 V2 T2 _ _ hII (by simp only [am_nth]; omega) (by simp only [am_nth]; omega))
set_option maxRecDepth 200000 in
set_option maxHeartbeats 4000000 in
theorem lw_t15 {G : am_G} {V0 V : am_V} {sh : Int → Option Nat} {T cc cs : Nat} {p i : Int} {Q : Option AV → am_V → am_T → Nat → Prop} (hI : II V sh T p (V0 0)) (h32 : ∀ j, am_in32 (V0 0 j)) (hL : V0 0 (-1) ≤ 3073) (hi : 1 ≤ i ∧ i ≤ V0 0 (-1) - 6) (hk : V0 0 i % 32 = 15) (hcc : cc ≤ 100000) (hcs : cs ≤ 1000000) (nx : ∀ (sh2 : Int → Option Nat) (V2 : am_V) (T2 cc2 cs2 : Nat), II V2 sh2 T2 p (V0 0) → cc2 ≤ cc + 10 → cs2 ≤ cs + 100 → am_Sem G 9 168 V0 3 Q 28 [some (vR 0), some (vR 3), some (vR 86), some (vI (i + 6))] [] V2 (am_RF sh2) T2 cc2 cs2) : am_Sem G 9 168 V0 3 Q 28 [some (vR 0), some (vR 3), some (vR 86), some (vI i)] [] V (am_RF sh) T cc cs := by
  have hV : V 0 = V0 0 := hI.1.1
  have eL : V 0 (-1) = V0 0 (-1) := by rw [hV]
  have hk' : V 0 i % 32 = 15 := by rw [hV]; exact hk
  have r : ∀ j, am_in32 (V 0 j) := fun j => by rw [hV]; exact h32 j
  refine am_run 400 mt_L_law ok_L_law (fun K S hK hS => ?_)
  iterate 6 (all_goals (first
    | (refine And.intro (by omega) ?_)
    | (refine And.intro (fun hb => absurd hb (by omega)) (fun hb => ?_))
    | (refine And.intro (fun hb => ?_) (fun hb => absurd hb (by omega)))
    | (refine And.intro (fun hb => ?_) (fun hb => ?_))
    | (intro hb)
    | (conv => whnf)))
  refine am_sw_k 15 768 ?_ ?_ ?_
  · omega
  · rfl
  conv => whnf
  iterate 60 (all_goals (first
    | (refine And.intro (by omega) ?_)
    | (refine And.intro (fun hb => absurd hb (by omega)) (fun hb => ?_))
    | (refine And.intro (fun hb => ?_) (fun hb => absurd hb (by omega)))
    | (refine And.intro (fun hb => ?_) (fun hb => ?_))
    | (intro hb)
    | (conv => whnf)))
  refine And.intro (⟨by show _ ≤ 600000; simp only [am_nth]; omega, by show _ ≤ 7302250; simp only [am_nth]; omega⟩) ?_
  iterate 60 (all_goals (first
    | (refine And.intro (by omega) ?_)
    | (refine And.intro (fun hb => absurd hb (by omega)) (fun hb => ?_))
    | (refine And.intro (fun hb => ?_) (fun hb => absurd hb (by omega)))
    | (refine And.intro (fun hb => ?_) (fun hb => ?_))
    | (intro hb)
    | (conv => whnf)))
  refine hK (am_imp (pr_told (d := 0) hI (r _) (r _)) (fun r1 V1 R1 T1 hr => ?_))
  obtain ⟨z, sh1, rfl, hz, rfl, h01, hM⟩ := hr
  have e1 : V 0 = V1 0 := hV.trans h01.symm
  try rw [e1] at hM
  have eL1 : V1 0 (-1) = V0 0 (-1) := by rw [h01]
  iterate 60 (all_goals (first
    | (refine And.intro (by omega) ?_)
    | (refine And.intro (fun hb => absurd hb (by omega)) (fun hb => ?_))
    | (refine And.intro (fun hb => ?_) (fun hb => absurd hb (by omega)))
    | (refine And.intro (fun hb => ?_) (fun hb => ?_))
    | (intro hb)
    | (conv => whnf)))
  refine hK (am_imp hM (fun r2 V2 R2 T2 hr2 => ?_))
  obtain ⟨rfl, sh2, rfl, hII⟩ := hr2
  iterate 60 (all_goals (first
    | (refine And.intro (by omega) ?_)
    | (refine And.intro (fun hb => absurd hb (by omega)) (fun hb => ?_))
    | (refine And.intro (fun hb => ?_) (fun hb => absurd hb (by omega)))
    | (refine And.intro (fun hb => ?_) (fun hb => ?_))
    | (intro hb)
    | (conv => whnf)))
  exact hS (nx sh2 V2 T2 _ _ hII (by simp only [am_nth]; omega) (by simp only [am_nth]; omega))
set_option maxRecDepth 200000 in
set_option maxHeartbeats 4000000 in
theorem lw_t16 {G : am_G} {V0 V : am_V} {sh : Int → Option Nat} {T cc cs : Nat} {p i : Int} {Q : Option AV → am_V → am_T → Nat → Prop} (hI : II V sh T p (V0 0)) (h32 : ∀ j, am_in32 (V0 0 j)) (hL : V0 0 (-1) ≤ 3073) (hi : 1 ≤ i ∧ i ≤ V0 0 (-1) - 6) (hk : V0 0 i % 32 = 16) (hcc : cc ≤ 100000) (hcs : cs ≤ 1000000) (nx : ∀ (sh2 : Int → Option Nat) (V2 : am_V) (T2 cc2 cs2 : Nat), II V2 sh2 T2 p (V0 0) → cc2 ≤ cc + 10 → cs2 ≤ cs + 100 → am_Sem G 9 168 V0 3 Q 28 [some (vR 0), some (vR 3), some (vR 86), some (vI (i + 6))] [] V2 (am_RF sh2) T2 cc2 cs2) : am_Sem G 9 168 V0 3 Q 28 [some (vR 0), some (vR 3), some (vR 86), some (vI i)] [] V (am_RF sh) T cc cs := by
  have hV : V 0 = V0 0 := hI.1.1
  have eL : V 0 (-1) = V0 0 (-1) := by rw [hV]
  have hk' : V 0 i % 32 = 16 := by rw [hV]; exact hk
  have r : ∀ j, am_in32 (V 0 j) := fun j => by rw [hV]; exact h32 j
  refine am_run 400 mt_L_law ok_L_law (fun K S hK hS => ?_)
  iterate 6 (all_goals (first
    | (refine And.intro (by omega) ?_)
    | (refine And.intro (fun hb => absurd hb (by omega)) (fun hb => ?_))
    | (refine And.intro (fun hb => ?_) (fun hb => absurd hb (by omega)))
    | (refine And.intro (fun hb => ?_) (fun hb => ?_))
    | (intro hb)
    | (conv => whnf)))
  refine am_sw_k 16 801 ?_ ?_ ?_
  · omega
  · rfl
  conv => whnf
  iterate 60 (all_goals (first
    | (refine And.intro (by omega) ?_)
    | (refine And.intro (fun hb => absurd hb (by omega)) (fun hb => ?_))
    | (refine And.intro (fun hb => ?_) (fun hb => absurd hb (by omega)))
    | (refine And.intro (fun hb => ?_) (fun hb => ?_))
    | (intro hb)
    | (conv => whnf)))
  refine hK (am_imp (pr_finer (d := 0) hI (r _) (r _)) (fun r1 V1 R1 T1 hr => ?_))
  obtain ⟨z, sh1, rfl, hz, rfl, h01, hM⟩ := hr
  have e1 : V 0 = V1 0 := hV.trans h01.symm
  try rw [e1] at hM
  have eL1 : V1 0 (-1) = V0 0 (-1) := by rw [h01]
  iterate 60 (all_goals (first
    | (refine And.intro (by omega) ?_)
    | (refine And.intro (fun hb => absurd hb (by omega)) (fun hb => ?_))
    | (refine And.intro (fun hb => ?_) (fun hb => absurd hb (by omega)))
    | (refine And.intro (fun hb => ?_) (fun hb => ?_))
    | (intro hb)
    | (conv => whnf)))
  refine hK (am_imp hM (fun r2 V2 R2 T2 hr2 => ?_))
  obtain ⟨rfl, sh2, rfl, hII⟩ := hr2
  iterate 60 (all_goals (first
    | (refine And.intro (by omega) ?_)
    | (refine And.intro (fun hb => absurd hb (by omega)) (fun hb => ?_))
    | (refine And.intro (fun hb => ?_) (fun hb => absurd hb (by omega)))
    | (refine And.intro (fun hb => ?_) (fun hb => ?_))
    | (intro hb)
    | (conv => whnf)))
  exact hS (nx sh2 V2 T2 _ _ hII (by simp only [am_nth]; omega) (by simp only [am_nth]; omega))
set_option maxRecDepth 200000 in
set_option maxHeartbeats 4000000 in
theorem lw_t17 {G : am_G} {V0 V : am_V} {sh : Int → Option Nat} {T cc cs : Nat} {p i : Int} {Q : Option AV → am_V → am_T → Nat → Prop} (hI : II V sh T p (V0 0)) (h32 : ∀ j, am_in32 (V0 0 j)) (hL : V0 0 (-1) ≤ 3073) (hi : 1 ≤ i ∧ i ≤ V0 0 (-1) - 6) (hk : V0 0 i % 32 = 17) (hcc : cc ≤ 100000) (hcs : cs ≤ 1000000) (nx : ∀ (sh2 : Int → Option Nat) (V2 : am_V) (T2 cc2 cs2 : Nat), II V2 sh2 T2 p (V0 0) → cc2 ≤ cc + 10 → cs2 ≤ cs + 100 → am_Sem G 9 168 V0 3 Q 28 [some (vR 0), some (vR 3), some (vR 86), some (vI (i + 6))] [] V2 (am_RF sh2) T2 cc2 cs2) : am_Sem G 9 168 V0 3 Q 28 [some (vR 0), some (vR 3), some (vR 86), some (vI i)] [] V (am_RF sh) T cc cs := by
  have hV : V 0 = V0 0 := hI.1.1
  have eL : V 0 (-1) = V0 0 (-1) := by rw [hV]
  have hk' : V 0 i % 32 = 17 := by rw [hV]; exact hk
  have r : ∀ j, am_in32 (V 0 j) := fun j => by rw [hV]; exact h32 j
  refine am_run 400 mt_L_law ok_L_law (fun K S hK hS => ?_)
  iterate 6 (all_goals (first
    | (refine And.intro (by omega) ?_)
    | (refine And.intro (fun hb => absurd hb (by omega)) (fun hb => ?_))
    | (refine And.intro (fun hb => ?_) (fun hb => absurd hb (by omega)))
    | (refine And.intro (fun hb => ?_) (fun hb => ?_))
    | (intro hb)
    | (conv => whnf)))
  refine am_sw_k 17 834 ?_ ?_ ?_
  · omega
  · rfl
  conv => whnf
  iterate 60 (all_goals (first
    | (refine And.intro (by omega) ?_)
    | (refine And.intro (fun hb => absurd hb (by omega)) (fun hb => ?_))
    | (refine And.intro (fun hb => ?_) (fun hb => absurd hb (by omega)))
    | (refine And.intro (fun hb => ?_) (fun hb => ?_))
    | (intro hb)
    | (conv => whnf)))
  refine hK (am_imp (pr_handles (d := 0) hI (r _)) (fun r1 V1 R1 T1 hr => ?_))
  obtain ⟨z, sh1, rfl, hz, rfl, h01, hM⟩ := hr
  have e1 : V 0 = V1 0 := hV.trans h01.symm
  try rw [e1] at hM
  have eL1 : V1 0 (-1) = V0 0 (-1) := by rw [h01]
  iterate 60 (all_goals (first
    | (refine And.intro (by omega) ?_)
    | (refine And.intro (fun hb => absurd hb (by omega)) (fun hb => ?_))
    | (refine And.intro (fun hb => ?_) (fun hb => absurd hb (by omega)))
    | (refine And.intro (fun hb => ?_) (fun hb => ?_))
    | (intro hb)
    | (conv => whnf)))
  refine hK (am_imp hM (fun r2 V2 R2 T2 hr2 => ?_))
  obtain ⟨rfl, sh2, rfl, hII⟩ := hr2
  iterate 60 (all_goals (first
    | (refine And.intro (by omega) ?_)
    | (refine And.intro (fun hb => absurd hb (by omega)) (fun hb => ?_))
    | (refine And.intro (fun hb => ?_) (fun hb => absurd hb (by omega)))
    | (refine And.intro (fun hb => ?_) (fun hb => ?_))
    | (intro hb)
    | (conv => whnf)))
  exact hS (nx sh2 V2 T2 _ _ hII (by simp only [am_nth]; omega) (by simp only [am_nth]; omega))
set_option maxRecDepth 200000 in
set_option maxHeartbeats 4000000 in
theorem lw_t18 {G : am_G} {V0 V : am_V} {sh : Int → Option Nat} {T cc cs : Nat} {p i : Int} {Q : Option AV → am_V → am_T → Nat → Prop} (hI : II V sh T p (V0 0)) (h32 : ∀ j, am_in32 (V0 0 j)) (hL : V0 0 (-1) ≤ 3073) (hi : 1 ≤ i ∧ i ≤ V0 0 (-1) - 6) (hk : V0 0 i % 32 = 18) (hcc : cc ≤ 100000) (hcs : cs ≤ 1000000) (nx : ∀ (sh2 : Int → Option Nat) (V2 : am_V) (T2 cc2 cs2 : Nat), II V2 sh2 T2 p (V0 0) → cc2 ≤ cc + 10 → cs2 ≤ cs + 100 → am_Sem G 9 168 V0 3 Q 28 [some (vR 0), some (vR 3), some (vR 86), some (vI (i + 6))] [] V2 (am_RF sh2) T2 cc2 cs2) : am_Sem G 9 168 V0 3 Q 28 [some (vR 0), some (vR 3), some (vR 86), some (vI i)] [] V (am_RF sh) T cc cs := by
  have hV : V 0 = V0 0 := hI.1.1
  have eL : V 0 (-1) = V0 0 (-1) := by rw [hV]
  have hk' : V 0 i % 32 = 18 := by rw [hV]; exact hk
  have r : ∀ j, am_in32 (V 0 j) := fun j => by rw [hV]; exact h32 j
  refine am_run 400 mt_L_law ok_L_law (fun K S hK hS => ?_)
  iterate 6 (all_goals (first
    | (refine And.intro (by omega) ?_)
    | (refine And.intro (fun hb => absurd hb (by omega)) (fun hb => ?_))
    | (refine And.intro (fun hb => ?_) (fun hb => absurd hb (by omega)))
    | (refine And.intro (fun hb => ?_) (fun hb => ?_))
    | (intro hb)
    | (conv => whnf)))
  refine am_sw_k 18 857 ?_ ?_ ?_
  · omega
  · rfl
  conv => whnf
  iterate 60 (all_goals (first
    | (refine And.intro (by omega) ?_)
    | (refine And.intro (fun hb => absurd hb (by omega)) (fun hb => ?_))
    | (refine And.intro (fun hb => ?_) (fun hb => absurd hb (by omega)))
    | (refine And.intro (fun hb => ?_) (fun hb => ?_))
    | (intro hb)
    | (conv => whnf)))
  refine hK (am_imp (pr_series (d := 0) hI (r _) (r _) (r _) (r _) (r _)) (fun r1 V1 R1 T1 hr => ?_))
  obtain ⟨z, sh1, rfl, hz, rfl, h01, hM⟩ := hr
  have e1 : V 0 = V1 0 := hV.trans h01.symm
  try rw [e1] at hM
  have eL1 : V1 0 (-1) = V0 0 (-1) := by rw [h01]
  iterate 60 (all_goals (first
    | (refine And.intro (by omega) ?_)
    | (refine And.intro (fun hb => absurd hb (by omega)) (fun hb => ?_))
    | (refine And.intro (fun hb => ?_) (fun hb => absurd hb (by omega)))
    | (refine And.intro (fun hb => ?_) (fun hb => ?_))
    | (intro hb)
    | (conv => whnf)))
  refine hK (am_imp hM (fun r2 V2 R2 T2 hr2 => ?_))
  obtain ⟨rfl, sh2, rfl, hII⟩ := hr2
  iterate 60 (all_goals (first
    | (refine And.intro (by omega) ?_)
    | (refine And.intro (fun hb => absurd hb (by omega)) (fun hb => ?_))
    | (refine And.intro (fun hb => ?_) (fun hb => absurd hb (by omega)))
    | (refine And.intro (fun hb => ?_) (fun hb => ?_))
    | (intro hb)
    | (conv => whnf)))
  exact hS (nx sh2 V2 T2 _ _ hII (by simp only [am_nth]; omega) (by simp only [am_nth]; omega))
set_option maxRecDepth 200000 in
set_option maxHeartbeats 4000000 in
theorem lw_t19 {G : am_G} {V0 V : am_V} {sh : Int → Option Nat} {T cc cs : Nat} {p i : Int} {Q : Option AV → am_V → am_T → Nat → Prop} (hI : II V sh T p (V0 0)) (h32 : ∀ j, am_in32 (V0 0 j)) (hL : V0 0 (-1) ≤ 3073) (hi : 1 ≤ i ∧ i ≤ V0 0 (-1) - 6) (hk : V0 0 i % 32 = 19) (hcc : cc ≤ 100000) (hcs : cs ≤ 1000000) (nx : ∀ (sh2 : Int → Option Nat) (V2 : am_V) (T2 cc2 cs2 : Nat), II V2 sh2 T2 p (V0 0) → cc2 ≤ cc + 10 → cs2 ≤ cs + 100 → am_Sem G 9 168 V0 3 Q 28 [some (vR 0), some (vR 3), some (vR 86), some (vI (i + 6))] [] V2 (am_RF sh2) T2 cc2 cs2) : am_Sem G 9 168 V0 3 Q 28 [some (vR 0), some (vR 3), some (vR 86), some (vI i)] [] V (am_RF sh) T cc cs := by
  have hV : V 0 = V0 0 := hI.1.1
  have eL : V 0 (-1) = V0 0 (-1) := by rw [hV]
  have hk' : V 0 i % 32 = 19 := by rw [hV]; exact hk
  have r : ∀ j, am_in32 (V 0 j) := fun j => by rw [hV]; exact h32 j
  refine am_run 400 mt_L_law ok_L_law (fun K S hK hS => ?_)
  iterate 6 (all_goals (first
    | (refine And.intro (by omega) ?_)
    | (refine And.intro (fun hb => absurd hb (by omega)) (fun hb => ?_))
    | (refine And.intro (fun hb => ?_) (fun hb => absurd hb (by omega)))
    | (refine And.intro (fun hb => ?_) (fun hb => ?_))
    | (intro hb)
    | (conv => whnf)))
  refine am_sw_k 19 920 ?_ ?_ ?_
  · omega
  · rfl
  conv => whnf
  iterate 60 (all_goals (first
    | (refine And.intro (by omega) ?_)
    | (refine And.intro (fun hb => absurd hb (by omega)) (fun hb => ?_))
    | (refine And.intro (fun hb => ?_) (fun hb => absurd hb (by omega)))
    | (refine And.intro (fun hb => ?_) (fun hb => ?_))
    | (intro hb)
    | (conv => whnf)))
  refine hK (am_imp (pr_number (d := 0) hI (r _) (r _) (r _)) (fun r1 V1 R1 T1 hr => ?_))
  obtain ⟨z, sh1, rfl, hz, rfl, h01, hM⟩ := hr
  have e1 : V 0 = V1 0 := hV.trans h01.symm
  try rw [e1] at hM
  have eL1 : V1 0 (-1) = V0 0 (-1) := by rw [h01]
  iterate 60 (all_goals (first
    | (refine And.intro (by omega) ?_)
    | (refine And.intro (fun hb => absurd hb (by omega)) (fun hb => ?_))
    | (refine And.intro (fun hb => ?_) (fun hb => absurd hb (by omega)))
    | (refine And.intro (fun hb => ?_) (fun hb => ?_))
    | (intro hb)
    | (conv => whnf)))
  refine hK (am_imp hM (fun r2 V2 R2 T2 hr2 => ?_))
  obtain ⟨rfl, sh2, rfl, hII⟩ := hr2
  iterate 60 (all_goals (first
    | (refine And.intro (by omega) ?_)
    | (refine And.intro (fun hb => absurd hb (by omega)) (fun hb => ?_))
    | (refine And.intro (fun hb => ?_) (fun hb => absurd hb (by omega)))
    | (refine And.intro (fun hb => ?_) (fun hb => ?_))
    | (intro hb)
    | (conv => whnf)))
  exact hS (nx sh2 V2 T2 _ _ hII (by simp only [am_nth]; omega) (by simp only [am_nth]; omega))
