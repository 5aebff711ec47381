/-! the law's turns -/
set_option maxRecDepth 200000 in
set_option maxHeartbeats 4000000 in
theorem lw_t0 {G : am_G} {V0 V : am_V} {sh : Int → Option Nat} {T cc cs : Nat} {p i : Int} {Q : Option AV → am_V → am_T → Nat → Prop} (hI : II V sh T p (V0 0)) (h32 : ∀ j, am_in32 (V0 0 j)) (hL : V0 0 (-1) ≤ 3073) (hi : 1 ≤ i ∧ i ≤ V0 0 (-1) - 6) (hk : V0 0 i % 32 = 0) (hcc : cc ≤ 100000) (hcs : cs ≤ 1000000) (nx : ∀ (sh2 : Int → Option Nat) (V2 : am_V) (T2 cc2 cs2 : Nat), II V2 sh2 T2 p (V0 0) → cc2 ≤ cc + 10 → cs2 ≤ cs + 100 → am_Sem G 9 168 V0 3 Q 28 [some (vR 0), some (vR 3), some (vR 86), some (vI (i + 6))] [] V2 (am_RF sh2) T2 cc2 cs2) : am_Sem G 9 168 V0 3 Q 28 [some (vR 0), some (vR 3), some (vR 86), some (vI i)] [] V (am_RF sh) T cc cs := by
  have hV : V 0 = V0 0 := hI.1.1
  have eL : V 0 (-1) = V0 0 (-1) := by rw [hV]
  have hk' : V 0 i % 32 = 0 := by rw [hV]; exact hk
  have r : ∀ j, am_in32 (V 0 j) := fun j => by rw [hV]; exact h32 j
  refine am_run 400 mt_L_law ok_L_law (fun K S hK hS => ?_)
  iterate 6 (all_goals (first
    | (refine And.intro (by omega) ?_)
    | (refine And.intro (fun hb => absurd hb (by omega)) (fun hb => ?_))
    | (refine And.intro (fun hb => ?_) (fun hb => absurd hb (by omega)))
    | (refine And.intro (fun hb => ?_) (fun hb => ?_))
    | (intro hb)
    | (conv => whnf)))
  refine am_sw_k 0 172 ?_ ?_ ?_
  · omega
  · rfl
  conv => whnf
  iterate 60 (all_goals (first
    | (refine And.intro (by omega) ?_)
    | (refine And.intro (fun hb => absurd hb (by omega)) (fun hb => ?_))
    | (refine And.intro (fun hb => ?_) (fun hb => absurd hb (by omega)))
    | (refine And.intro (fun hb => ?_) (fun hb => ?_))
    | (intro hb)
    | (conv => whnf)))
  refine hK (am_imp (pr_sheet (d := 0) hI (r _) (r _) (r _)) (fun r1 V1 R1 T1 hr => ?_))
  obtain ⟨z, sh1, rfl, hz, rfl, h01, hM⟩ := hr
  have e1 : V 0 = V1 0 := hV.trans h01.symm
  try rw [e1] at hM
  have eL1 : V1 0 (-1) = V0 0 (-1) := by rw [h01]
  iterate 60 (all_goals (first
    | (refine And.intro (by omega) ?_)
    | (refine And.intro (fun hb => absurd hb (by omega)) (fun hb => ?_))
    | (refine And.intro (fun hb => ?_) (fun hb => absurd hb (by omega)))
    | (refine And.intro (fun hb => ?_) (fun hb => ?_))
    | (intro hb)
    | (conv => whnf)))
  refine hK (am_imp hM (fun r2 V2 R2 T2 hr2 => ?_))
  obtain ⟨rfl, sh2, rfl, hII⟩ := hr2
  iterate 60 (all_goals (first
    | (refine And.intro (by omega) ?_)
    | (refine And.intro (fun hb => absurd hb (by omega)) (fun hb => ?_))
    | (refine And.intro (fun hb => ?_) (fun hb => absurd hb (by omega)))
    | (refine And.intro (fun hb => ?_) (fun hb => ?_))
    | (intro hb)
    | (conv => whnf)))
  exact hS (nx sh2 V2 T2 _ _ hII (by simp only [am_nth]; omega) (by simp only [am_nth]; omega))
set_option maxRecDepth 200000 in
set_option maxHeartbeats 4000000 in
theorem lw_t1 {G : am_G} {V0 V : am_V} {sh : Int → Option Nat} {T cc cs : Nat} {p i : Int} {Q : Option AV → am_V → am_T → Nat → Prop} (hI : II V sh T p (V0 0)) (h32 : ∀ j, am_in32 (V0 0 j)) (hL : V0 0 (-1) ≤ 3073) (hi : 1 ≤ i ∧ i ≤ V0 0 (-1) - 6) (hk : V0 0 i % 32 = 1) (hcc : cc ≤ 100000) (hcs : cs ≤ 1000000) (nx : ∀ (sh2 : Int → Option Nat) (V2 : am_V) (T2 cc2 cs2 : Nat), II V2 sh2 T2 p (V0 0) → cc2 ≤ cc + 10 → cs2 ≤ cs + 100 → am_Sem G 9 168 V0 3 Q 28 [some (vR 0), some (vR 3), some (vR 86), some (vI (i + 6))] [] V2 (am_RF sh2) T2 cc2 cs2) : am_Sem G 9 168 V0 3 Q 28 [some (vR 0), some (vR 3), some (vR 86), some (vI i)] [] V (am_RF sh) T cc cs := by
  have hV : V 0 = V0 0 := hI.1.1
  have eL : V 0 (-1) = V0 0 (-1) := by rw [hV]
  have hk' : V 0 i % 32 = 1 := by rw [hV]; exact hk
  have r : ∀ j, am_in32 (V 0 j) := fun j => by rw [hV]; exact h32 j
  have r3 := r (i + 3)
  have r4 := r (i + 4)
  refine am_run 400 mt_L_law ok_L_law (fun K S hK hS => ?_)
  iterate 6 (all_goals (first
    | (refine And.intro (by omega) ?_)
    | (refine And.intro (fun hb => absurd hb (by omega)) (fun hb => ?_))
    | (refine And.intro (fun hb => ?_) (fun hb => absurd hb (by omega)))
    | (refine And.intro (fun hb => ?_) (fun hb => ?_))
    | (intro hb)
    | (conv => whnf)))
  refine am_sw_k 1 215 ?_ ?_ ?_
  · omega
  · rfl
  conv => whnf
  iterate 60 (all_goals (first
    | (refine And.intro (by omega) ?_)
    | (refine And.intro (fun hb => absurd hb (by omega)) (fun hb => ?_))
    | (refine And.intro (fun hb => ?_) (fun hb => absurd hb (by omega)))
    | (refine And.intro (fun hb => ?_) (fun hb => ?_))
    | (intro hb)
    | (conv => whnf)))
  have r5 : 0 ≤ V 0 (i + 4) % 4294967296 ∧ V 0 (i + 4) % 4294967296 < 4294967296 := by omega
  refine hK (am_imp (pr_set (d := 0) (v := V 0 (i + 3) * 4294967296 + V 0 (i + 4) % 4294967296) hI (r _) (r _) (by omega)) (fun r1 V1 R1 T1 hr => ?_))
  obtain ⟨z, sh1, rfl, hz, rfl, h01, hM⟩ := hr
  have r3b : am_in32 (V1 0 (i + 3)) := by rw [h01]; exact h32 _
  have r4b : am_in32 (V1 0 (i + 4)) := by rw [h01]; exact h32 _
  have e1 : V 0 = V1 0 := hV.trans h01.symm
  try rw [e1] at hM
  have eL1 : V1 0 (-1) = V0 0 (-1) := by rw [h01]
  iterate 60 (all_goals (first
    | (refine And.intro (by omega) ?_)
    | (refine And.intro (fun hb => absurd hb (by omega)) (fun hb => ?_))
    | (refine And.intro (fun hb => ?_) (fun hb => absurd hb (by omega)))
    | (refine And.intro (fun hb => ?_) (fun hb => ?_))
    | (intro hb)
    | (conv => whnf)))
  refine hK (am_imp hM (fun r2 V2 R2 T2 hr2 => ?_))
  obtain ⟨rfl, sh2, rfl, hII⟩ := hr2
  iterate 60 (all_goals (first
    | (refine And.intro (by omega) ?_)
    | (refine And.intro (fun hb => absurd hb (by omega)) (fun hb => ?_))
    | (refine And.intro (fun hb => ?_) (fun hb => absurd hb (by omega)))
    | (refine And.intro (fun hb => ?_) (fun hb => ?_))
    | (intro hb)
    | (conv => whnf)))
  exact hS (nx sh2 V2 T2 _ _ hII (by simp only [am_nth]; omega) (by simp only [am_nth]; omega))
set_option maxRecDepth 200000 in
set_option maxHeartbeats 4000000 in
theorem lw_t2 {G : am_G} {V0 V : am_V} {sh : Int → Option Nat} {T cc cs : Nat} {p i : Int} {Q : Option AV → am_V → am_T → Nat → Prop} (hI : II V sh T p (V0 0)) (h32 : ∀ j, am_in32 (V0 0 j)) (hL : V0 0 (-1) ≤ 3073) (hi : 1 ≤ i ∧ i ≤ V0 0 (-1) - 6) (hk : V0 0 i % 32 = 2) (hcc : cc ≤ 100000) (hcs : cs ≤ 1000000) (nx : ∀ (sh2 : Int → Option Nat) (V2 : am_V) (T2 cc2 cs2 : Nat), II V2 sh2 T2 p (V0 0) → cc2 ≤ cc + 10 → cs2 ≤ cs + 100 → am_Sem G 9 168 V0 3 Q 28 [some (vR 0), some (vR 3), some (vR 86), some (vI (i + 6))] [] V2 (am_RF sh2) T2 cc2 cs2) : am_Sem G 9 168 V0 3 Q 28 [some (vR 0), some (vR 3), some (vR 86), some (vI i)] [] V (am_RF sh) T cc cs := by
  have hV : V 0 = V0 0 := hI.1.1
  have eL : V 0 (-1) = V0 0 (-1) := by rw [hV]
  have hk' : V 0 i % 32 = 2 := by rw [hV]; exact hk
  have r : ∀ j, am_in32 (V 0 j) := fun j => by rw [hV]; exact h32 j
  refine am_run 400 mt_L_law ok_L_law (fun K S hK hS => ?_)
  iterate 6 (all_goals (first
    | (refine And.intro (by omega) ?_)
    | (refine And.intro (fun hb => absurd hb (by omega)) (fun hb => ?_))
    | (refine And.intro (fun hb => ?_) (fun hb => absurd hb (by omega)))
    | (refine And.intro (fun hb => ?_) (fun hb => ?_))
    | (intro hb)
    | (conv => whnf)))
  refine am_sw_k 2 289 ?_ ?_ ?_
  · omega
  · rfl
  conv => whnf
  iterate 60 (all_goals (first
    | (refine And.intro (by omega) ?_)
    | (refine And.intro (fun hb => absurd hb (by omega)) (fun hb => ?_))
    | (refine And.intro (fun hb => ?_) (fun hb => absurd hb (by omega)))
    | (refine And.intro (fun hb => ?_) (fun hb => ?_))
    | (intro hb)
    | (conv => whnf)))
  refine hK (am_imp (pr_copy (d := 0) hI (r _) (r _) (r _) (r _) (r _)) (fun r1 V1 R1 T1 hr => ?_))
  obtain ⟨z, sh1, rfl, hz, rfl, h01, hM⟩ := hr
  have e1 : V 0 = V1 0 := hV.trans h01.symm
  try rw [e1] at hM
  have eL1 : V1 0 (-1) = V0 0 (-1) := by rw [h01]
  iterate 60 (all_goals (first
    | (refine And.intro (by omega) ?_)
    | (refine And.intro (fun hb => absurd hb (by omega)) (fun hb => ?_))
    | (refine And.intro (fun hb => ?_) (fun hb => absurd hb (by omega)))
    | (refine And.intro (fun hb => ?_) (fun hb => ?_))
    | (intro hb)
    | (conv => whnf)))
  refine hK (am_imp hM (fun r2 V2 R2 T2 hr2 => ?_))
  obtain ⟨rfl, sh2, rfl, hII⟩ := hr2
  iterate 60 (all_goals (first
    | (refine And.intro (by omega) ?_)
    | (refine And.intro (fun hb => absurd hb (by omega)) (fun hb => ?_))
    | (refine And.intro (fun hb => ?_) (fun hb => absurd hb (by omega)))
    | (refine And.intro (fun hb => ?_) (fun hb => ?_))
    | (intro hb)
    | (conv => whnf)))
  exact hS (nx sh2 V2 T2 _ _ hII (by simp only [am_nth]; omega) (by simp only [am_nth]; omega))
set_option maxRecDepth 200000 in
set_option maxHeartbeats 4000000 in
theorem lw_t3 {G : am_G} {V0 V : am_V} {sh : Int → Option Nat} {T cc cs : Nat} {p i : Int} {Q : Option AV → am_V → am_T → Nat → Prop} (hI : II V sh T p (V0 0)) (h32 : ∀ j, am_in32 (V0 0 j)) (hL : V0 0 (-1) ≤ 3073) (hi : 1 ≤ i ∧ i ≤ V0 0 (-1) - 6) (hk : V0 0 i % 32 = 3) (hcc : cc ≤ 100000) (hcs : cs ≤ 1000000) (nx : ∀ (sh2 : Int → Option Nat) (V2 : am_V) (T2 cc2 cs2 : Nat), II V2 sh2 T2 p (V0 0) → cc2 ≤ cc + 10 → cs2 ≤ cs + 100 → am_Sem G 9 168 V0 3 Q 28 [some (vR 0), some (vR 3), some (vR 86), some (vI (i + 6))] [] V2 (am_RF sh2) T2 cc2 cs2) : am_Sem G 9 168 V0 3 Q 28 [some (vR 0), some (vR 3), some (vR 86), some (vI i)] [] V (am_RF sh) T cc cs := by
  have hV : V 0 = V0 0 := hI.1.1
  have eL : V 0 (-1) = V0 0 (-1) := by rw [hV]
  have hk' : V 0 i % 32 = 3 := by rw [hV]; exact hk
  have r : ∀ j, am_in32 (V 0 j) := fun j => by rw [hV]; exact h32 j
  refine am_run 400 mt_L_law ok_L_law (fun K S hK hS => ?_)
  iterate 6 (all_goals (first
    | (refine And.intro (by omega) ?_)
    | (refine And.intro (fun hb => absurd hb (by omega)) (fun hb => ?_))
    | (refine And.intro (fun hb => ?_) (fun hb => absurd hb (by omega)))
    | (refine And.intro (fun hb => ?_) (fun hb => ?_))
    | (intro hb)
    | (conv => whnf)))
  refine am_sw_k 3 352 ?_ ?_ ?_
  · omega
  · rfl
  conv => whnf
  iterate 60 (all_goals (first
    | (refine And.intro (by omega) ?_)
    | (refine And.intro (fun hb => absurd hb (by omega)) (fun hb => ?_))
    | (refine And.intro (fun hb => ?_) (fun hb => absurd hb (by omega)))
    | (refine And.intro (fun hb => ?_) (fun hb => ?_))
    | (intro hb)
    | (conv => whnf)))
  refine hK (am_imp (pr_drop (d := 0) hI (r _)) (fun r1 V1 R1 T1 hr => ?_))
  obtain ⟨z, sh1, rfl, hz, rfl, h01, hM⟩ := hr
  have e1 : V 0 = V1 0 := hV.trans h01.symm
  try rw [e1] at hM
  have eL1 : V1 0 (-1) = V0 0 (-1) := by rw [h01]
  iterate 60 (all_goals (first
    | (refine And.intro (by omega) ?_)
    | (refine And.intro (fun hb => absurd hb (by omega)) (fun hb => ?_))
    | (refine And.intro (fun hb => ?_) (fun hb => absurd hb (by omega)))
    | (refine And.intro (fun hb => ?_) (fun hb => ?_))
    | (intro hb)
    | (conv => whnf)))
  refine hK (am_imp hM (fun r2 V2 R2 T2 hr2 => ?_))
  obtain ⟨rfl, sh2, rfl, hII⟩ := hr2
  iterate 60 (all_goals (first
    | (refine And.intro (by omega) ?_)
    | (refine And.intro (fun hb => absurd hb (by omega)) (fun hb => ?_))
    | (refine And.intro (fun hb => ?_) (fun hb => absurd hb (by omega)))
    | (refine And.intro (fun hb => ?_) (fun hb => ?_))
    | (intro hb)
    | (conv => whnf)))
  exact hS (nx sh2 V2 T2 _ _ hII (by simp only [am_nth]; omega) (by simp only [am_nth]; omega))
set_option maxRecDepth 200000 in
set_option maxHeartbeats 4000000 in
theorem lw_t4 {G : am_G} {V0 V : am_V} {sh : Int → Option Nat} {T cc cs : Nat} {p i : Int} {Q : Option AV → am_V → am_T → Nat → Prop} (hI : II V sh T p (V0 0)) (h32 : ∀ j, am_in32 (V0 0 j)) (hL : V0 0 (-1) ≤ 3073) (hi : 1 ≤ i ∧ i ≤ V0 0 (-1) - 6) (hk : V0 0 i % 32 = 4) (hcc : cc ≤ 100000) (hcs : cs ≤ 1000000) (nx : ∀ (sh2 : Int → Option Nat) (V2 : am_V) (T2 cc2 cs2 : Nat), II V2 sh2 T2 p (V0 0) → cc2 ≤ cc + 10 → cs2 ≤ cs + 100 → am_Sem G 9 168 V0 3 Q 28 [some (vR 0), some (vR 3), some (vR 86), some (vI (i + 6))] [] V2 (am_RF sh2) T2 cc2 cs2) : am_Sem G 9 168 V0 3 Q 28 [some (vR 0), some (vR 3), some (vR 86), some (vI i)] [] V (am_RF sh) T cc cs := by
  have hV : V 0 = V0 0 := hI.1.1
  have eL : V 0 (-1) = V0 0 (-1) := by rw [hV]
  have hk' : V 0 i % 32 = 4 := by rw [hV]; exact hk
  have r : ∀ j, am_in32 (V 0 j) := fun j => by rw [hV]; exact h32 j
  refine am_run 400 mt_L_law ok_L_law (fun K S hK hS => ?_)
  iterate 6 (all_goals (first
    | (refine And.intro (by omega) ?_)
    | (refine And.intro (fun hb => absurd hb (by omega)) (fun hb => ?_))
    | (refine And.intro (fun hb => ?_) (fun hb => absurd hb (by omega)))
    | (refine And.intro (fun hb => ?_) (fun hb => ?_))
    | (intro hb)
    | (conv => whnf)))
  refine am_sw_k 4 375 ?_ ?_ ?_
  · omega
  · rfl
  conv => whnf
  iterate 60 (all_goals (first
    | (refine And.intro (by omega) ?_)
    | (refine And.intro (fun hb => absurd hb (by omega)) (fun hb => ?_))
    | (refine And.intro (fun hb => ?_) (fun hb => absurd hb (by omega)))
    | (refine And.intro (fun hb => ?_) (fun hb => ?_))
    | (intro hb)
    | (conv => whnf)))
  refine And.intro (⟨by show _ ≤ 600000; simp only [am_nth]; omega, by show _ ≤ 7302250; simp only [am_nth]; omega⟩) ?_
  iterate 60 (all_goals (first
    | (refine And.intro (by omega) ?_)
    | (refine And.intro (fun hb => absurd hb (by omega)) (fun hb => ?_))
    | (refine And.intro (fun hb => ?_) (fun hb => absurd hb (by omega)))
    | (refine And.intro (fun hb => ?_) (fun hb => ?_))
    | (intro hb)
    | (conv => whnf)))
  refine hK (am_imp (pr_part (d := 0) hI (r _) (r _) (r _) (r _)) (fun r1 V1 R1 T1 hr => ?_))
  obtain ⟨z, sh1, rfl, hz, rfl, h01, hM⟩ := hr
  have e1 : V 0 = V1 0 := hV.trans h01.symm
  try rw [e1] at hM
  have eL1 : V1 0 (-1) = V0 0 (-1) := by rw [h01]
  iterate 60 (all_goals (first
    | (refine And.intro (by omega) ?_)
    | (refine And.intro (fun hb => absurd hb (by omega)) (fun hb => ?_))
    | (refine And.intro (fun hb => ?_) (fun hb => absurd hb (by omega)))
    | (refine And.intro (fun hb => ?_) (fun hb => ?_))
    | (intro hb)
    | (conv => whnf)))
  refine hK (am_imp hM (fun r2 V2 R2 T2 hr2 => ?_))
  obtain ⟨rfl, sh2, rfl, hII⟩ := hr2
  iterate 60 (all_goals (first
    | (refine And.intro (by omega) ?_)
    | (refine And.intro (fun hb => absurd hb (by omega)) (fun hb => ?_))
    | (refine And.intro (fun hb => ?_) (fun hb => absurd hb (by omega)))
    | (refine And.intro (fun hb => ?_) (fun hb => ?_))
    | (intro hb)
    | (conv => whnf)))
  exact hS (nx sh2 V2 T2 _ _ hII (by simp only [am_nth]; omega) (by simp only [am_nth]; omega))
set_option maxRecDepth 200000 in
set_option maxHeartbeats 4000000 in
theorem lw_t5 {G : am_G} {V0 V : am_V} {sh : Int → Option Nat} {T cc cs : Nat} {p i : Int} {Q : Option AV → am_V → am_T → Nat → Prop} (hI : II V sh T p (V0 0)) (h32 : ∀ j, am_in32 (V0 0 j)) (hL : V0 0 (-1) ≤ 3073) (hi : 1 ≤ i ∧ i ≤ V0 0 (-1) - 6) (hk : V0 0 i % 32 = 5) (hcc : cc ≤ 100000) (hcs : cs ≤ 1000000) (nx : ∀ (sh2 : Int → Option Nat) (V2 : am_V) (T2 cc2 cs2 : Nat), II V2 sh2 T2 p (V0 0) → cc2 ≤ cc + 10 → cs2 ≤ cs + 100 → am_Sem G 9 168 V0 3 Q 28 [some (vR 0), some (vR 3), some (vR 86), some (vI (i + 6))] [] V2 (am_RF sh2) T2 cc2 cs2) : am_Sem G 9 168 V0 3 Q 28 [some (vR 0), some (vR 3), some (vR 86), some (vI i)] [] V (am_RF sh) T cc cs := by
  have hV : V 0 = V0 0 := hI.1.1
  have eL : V 0 (-1) = V0 0 (-1) := by rw [hV]
  have hk' : V 0 i % 32 = 5 := by rw [hV]; exact hk
  have r : ∀ j, am_in32 (V 0 j) := fun j => by rw [hV]; exact h32 j
  refine am_run 400 mt_L_law ok_L_law (fun K S hK hS => ?_)
  iterate 6 (all_goals (first
    | (refine And.intro (by omega) ?_)
    | (refine And.intro (fun hb => absurd hb (by omega)) (fun hb => ?_))
    | (refine And.intro (fun hb => ?_) (fun hb => absurd hb (by omega)))
    | (refine And.intro (fun hb => ?_) (fun hb => ?_))
    | (intro hb)
    | (conv => whnf)))
  refine am_sw_k 5 428 ?_ ?_ ?_
  · omega
  · rfl
  conv => whnf
  iterate 60 (all_goals (first
    | (refine And.intro (by omega) ?_)
    | (refine And.intro (fun hb => absurd hb (by omega)) (fun hb => ?_))
    | (refine And.intro (fun hb => ?_) (fun hb => absurd hb (by omega)))
    | (refine And.intro (fun hb => ?_) (fun hb => ?_))
    | (intro hb)
    | (conv => whnf)))
  refine And.intro (⟨by show _ ≤ 600000; simp only [am_nth]; omega, by show _ ≤ 7302250; simp only [am_nth]; omega⟩) ?_
  iterate 60 (all_goals (first
    | (refine And.intro (by omega) ?_)
    | (refine And.intro (fun hb => absurd hb (by omega)) (fun hb => ?_))
    | (refine And.intro (fun hb => ?_) (fun hb => absurd hb (by omega)))
    | (refine And.intro (fun hb => ?_) (fun hb => ?_))
    | (intro hb)
    | (conv => whnf)))
  refine hK (am_imp (pr_nth (d := 0) hI (r _) (r _) (r _)) (fun r1 V1 R1 T1 hr => ?_))
  obtain ⟨z, sh1, rfl, hz, rfl, h01, hM⟩ := hr
  have e1 : V 0 = V1 0 := hV.trans h01.symm
  try rw [e1] at hM
  have eL1 : V1 0 (-1) = V0 0 (-1) := by rw [h01]
  iterate 60 (all_goals (first
    | (refine And.intro (by omega) ?_)
    | (refine And.intro (fun hb => absurd hb (by omega)) (fun hb => ?_))
    | (refine And.intro (fun hb => ?_) (fun hb => absurd hb (by omega)))
    | (refine And.intro (fun hb => ?_) (fun hb => ?_))
    | (intro hb)
    | (conv => whnf)))
  refine hK (am_imp hM (fun r2 V2 R2 T2 hr2 => ?_))
  obtain ⟨rfl, sh2, rfl, hII⟩ := hr2
  iterate 60 (all_goals (first
    | (refine And.intro (by omega) ?_)
    | (refine And.intro (fun hb => absurd hb (by omega)) (fun hb => ?_))
    | (refine And.intro (fun hb => ?_) (fun hb => absurd hb (by omega)))
    | (refine And.intro (fun hb => ?_) (fun hb => ?_))
    | (intro hb)
    | (conv => whnf)))
  exact hS (nx sh2 V2 T2 _ _ hII (by simp only [am_nth]; omega) (by simp only [am_nth]; omega))
set_option maxRecDepth 200000 in
set_option maxHeartbeats 4000000 in
theorem lw_t6 {G : am_G} {V0 V : am_V} {sh : Int → Option Nat} {T cc cs : Nat} {p i : Int} {Q : Option AV → am_V → am_T → Nat → Prop} (hI : II V sh T p (V0 0)) (h32 : ∀ j, am_in32 (V0 0 j)) (hL : V0 0 (-1) ≤ 3073) (hi : 1 ≤ i ∧ i ≤ V0 0 (-1) - 6) (hk : V0 0 i % 32 = 6) (hcc : cc ≤ 100000) (hcs : cs ≤ 1000000) (nx : ∀ (sh2 : Int → Option Nat) (V2 : am_V) (T2 cc2 cs2 : Nat), II V2 sh2 T2 p (V0 0) → cc2 ≤ cc + 10 → cs2 ≤ cs + 100 → am_Sem G 9 168 V0 3 Q 28 [some (vR 0), some (vR 3), some (vR 86), some (vI (i + 6))] [] V2 (am_RF sh2) T2 cc2 cs2) : am_Sem G 9 168 V0 3 Q 28 [some (vR 0), some (vR 3), some (vR 86), some (vI i)] [] V (am_RF sh) T cc cs := by
  have hV : V 0 = V0 0 := hI.1.1
  have eL : V 0 (-1) = V0 0 (-1) := by rw [hV]
  have hk' : V 0 i % 32 = 6 := by rw [hV]; exact hk
  have r : ∀ j, am_in32 (V 0 j) := fun j => by rw [hV]; exact h32 j
  refine am_run 400 mt_L_law ok_L_law (fun K S hK hS => ?_)
  iterate 6 (all_goals (first
    | (refine And.intro (by omega) ?_)
    | (refine And.intro (fun hb => absurd hb (by omega)) (fun hb => ?_))
    | (refine And.intro (fun hb => ?_) (fun hb => absurd hb (by omega)))
    | (refine And.intro (fun hb => ?_) (fun hb => ?_))
    | (intro hb)
    | (conv => whnf)))
  refine am_sw_k 6 471 ?_ ?_ ?_
  · omega
  · rfl
  conv => whnf
  iterate 60 (all_goals (first
    | (refine And.intro (by omega) ?_)
    | (refine And.intro (fun hb => absurd hb (by omega)) (fun hb => ?_))
    | (refine And.intro (fun hb => ?_) (fun hb => absurd hb (by omega)))
    | (refine And.intro (fun hb => ?_) (fun hb => ?_))
    | (intro hb)
    | (conv => whnf)))
  refine And.intro (⟨by show _ ≤ 600000; simp only [am_nth]; omega, by show _ ≤ 7302250; simp only [am_nth]; omega⟩) ?_
  iterate 60 (all_goals (first
    | (refine And.intro (by omega) ?_)
    | (refine And.intro (fun hb => absurd hb (by omega)) (fun hb => ?_))
    | (refine And.intro (fun hb => ?_) (fun hb => absurd hb (by omega)))
    | (refine And.intro (fun hb => ?_) (fun hb => ?_))
    | (intro hb)
    | (conv => whnf)))
  refine hK (am_imp (pr_both (d := 0) hI (r _) (r _) (r _) (r _)) (fun r1 V1 R1 T1 hr => ?_))
  obtain ⟨z, sh1, rfl, hz, rfl, h01, hM⟩ := hr
  have e1 : V 0 = V1 0 := hV.trans h01.symm
  try rw [e1] at hM
  have eL1 : V1 0 (-1) = V0 0 (-1) := by rw [h01]
  iterate 60 (all_goals (first
    | (refine And.intro (by omega) ?_)
    | (refine And.intro (fun hb => absurd hb (by omega)) (fun hb => ?_))
    | (refine And.intro (fun hb => ?_) (fun hb => absurd hb (by omega)))
    | (refine And.intro (fun hb => ?_) (fun hb => ?_))
    | (intro hb)
    | (conv => whnf)))
  refine hK (am_imp hM (fun r2 V2 R2 T2 hr2 => ?_))
  obtain ⟨rfl, sh2, rfl, hII⟩ := hr2
  iterate 60 (all_goals (first
    | (refine And.intro (by omega) ?_)
    | (refine And.intro (fun hb => absurd hb (by omega)) (fun hb => ?_))
    | (refine And.intro (fun hb => ?_) (fun hb => absurd hb (by omega)))
    | (refine And.intro (fun hb => ?_) (fun hb => ?_))
    | (intro hb)
    | (conv => whnf)))
  exact hS (nx sh2 V2 T2 _ _ hII (by simp only [am_nth]; omega) (by simp only [am_nth]; omega))
set_option maxRecDepth 200000 in
set_option maxHeartbeats 4000000 in
theorem lw_t7 {G : am_G} {V0 V : am_V} {sh : Int → Option Nat} {T cc cs : Nat} {p i : Int} {Q : Option AV → am_V → am_T → Nat → Prop} (hI : II V sh T p (V0 0)) (h32 : ∀ j, am_in32 (V0 0 j)) (hL : V0 0 (-1) ≤ 3073) (hi : 1 ≤ i ∧ i ≤ V0 0 (-1) - 6) (hk : V0 0 i % 32 = 7) (hcc : cc ≤ 100000) (hcs : cs ≤ 1000000) (nx : ∀ (sh2 : Int → Option Nat) (V2 : am_V) (T2 cc2 cs2 : Nat), II V2 sh2 T2 p (V0 0) → cc2 ≤ cc + 10 → cs2 ≤ cs + 100 → am_Sem G 9 168 V0 3 Q 28 [some (vR 0), some (vR 3), some (vR 86), some (vI (i + 6))] [] V2 (am_RF sh2) T2 cc2 cs2) : am_Sem G 9 168 V0 3 Q 28 [some (vR 0), some (vR 3), some (vR 86), some (vI i)] [] V (am_RF sh) T cc cs := by
  have hV : V 0 = V0 0 := hI.1.1
  have eL : V 0 (-1) = V0 0 (-1) := by rw [hV]
  have hk' : V 0 i % 32 = 7 := by rw [hV]; exact hk
  have r : ∀ j, am_in32 (V 0 j) := fun j => by rw [hV]; exact h32 j
  refine am_run 400 mt_L_law ok_L_law (fun K S hK hS => ?_)
  iterate 6 (all_goals (first
    | (refine And.intro (by omega) ?_)
    | (refine And.intro (fun hb => absurd hb (by omega)) (fun hb => ?_))
    | (refine And.intro (fun hb => ?_) (fun hb => absurd hb (by omega)))
    | (refine And.intro (fun hb => ?_) (fun hb => ?_))
    | (intro hb)
    | (conv => whnf)))
  refine am_sw_k 7 524 ?_ ?_ ?_
  · omega
  · rfl
  conv => whnf
  iterate 60 (all_goals (first
    | (refine And.intro (by omega) ?_)
    | (refine And.intro (fun hb => absurd hb (by omega)) (fun hb => ?_))
    | (refine And.intro (fun hb => ?_) (fun hb => absurd hb (by omega)))
    | (refine And.intro (fun hb => ?_) (fun hb => ?_))
    | (intro hb)
    | (conv => whnf)))
  refine And.intro (⟨by show _ ≤ 600000; simp only [am_nth]; omega, by show _ ≤ 7302250; simp only [am_nth]; omega⟩) ?_
  iterate 60 (all_goals (first
    | (refine And.intro (by omega) ?_)
    | (refine And.intro (fun hb => absurd hb (by omega)) (fun hb => ?_))
    | (refine And.intro (fun hb => ?_) (fun hb => absurd hb (by omega)))
    | (refine And.intro (fun hb => ?_) (fun hb => ?_))
    | (intro hb)
    | (conv => whnf)))
  refine hK (am_imp (pr_turn (d := 0) hI (r _) (r _) (r _)) (fun r1 V1 R1 T1 hr => ?_))
  obtain ⟨z, sh1, rfl, hz, rfl, h01, hM⟩ := hr
  have e1 : V 0 = V1 0 := hV.trans h01.symm
  try rw [e1] at hM
  have eL1 : V1 0 (-1) = V0 0 (-1) := by rw [h01]
  iterate 60 (all_goals (first
    | (refine And.intro (by omega) ?_)
    | (refine And.intro (fun hb => absurd hb (by omega)) (fun hb => ?_))
    | (refine And.intro (fun hb => ?_) (fun hb => absurd hb (by omega)))
    | (refine And.intro (fun hb => ?_) (fun hb => ?_))
    | (intro hb)
    | (conv => whnf)))
  refine hK (am_imp hM (fun r2 V2 R2 T2 hr2 => ?_))
  obtain ⟨rfl, sh2, rfl, hII⟩ := hr2
  iterate 60 (all_goals (first
    | (refine And.intro (by omega) ?_)
    | (refine And.intro (fun hb => absurd hb (by omega)) (fun hb => ?_))
    | (refine And.intro (fun hb => ?_) (fun hb => absurd hb (by omega)))
    | (refine And.intro (fun hb => ?_) (fun hb => ?_))
    | (intro hb)
    | (conv => whnf)))
  exact hS (nx sh2 V2 T2 _ _ hII (by simp only [am_nth]; omega) (by simp only [am_nth]; omega))
set_option maxRecDepth 200000 in
set_option maxHeartbeats 4000000 in
theorem lw_t8 {G : am_G} {V0 V : am_V} {sh : Int → Option Nat} {T cc cs : Nat} {p i : Int} {Q : Option AV → am_V → am_T → Nat → Prop} (hI : II V sh T p (V0 0)) (h32 : ∀ j, am_in32 (V0 0 j)) (hL : V0 0 (-1) ≤ 3073) (hi : 1 ≤ i ∧ i ≤ V0 0 (-1) - 6) (hk : V0 0 i % 32 = 8) (hcc : cc ≤ 100000) (hcs : cs ≤ 1000000) (nx : ∀ (sh2 : Int → Option Nat) (V2 : am_V) (T2 cc2 cs2 : Nat), II V2 sh2 T2 p (V0 0) → cc2 ≤ cc + 10 → cs2 ≤ cs + 100 → am_Sem G 9 168 V0 3 Q 28 [some (vR 0), some (vR 3), some (vR 86), some (vI (i + 6))] [] V2 (am_RF sh2) T2 cc2 cs2) : am_Sem G 9 168 V0 3 Q 28 [some (vR 0), some (vR 3), some (vR 86), some (vI i)] [] V (am_RF sh) T cc cs := by
  have hV : V 0 = V0 0 := hI.1.1
  have eL : V 0 (-1) = V0 0 (-1) := by rw [hV]
  have hk' : V 0 i % 32 = 8 := by rw [hV]; exact hk
  have r : ∀ j, am_in32 (V 0 j) := fun j => by rw [hV]; exact h32 j
  refine am_run 400 mt_L_law ok_L_law (fun K S hK hS => ?_)
  iterate 6 (all_goals (first
    | (refine And.intro (by omega) ?_)
    | (refine And.intro (fun hb => absurd hb (by omega)) (fun hb => ?_))
    | (refine And.intro (fun hb => ?_) (fun hb => absurd hb (by omega)))
    | (refine And.intro (fun hb => ?_) (fun hb => ?_))
    | (intro hb)
    | (conv => whnf)))
  refine am_sw_k 8 567 ?_ ?_ ?_
  · omega
  · rfl
  conv => whnf
  iterate 60 (all_goals (first
    | (refine And.intro (by omega) ?_)
    | (refine And.intro (fun hb => absurd hb (by omega)) (fun hb => ?_))
    | (refine And.intro (fun hb => ?_) (fun hb => absurd hb (by omega)))
    | (refine And.intro (fun hb => ?_) (fun hb => ?_))
    | (intro hb)
    | (conv => whnf)))
  refine hK (am_imp (pr_clear (d := 0) hI (r _)) (fun r1 V1 R1 T1 hr => ?_))
  obtain ⟨z, sh1, rfl, hz, rfl, h01, hM⟩ := hr
  have e1 : V 0 = V1 0 := hV.trans h01.symm
  try rw [e1] at hM
  have eL1 : V1 0 (-1) = V0 0 (-1) := by rw [h01]
  iterate 60 (all_goals (first
    | (refine And.intro (by omega) ?_)
    | (refine And.intro (fun hb => absurd hb (by omega)) (fun hb => ?_))
    | (refine And.intro (fun hb => ?_) (fun hb => absurd hb (by omega)))
    | (refine And.intro (fun hb => ?_) (fun hb => ?_))
    | (intro hb)
    | (conv => whnf)))
  refine hK (am_imp hM (fun r2 V2 R2 T2 hr2 => ?_))
  obtain ⟨rfl, sh2, rfl, hII⟩ := hr2
  iterate 60 (all_goals (first
    | (refine And.intro (by omega) ?_)
    | (refine And.intro (fun hb => absurd hb (by omega)) (fun hb => ?_))
    | (refine And.intro (fun hb => ?_) (fun hb => absurd hb (by omega)))
    | (refine And.intro (fun hb => ?_) (fun hb => ?_))
    | (intro hb)
    | (conv => whnf)))
  exact hS (nx sh2 V2 T2 _ _ hII (by simp only [am_nth]; omega) (by simp only [am_nth]; omega))
set_option maxRecDepth 200000 in
set_option maxHeartbeats 4000000 in
theorem lw_t9 {G : am_G} {V0 V : am_V} {sh : Int → Option Nat} {T cc cs : Nat} {p i : Int} {Q : Option AV → am_V → am_T → Nat → Prop} (hI : II V sh T p (V0 0)) (h32 : ∀ j, am_in32 (V0 0 j)) (hL : V0 0 (-1) ≤ 3073) (hi : 1 ≤ i ∧ i ≤ V0 0 (-1) - 6) (hk : V0 0 i % 32 = 9) (hcc : cc ≤ 100000) (hcs : cs ≤ 1000000) (nx : ∀ (sh2 : Int → Option Nat) (V2 : am_V) (T2 cc2 cs2 : Nat), II V2 sh2 T2 p (V0 0) → cc2 ≤ cc + 10 → cs2 ≤ cs + 100 → am_Sem G 9 168 V0 3 Q 28 [some (vR 0), some (vR 3), some (vR 86), some (vI (i + 6))] [] V2 (am_RF sh2) T2 cc2 cs2) : am_Sem G 9 168 V0 3 Q 28 [some (vR 0), some (vR 3), some (vR 86), some (vI i)] [] V (am_RF sh) T cc cs := by
  have hV : V 0 = V0 0 := hI.1.1
  have eL : V 0 (-1) = V0 0 (-1) := by rw [hV]
  have hk' : V 0 i % 32 = 9 := by rw [hV]; exact hk
  have r : ∀ j, am_in32 (V 0 j) := fun j => by rw [hV]; exact h32 j
  refine am_run 400 mt_L_law ok_L_law (fun K S hK hS => ?_)
  iterate 6 (all_goals (first
    | (refine And.intro (by omega) ?_)
    | (refine And.intro (fun hb => absurd hb (by omega)) (fun hb => ?_))
    | (refine And.intro (fun hb => ?_) (fun hb => absurd hb (by omega)))
    | (refine And.intro (fun hb => ?_) (fun hb => ?_))
    | (intro hb)
    | (conv => whnf)))
  refine am_sw_k 9 590 ?_ ?_ ?_
  · omega
  · rfl
  conv => whnf
  iterate 60 (all_goals (first
    | (refine And.intro (by omega) ?_)
    | (refine And.intro (fun hb => absurd hb (by omega)) (fun hb => ?_))
    | (refine And.intro (fun hb => ?_) (fun hb => absurd hb (by omega)))
    | (refine And.intro (fun hb => ?_) (fun hb => ?_))
    | (intro hb)
    | (conv => whnf)))
  refine hK (am_imp (pr_kind (d := 0) hI (r _)) (fun r1 V1 R1 T1 hr => ?_))
  obtain ⟨z, sh1, rfl, hz, rfl, h01, hM⟩ := hr
  have e1 : V 0 = V1 0 := hV.trans h01.symm
  try rw [e1] at hM
  have eL1 : V1 0 (-1) = V0 0 (-1) := by rw [h01]
  iterate 60 (all_goals (first
    | (refine And.intro (by omega) ?_)
    | (refine And.intro (fun hb => absurd hb (by omega)) (fun hb => ?_))
    | (refine And.intro (fun hb => ?_) (fun hb => absurd hb (by omega)))
    | (refine And.intro (fun hb => ?_) (fun hb => ?_))
    | (intro hb)
    | (conv => whnf)))
  refine hK (am_imp hM (fun r2 V2 R2 T2 hr2 => ?_))
  obtain ⟨rfl, sh2, rfl, hII⟩ := hr2
  iterate 60 (all_goals (first
    | (refine And.intro (by omega) ?_)
    | (refine And.intro (fun hb => absurd hb (by omega)) (fun hb => ?_))
    | (refine And.intro (fun hb => ?_) (fun hb => absurd hb (by omega)))
    | (refine And.intro (fun hb => ?_) (fun hb => ?_))
    | (intro hb)
    | (conv => whnf)))
  exact hS (nx sh2 V2 T2 _ _ hII (by simp only [am_nth]; omega) (by simp only [am_nth]; omega))
