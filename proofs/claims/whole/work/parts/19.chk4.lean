theorem okL_0 : cd_L_law_0.all (am_ok1 RL (decide (x.name = "<init>")) ret code 4) = true := by decide +kernel
theorem okL_1 : cd_L_law_1.all (am_ok1 RL (decide (x.name = "<init>")) ret code 4) = true := by decide +kernel
theorem okL_2 : cd_L_law_2.all (am_ok1 RL (decide (x.name = "<init>")) ret code 4) = true := by decide +kernel
theorem okL_3 : cd_L_law_3.all (am_ok1 RL (decide (x.name = "<init>")) ret code 4) = true := by decide +kernel
theorem okL_4 : cd_L_law_4.all (am_ok1 RL (decide (x.name = "<init>")) ret code 4) = true := by decide +kernel
theorem okL_5 : cd_L_law_5.all (am_ok1 RL (decide (x.name = "<init>")) ret code 4) = true := by decide +kernel
theorem okL_6 : cd_L_law_6.all (am_ok1 RL (decide (x.name = "<init>")) ret code 4) = true := by decide +kernel
theorem okL_7 : cd_L_law_7.all (am_ok1 RL (decide (x.name = "<init>")) ret code 4) = true := by decide +kernel
theorem okL_8 : cd_L_law_8.all (am_ok1 RL (decide (x.name = "<init>")) ret code 4) = true := by decide +kernel
theorem okL_9 : cd_L_law_9.all (am_ok1 RL (decide (x.name = "<init>")) ret code 4) = true := by decide +kernel
theorem okL_10 : cd_L_law_10.all (am_ok1 RL (decide (x.name = "<init>")) ret code 4) = true := by decide +kernel
theorem okL_11 : cd_L_law_11.all (am_ok1 RL (decide (x.name = "<init>")) ret code 4) = true := by decide +kernel
theorem okL_12 : cd_L_law_12.all (am_ok1 RL (decide (x.name = "<init>")) ret code 4) = true := by decide +kernel
theorem okL_13 : cd_L_law_13.all (am_ok1 RL (decide (x.name = "<init>")) ret code 4) = true := by decide +kernel
theorem okL_14 : cd_L_law_14.all (am_ok1 RL (decide (x.name = "<init>")) ret code 4) = true := by decide +kernel
theorem okL_15 : cd_L_law_15.all (am_ok1 RL (decide (x.name = "<init>")) ret code 4) = true := by decide +kernel
theorem okL_16 : cd_L_law_16.all (am_ok1 RL (decide (x.name = "<init>")) ret code 4) = true := by decide +kernel
theorem okL_17 : cd_L_law_17.all (am_ok1 RL (decide (x.name = "<init>")) ret code 4) = true := by decide +kernel
theorem okL_18 : cd_L_law_18.all (am_ok1 RL (decide (x.name = "<init>")) ret code 4) = true := by decide +kernel
theorem okL_19 : cd_L_law_19.all (am_ok1 RL (decide (x.name = "<init>")) ret code 4) = true := by decide +kernel
theorem okL_20 : cd_L_law_20.all (am_ok1 RL (decide (x.name = "<init>")) ret code 4) = true := by decide +kernel
theorem okL_21 : cd_L_law_21.all (am_ok1 RL (decide (x.name = "<init>")) ret code 4) = true := by decide +kernel
theorem okL_22 : cd_L_law_22.all (am_ok1 RL (decide (x.name = "<init>")) ret code 4) = true := by decide +kernel
theorem okL_23 : cd_L_law_23.all (am_ok1 RL (decide (x.name = "<init>")) ret code 4) = true := by decide +kernel
theorem okL_lin : am_lin cd_L_law = true := by decide +kernel
theorem okL_rest : (decide (x.cls = RL) && plainName x.cls) = true := by decide +kernel
theorem okL_all : cd_L_law.all (am_ok1 RL (decide (x.name = "<init>")) ret code 4) = true := by
  unfold cd_L_law
  simp only [List.all_append, Bool.and_eq_true]
  exact ⟨okL_0, ⟨okL_1, ⟨okL_2, ⟨okL_3, ⟨okL_4, ⟨okL_5, ⟨okL_6, ⟨okL_7, ⟨okL_8, ⟨okL_9, ⟨okL_10, ⟨okL_11, ⟨okL_12, ⟨okL_13, ⟨okL_14, ⟨okL_15, ⟨okL_16, ⟨okL_17, ⟨okL_18, ⟨okL_19, ⟨okL_20, ⟨okL_21, ⟨okL_22, okL_23⟩⟩⟩⟩⟩⟩⟩⟩⟩⟩⟩⟩⟩⟩⟩⟩⟩⟩⟩⟩⟩⟩⟩
theorem ok_L_law : am_chk 168 = true := by
  show (cd_L_law.all (am_ok1 RL (decide (x.name = "<init>")) ret code 4) && (am_lin cd_L_law && (decide (x.cls = RL) && plainName x.cls))) = true
  rw [okL_all, okL_lin, okL_rest]
  rfl
