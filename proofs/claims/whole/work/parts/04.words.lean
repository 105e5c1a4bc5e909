/-! words of the tables by their places; the methods -/
theorem wd_1 {w : Cond} (i : Nat) (h : tables_1_1[i]? = some w) (q : goodWord w = true) : w ∈ wds := wd (List.mem_append_right _ (List.mem_append_left _ (List.mem_of_getElem? h))) q
theorem wd_2 {w : Cond} (i : Nat) (h : tables_1_2[i]? = some w) (q : goodWord w = true) : w ∈ wds := wd (List.mem_append_right _ (List.mem_append_right _ (List.mem_append_left _ (List.mem_of_getElem? h)))) q
theorem wd_3 {w : Cond} (i : Nat) (h : tables_1_3[i]? = some w) (q : goodWord w = true) : w ∈ wds := wd (List.mem_append_right _ (List.mem_append_right _ (List.mem_append_right _ (List.mem_append_left _ (List.mem_of_getElem? h))))) q
theorem wd_4 {w : Cond} (i : Nat) (h : tables_1_4[i]? = some w) (q : goodWord w = true) : w ∈ wds := wd (List.mem_append_right _ (List.mem_append_right _ (List.mem_append_right _ (List.mem_append_right _ (List.mem_of_getElem? h))))) q
theorem iX0 : ∀ w ∈ u_ws RX0 TX0 3, w ∈ wds := by
  have h : (u_ws RX0 TX0 3).all (fun w => decide (w ∈ lw_tbl) && goodWord w) = true := by decide +kernel
  intro w hw
  have h1 := List.all_eq_true.mp h w hw
  simp only [Bool.and_eq_true, decide_eq_true_eq] at h1
  exact wd h1.1 h1.2
theorem iX1 : ∀ w ∈ u_ws RX1 TX1 7, w ∈ wds := by
  have h : (u_ws RX1 TX1 7).all (fun w => decide (w ∈ lw_tbl) && goodWord w) = true := by decide +kernel
  intro w hw
  have h1 := List.all_eq_true.mp h w hw
  simp only [Bool.and_eq_true, decide_eq_true_eq] at h1
  exact wd h1.1 h1.2
theorem iX2 : ∀ w ∈ u_ws RX2 TX2 8, w ∈ wds := by
  have h : (u_ws RX2 TX2 8).all (fun w => decide (w ∈ lw_tbl) && goodWord w) = true := by decide +kernel
  intro w hw
  have h1 := List.all_eq_true.mp h w hw
  simp only [Bool.and_eq_true, decide_eq_true_eq] at h1
  exact wd h1.1 h1.2
theorem iX3 : ∀ w ∈ u_ws RX3 TX3 2, w ∈ wds := by
  have h : (u_ws RX3 TX3 2).all (fun w => decide (w ∈ lw_tbl) && goodWord w) = true := by decide +kernel
  intro w hw
  have h1 := List.all_eq_true.mp h w hw
  simp only [Bool.and_eq_true, decide_eq_true_eq] at h1
  exact wd h1.1 h1.2
theorem iX4 : ∀ w ∈ u_ws RX4 TX4 3, w ∈ wds := by
  have h : (u_ws RX4 TX4 3).all (fun w => decide (w ∈ lw_tbl) && goodWord w) = true := by decide +kernel
  intro w hw
  have h1 := List.all_eq_true.mp h w hw
  simp only [Bool.and_eq_true, decide_eq_true_eq] at h1
  exact wd h1.1 h1.2
theorem iX5 : ∀ w ∈ u_ws RX5 TX5 10, w ∈ wds := by
  have h : (u_ws RX5 TX5 10).all (fun w => decide (w ∈ lw_tbl) && goodWord w) = true := by decide +kernel
  intro w hw
  have h1 := List.all_eq_true.mp h w hw
  simp only [Bool.and_eq_true, decide_eq_true_eq] at h1
  exact wd h1.1 h1.2
theorem iX6 : ∀ w ∈ u_ws RX6 TX6 34, w ∈ wds := by
  have h : (u_ws RX6 TX6 34).all (fun w => decide (w ∈ lw_tbl) && goodWord w) = true := by decide +kernel
  intro w hw
  have h1 := List.all_eq_true.mp h w hw
  simp only [Bool.and_eq_true, decide_eq_true_eq] at h1
  exact wd h1.1 h1.2
theorem in_RL : Cond.initialized RL ∈ wds := wd_1 0 rfl rfl
theorem in_RX5 : Cond.initialized RX5 ∈ wds := wd_1 1 rfl rfl
theorem in_RX3 : Cond.initialized RX3 ∈ wds := wd_1 2 rfl rfl
theorem in_RX2 : Cond.initialized RX2 ∈ wds := wd_1 3 rfl rfl
theorem in_RX1 : Cond.initialized RX1 ∈ wds := wd_1 4 rfl rfl
theorem in_RX0 : Cond.initialized RX0 ∈ wds := wd_1 5 rfl rfl
theorem in_RX4 : Cond.initialized RX4 ∈ wds := wd_1 6 rfl rfl
theorem in_RX6 : Cond.initialized RX6 ∈ wds := wd_1 7 rfl rfl
theorem in_RJ10 : Cond.initialized "java/lang/System" ∈ wds := wd_1 8 rfl rfl
theorem in_RJ9 : Cond.initialized "java/lang/Math" ∈ wds := wd_1 9 rfl rfl
theorem in_RJ6 : Cond.initialized "java/lang/Integer" ∈ wds := wd_1 10 rfl rfl
theorem cl_RL_7 : Cond.classLink RL 7 RX5 ∈ wds := wd_1 11 rfl rfl
theorem ia_RX5 : Cond.instantiable RX5 10 ∈ wds := wd_1 12 rfl rfl
theorem cl_RX5_7 : Cond.classLink RX5 7 RX3 ∈ wds := wd_1 19 rfl rfl
theorem ia_RX3 : Cond.instantiable RX3 2 ∈ wds := wd_1 20 rfl rfl
theorem f_RX3_9 : Cond.fieldLink RX3 9 (TX3 0).1 (TX3 0).2.1 (TX3 0).2.2.1 ∈ wds := wd_1 25 rfl rfl
theorem f_RX2_42 : Cond.fieldLink RX2 42 (TX3 0).1 (TX3 0).2.1 (TX3 0).2.2.1 ∈ wds := wd_1 26 rfl rfl
theorem f_RX3_15 : Cond.fieldLink RX3 15 (TX3 1).1 (TX3 1).2.1 (TX3 1).2.2.1 ∈ wds := wd_1 27 rfl rfl
theorem f_RX2_37 : Cond.fieldLink RX2 37 (TX3 1).1 (TX3 1).2.1 (TX3 1).2.2.1 ∈ wds := wd_1 28 rfl rfl
theorem f_RX5_65 : Cond.fieldLink RX5 65 (TX3 1).1 (TX3 1).2.1 (TX3 1).2.2.1 ∈ wds := wd_1 29 rfl rfl
theorem cl_RX5_16 : Cond.classLink RX5 16 RX2 ∈ wds := wd_1 36 rfl rfl
theorem ia_RX2 : Cond.instantiable RX2 8 ∈ wds := wd_1 37 rfl rfl
theorem f_RX2_9 : Cond.fieldLink RX2 9 (TX2 0).1 (TX2 0).2.1 (TX2 0).2.2.1 ∈ wds := wd_1 42 rfl rfl
theorem f_RX5_120 : Cond.fieldLink RX5 120 (TX2 0).1 (TX2 0).2.1 (TX2 0).2.2.1 ∈ wds := wd_1 43 rfl rfl
theorem f_RX1_91 : Cond.fieldLink RX1 91 (TX2 0).1 (TX2 0).2.1 (TX2 0).2.2.1 ∈ wds := wd_1 44 rfl rfl
theorem f_RX2_15 : Cond.fieldLink RX2 15 (TX2 1).1 (TX2 1).2.1 (TX2 1).2.2.1 ∈ wds := wd_1 45 rfl rfl
theorem f_RX1_40 : Cond.fieldLink RX1 40 (TX2 1).1 (TX2 1).2.1 (TX2 1).2.2.1 ∈ wds := wd_1 46 rfl rfl
theorem f_RX5_123 : Cond.fieldLink RX5 123 (TX2 1).1 (TX2 1).2.1 (TX2 1).2.2.1 ∈ wds := wd_1 47 rfl rfl
theorem f_RX2_18 : Cond.fieldLink RX2 18 (TX2 2).1 (TX2 2).2.1 (TX2 2).2.2.1 ∈ wds := wd_1 48 rfl rfl
theorem f_RX5_126 : Cond.fieldLink RX5 126 (TX2 2).1 (TX2 2).2.1 (TX2 2).2.2.1 ∈ wds := wd_1 49 rfl rfl
theorem f_RX1_60 : Cond.fieldLink RX1 60 (TX2 2).1 (TX2 2).2.1 (TX2 2).2.2.1 ∈ wds := wd_1 50 rfl rfl
theorem f_RX2_21 : Cond.fieldLink RX2 21 (TX2 3).1 (TX2 3).2.1 (TX2 3).2.2.1 ∈ wds := wd_1 51 rfl rfl
theorem f_RX5_141 : Cond.fieldLink RX5 141 (TX2 3).1 (TX2 3).2.1 (TX2 3).2.2.1 ∈ wds := wd_1 52 rfl rfl
theorem f_RX1_85 : Cond.fieldLink RX1 85 (TX2 3).1 (TX2 3).2.1 (TX2 3).2.2.1 ∈ wds := wd_1 53 rfl rfl
theorem f_RX2_24 : Cond.fieldLink RX2 24 (TX2 4).1 (TX2 4).2.1 (TX2 4).2.2.1 ∈ wds := wd_1 54 rfl rfl
theorem f_RX5_144 : Cond.fieldLink RX5 144 (TX2 4).1 (TX2 4).2.1 (TX2 4).2.2.1 ∈ wds := wd_1 55 rfl rfl
theorem f_RX1_78 : Cond.fieldLink RX1 78 (TX2 4).1 (TX2 4).2.1 (TX2 4).2.2.1 ∈ wds := wd_1 56 rfl rfl
theorem f_RX2_27 : Cond.fieldLink RX2 27 (TX2 5).1 (TX2 5).2.1 (TX2 5).2.2.1 ∈ wds := wd_1 57 rfl rfl
theorem f_RX5_147 : Cond.fieldLink RX5 147 (TX2 5).1 (TX2 5).2.1 (TX2 5).2.2.1 ∈ wds := wd_1 58 rfl rfl
theorem f_RX1_67 : Cond.fieldLink RX1 67 (TX2 5).1 (TX2 5).2.1 (TX2 5).2.2.1 ∈ wds := wd_1 59 rfl rfl
theorem f_RX2_30 : Cond.fieldLink RX2 30 (TX2 6).1 (TX2 6).2.1 (TX2 6).2.2.1 ∈ wds := wd_1 60 rfl rfl
theorem f_RX1_35 : Cond.fieldLink RX1 35 (TX2 6).1 (TX2 6).2.1 (TX2 6).2.2.1 ∈ wds := wd_1 61 rfl rfl
theorem f_RX5_87 : Cond.fieldLink RX5 87 (TX2 6).1 (TX2 6).2.1 (TX2 6).2.2.1 ∈ wds := wd_1 62 rfl rfl
theorem f_RX2_34 : Cond.fieldLink RX2 34 (TX2 7).1 (TX2 7).2.1 (TX2 7).2.2.1 ∈ wds := wd_1 63 rfl rfl
theorem f_RX5_90 : Cond.fieldLink RX5 90 (TX2 7).1 (TX2 7).2.1 (TX2 7).2.2.1 ∈ wds := wd_1 64 rfl rfl
theorem f_RX1_53 : Cond.fieldLink RX1 53 (TX2 7).1 (TX2 7).2.1 (TX2 7).2.2.1 ∈ wds := wd_1 65 rfl rfl
theorem cl_RX5_23 : Cond.classLink RX5 23 RX1 ∈ wds := wd_1 83 rfl rfl
theorem ia_RX1 : Cond.instantiable RX1 7 ∈ wds := wd_1 84 rfl rfl
theorem f_RX1_9 : Cond.fieldLink RX1 9 (TX1 0).1 (TX1 0).2.1 (TX1 0).2.2.1 ∈ wds := wd_1 89 rfl rfl
theorem f_RX1_15 : Cond.fieldLink RX1 15 (TX1 1).1 (TX1 1).2.1 (TX1 1).2.2.1 ∈ wds := wd_1 90 rfl rfl
theorem f_RX5_129 : Cond.fieldLink RX5 129 (TX1 1).1 (TX1 1).2.1 (TX1 1).2.2.1 ∈ wds := wd_1 91 rfl rfl
theorem f_RX1_19 : Cond.fieldLink RX1 19 (TX1 2).1 (TX1 2).2.1 (TX1 2).2.2.1 ∈ wds := wd_1 92 rfl rfl
theorem f_RX5_132 : Cond.fieldLink RX5 132 (TX1 2).1 (TX1 2).2.1 (TX1 2).2.2.1 ∈ wds := wd_1 93 rfl rfl
theorem f_RX1_22 : Cond.fieldLink RX1 22 (TX1 3).1 (TX1 3).2.1 (TX1 3).2.2.1 ∈ wds := wd_1 94 rfl rfl
theorem f_RX1_25 : Cond.fieldLink RX1 25 (TX1 4).1 (TX1 4).2.1 (TX1 4).2.2.1 ∈ wds := wd_1 95 rfl rfl
theorem f_RX5_93 : Cond.fieldLink RX5 93 (TX1 4).1 (TX1 4).2.1 (TX1 4).2.2.1 ∈ wds := wd_1 96 rfl rfl
theorem f_RX1_29 : Cond.fieldLink RX1 29 (TX1 5).1 (TX1 5).2.1 (TX1 5).2.2.1 ∈ wds := wd_1 97 rfl rfl
theorem f_RX5_153 : Cond.fieldLink RX5 153 (TX1 5).1 (TX1 5).2.1 (TX1 5).2.2.1 ∈ wds := wd_1 98 rfl rfl
theorem f_RX1_32 : Cond.fieldLink RX1 32 (TX1 6).1 (TX1 6).2.1 (TX1 6).2.2.1 ∈ wds := wd_1 99 rfl rfl
theorem f_RX5_156 : Cond.fieldLink RX5 156 (TX1 6).1 (TX1 6).2.1 (TX1 6).2.2.1 ∈ wds := wd_1 100 rfl rfl
theorem cl_RX5_35 : Cond.classLink RX5 35 RX0 ∈ wds := wd_1 116 rfl rfl
theorem ia_RX0 : Cond.instantiable RX0 3 ∈ wds := wd_1 117 rfl rfl
theorem cl_RX0_9 : Cond.classLink RX0 9 RX1 ∈ wds := wd_1 122 rfl rfl
theorem f_RX0_11 : Cond.fieldLink RX0 11 (TX0 0).1 (TX0 0).2.1 (TX0 0).2.2.1 ∈ wds := wd_1 125 rfl rfl
theorem f_RX0_20 : Cond.fieldLink RX0 20 (TX0 1).1 (TX0 1).2.1 (TX0 1).2.2.1 ∈ wds := wd_1 126 rfl rfl
theorem f_RX0_24 : Cond.fieldLink RX0 24 (TX0 2).1 (TX0 2).2.1 (TX0 2).2.2.1 ∈ wds := wd_1 127 rfl rfl
theorem f_RX5_84 : Cond.fieldLink RX5 84 (TX0 2).1 (TX0 2).2.1 (TX0 2).2.2.1 ∈ wds := wd_1 128 rfl rfl
theorem cl_RX5_42 : Cond.classLink RX5 42 RX4 ∈ wds := wd_1 136 rfl rfl
theorem ia_RX4 : Cond.instantiable RX4 3 ∈ wds := wd_1 137 rfl rfl
theorem f_RX4_9 : Cond.fieldLink RX4 9 (TX4 0).1 (TX4 0).2.1 (TX4 0).2.2.1 ∈ wds := wd_1 142 rfl rfl
theorem f_RX4_15 : Cond.fieldLink RX4 15 (TX4 1).1 (TX4 1).2.1 (TX4 1).2.2.1 ∈ wds := wd_1 143 rfl rfl
theorem f_RX4_19 : Cond.fieldLink RX4 19 (TX4 2).1 (TX4 2).2.1 (TX4 2).2.2.1 ∈ wds := wd_1 144 rfl rfl
theorem f_RX5_115 : Cond.fieldLink RX5 115 (TX4 2).1 (TX4 2).2.1 (TX4 2).2.2.1 ∈ wds := wd_1 145 rfl rfl
theorem f_RX5_10 : Cond.fieldLink RX5 10 (TX5 0).1 (TX5 0).2.1 (TX5 0).2.2.1 ∈ wds := wd_1 154 rfl rfl
theorem f_RX5_19 : Cond.fieldLink RX5 19 (TX5 1).1 (TX5 1).2.1 (TX5 1).2.2.1 ∈ wds := wd_1 155 rfl rfl
theorem f_RX5_28 : Cond.fieldLink RX5 28 (TX5 2).1 (TX5 2).2.1 (TX5 2).2.2.1 ∈ wds := wd_1 156 rfl rfl
theorem f_RX5_32 : Cond.fieldLink RX5 32 (TX5 3).1 (TX5 3).2.1 (TX5 3).2.2.1 ∈ wds := wd_1 157 rfl rfl
theorem f_RX5_38 : Cond.fieldLink RX5 38 (TX5 4).1 (TX5 4).2.1 (TX5 4).2.2.1 ∈ wds := wd_1 158 rfl rfl
theorem f_RX5_45 : Cond.fieldLink RX5 45 (TX5 5).1 (TX5 5).2.1 (TX5 5).2.2.1 ∈ wds := wd_1 159 rfl rfl
theorem f_RX5_49 : Cond.fieldLink RX5 49 (TX5 6).1 (TX5 6).2.1 (TX5 6).2.2.1 ∈ wds := wd_1 160 rfl rfl
theorem f_RX5_53 : Cond.fieldLink RX5 53 (TX5 7).1 (TX5 7).2.1 (TX5 7).2.2.1 ∈ wds := wd_1 161 rfl rfl
theorem f_RX5_57 : Cond.fieldLink RX5 57 (TX5 8).1 (TX5 8).2.1 (TX5 8).2.2.1 ∈ wds := wd_1 162 rfl rfl
theorem f_RX5_61 : Cond.fieldLink RX5 61 (TX5 9).1 (TX5 9).2.1 (TX5 9).2.2.1 ∈ wds := wd_1 163 rfl rfl
theorem ct_RJ6_265 : Cond.constant RJ6 265 (1431655765) ∈ wds := wd_2 144 rfl rfl
theorem ct_RJ6_266 : Cond.constant RJ6 266 (858993459) ∈ wds := wd_2 145 rfl rfl
theorem ct_RJ6_267 : Cond.constant RJ6 267 (252645135) ∈ wds := wd_2 146 rfl rfl
theorem ct_RX5_202 : Cond.constantLong RX5 202 (1000) ∈ wds := wd_2 168 rfl rfl
theorem ct_RX5_233 : Cond.constantLong RX5 233 (10) ∈ wds := wd_2 226 rfl rfl
theorem ct_RX5_235 : Cond.constantLong RX5 235 (6364136223846793005) ∈ wds := wd_2 235 rfl rfl
theorem ct_RX5_237 : Cond.constantLong RX5 237 (1442695040888963407) ∈ wds := wd_2 236 rfl rfl
theorem ct_RX5_239 : Cond.constantLong RX5 239 (28) ∈ wds := wd_2 237 rfl rfl
theorem cl_RL_10 : Cond.classLink RL 10 RX6 ∈ wds := wd_3 10 rfl rfl
theorem ia_RX6 : Cond.instantiable RX6 34 ∈ wds := wd_3 11 rfl rfl
theorem f_RX6_68 : Cond.fieldLink RX6 68 (TX6 0).1 (TX6 0).2.1 (TX6 0).2.2.1 ∈ wds := wd_3 16 rfl rfl
theorem f_RX6_7 : Cond.fieldLink RX6 7 (TX6 1).1 (TX6 1).2.1 (TX6 1).2.2.1 ∈ wds := wd_3 17 rfl rfl
theorem f_RX6_84 : Cond.fieldLink RX6 84 (TX6 2).1 (TX6 2).2.1 (TX6 2).2.2.1 ∈ wds := wd_3 18 rfl rfl
theorem f_RX6_87 : Cond.fieldLink RX6 87 (TX6 3).1 (TX6 3).2.1 (TX6 3).2.2.1 ∈ wds := wd_3 19 rfl rfl
theorem f_RX6_72 : Cond.fieldLink RX6 72 (TX6 4).1 (TX6 4).2.1 (TX6 4).2.2.1 ∈ wds := wd_3 20 rfl rfl
theorem f_RX6_13 : Cond.fieldLink RX6 13 (TX6 5).1 (TX6 5).2.1 (TX6 5).2.2.1 ∈ wds := wd_3 21 rfl rfl
theorem f_RX6_16 : Cond.fieldLink RX6 16 (TX6 6).1 (TX6 6).2.1 (TX6 6).2.2.1 ∈ wds := wd_3 22 rfl rfl
theorem f_RX6_19 : Cond.fieldLink RX6 19 (TX6 7).1 (TX6 7).2.1 (TX6 7).2.2.1 ∈ wds := wd_3 23 rfl rfl
theorem f_RX6_79 : Cond.fieldLink RX6 79 (TX6 8).1 (TX6 8).2.1 (TX6 8).2.2.1 ∈ wds := wd_3 24 rfl rfl
theorem f_RX6_22 : Cond.fieldLink RX6 22 (TX6 9).1 (TX6 9).2.1 (TX6 9).2.2.1 ∈ wds := wd_3 25 rfl rfl
theorem f_RX6_25 : Cond.fieldLink RX6 25 (TX6 10).1 (TX6 10).2.1 (TX6 10).2.2.1 ∈ wds := wd_3 26 rfl rfl
theorem f_RX6_28 : Cond.fieldLink RX6 28 (TX6 11).1 (TX6 11).2.1 (TX6 11).2.2.1 ∈ wds := wd_3 27 rfl rfl
theorem f_RX6_94 : Cond.fieldLink RX6 94 (TX6 12).1 (TX6 12).2.1 (TX6 12).2.2.1 ∈ wds := wd_3 28 rfl rfl
theorem f_RX6_31 : Cond.fieldLink RX6 31 (TX6 13).1 (TX6 13).2.1 (TX6 13).2.2.1 ∈ wds := wd_3 29 rfl rfl
theorem f_RX6_97 : Cond.fieldLink RX6 97 (TX6 14).1 (TX6 14).2.1 (TX6 14).2.2.1 ∈ wds := wd_3 30 rfl rfl
theorem f_RX6_34 : Cond.fieldLink RX6 34 (TX6 15).1 (TX6 15).2.1 (TX6 15).2.2.1 ∈ wds := wd_3 31 rfl rfl
theorem f_RX6_37 : Cond.fieldLink RX6 37 (TX6 16).1 (TX6 16).2.1 (TX6 16).2.2.1 ∈ wds := wd_3 32 rfl rfl
theorem f_RX6_40 : Cond.fieldLink RX6 40 (TX6 17).1 (TX6 17).2.1 (TX6 17).2.2.1 ∈ wds := wd_3 33 rfl rfl
theorem f_RX6_43 : Cond.fieldLink RX6 43 (TX6 18).1 (TX6 18).2.1 (TX6 18).2.2.1 ∈ wds := wd_3 34 rfl rfl
theorem f_RX6_114 : Cond.fieldLink RX6 114 (TX6 19).1 (TX6 19).2.1 (TX6 19).2.2.1 ∈ wds := wd_3 35 rfl rfl
theorem f_RX6_46 : Cond.fieldLink RX6 46 (TX6 20).1 (TX6 20).2.1 (TX6 20).2.2.1 ∈ wds := wd_3 36 rfl rfl
theorem f_RX6_49 : Cond.fieldLink RX6 49 (TX6 21).1 (TX6 21).2.1 (TX6 21).2.2.1 ∈ wds := wd_3 37 rfl rfl
theorem f_RX6_164 : Cond.fieldLink RX6 164 (TX6 22).1 (TX6 22).2.1 (TX6 22).2.2.1 ∈ wds := wd_3 38 rfl rfl
theorem f_RX6_53 : Cond.fieldLink RX6 53 (TX6 23).1 (TX6 23).2.1 (TX6 23).2.2.1 ∈ wds := wd_3 39 rfl rfl
theorem f_RX6_56 : Cond.fieldLink RX6 56 (TX6 24).1 (TX6 24).2.1 (TX6 24).2.2.1 ∈ wds := wd_3 40 rfl rfl
theorem f_RX6_243 : Cond.fieldLink RX6 243 (TX6 25).1 (TX6 25).2.1 (TX6 25).2.2.1 ∈ wds := wd_3 41 rfl rfl
theorem f_RX6_124 : Cond.fieldLink RX6 124 (TX6 26).1 (TX6 26).2.1 (TX6 26).2.2.1 ∈ wds := wd_3 42 rfl rfl
theorem f_RX6_59 : Cond.fieldLink RX6 59 (TX6 27).1 (TX6 27).2.1 (TX6 27).2.2.1 ∈ wds := wd_3 43 rfl rfl
theorem f_RX6_226 : Cond.fieldLink RX6 226 (TX6 28).1 (TX6 28).2.1 (TX6 28).2.2.1 ∈ wds := wd_3 44 rfl rfl
theorem f_RX6_229 : Cond.fieldLink RX6 229 (TX6 29).1 (TX6 29).2.1 (TX6 29).2.2.1 ∈ wds := wd_3 45 rfl rfl
theorem f_RX6_232 : Cond.fieldLink RX6 232 (TX6 30).1 (TX6 30).2.1 (TX6 30).2.2.1 ∈ wds := wd_3 46 rfl rfl
theorem f_RX6_235 : Cond.fieldLink RX6 235 (TX6 31).1 (TX6 31).2.1 (TX6 31).2.2.1 ∈ wds := wd_3 47 rfl rfl
theorem f_RX6_62 : Cond.fieldLink RX6 62 (TX6 32).1 (TX6 32).2.1 (TX6 32).2.2.1 ∈ wds := wd_3 48 rfl rfl
theorem f_RX6_65 : Cond.fieldLink RX6 65 (TX6 33).1 (TX6 33).2.1 (TX6 33).2.2.1 ∈ wds := wd_3 49 rfl rfl
theorem ct_RX6_82 : Cond.constantLong RX6 82 (255) ∈ wds := wd_3 123 rfl rfl
theorem ct_RX6_194 : Cond.constantLong RX6 194 (9) ∈ wds := wd_4 37 rfl rfl
theorem ct_RX6_205 : Cond.constantLong RX6 205 (4) ∈ wds := wd_4 57 rfl rfl
theorem ct_RX6_207 : Cond.constantLong RX6 207 (1000) ∈ wds := wd_4 58 rfl rfl
theorem ct_RX6_238 : Cond.constantLong RX6 238 (10) ∈ wds := wd_4 103 rfl rfl
theorem ct_RX6_247 : Cond.constantLong RX6 247 (30) ∈ wds := wd_4 115 rfl rfl
theorem ct_RX6_249 : Cond.constantLong RX6 249 (6364136223846793005) ∈ wds := wd_4 116 rfl rfl
theorem ct_RX6_251 : Cond.constantLong RX6 251 (1442695040888963407) ∈ wds := wd_4 117 rfl rfl
theorem ct_RX6_253 : Cond.constantLong RX6 253 (28) ∈ wds := wd_4 118 rfl rfl
theorem ct_RL_81 : Cond.constantLong RL 81 (4294967295) ∈ wds := wd_4 127 rfl rfl
theorem ac_I : Cond.arrayClass .int ∈ wds := wd_1 35 rfl rfl
theorem ac_Z : Cond.arrayClass .boolean ∈ wds := wd_1 153 rfl rfl
abbrev mX5_init : MS := (cX5_init, 2, RX5, none)
theorem cd_X5_init : Cond.code yX5_init cX5_init 2 none ∈ wds := wd_1 15 rfl rfl
theorem hy_X5_init : yX5_init.cls = RX5 ∧ yX5_init.cls ≠ "java/lang/invoke/MethodHandle" ∧ yX5_init.cls ≠ "java/lang/invoke/VarHandle" ∧ (parseMethodDescriptor yX5_init.desc).map (fun d => d.parameters.length) = some 0 := ⟨rfl, by decide +kernel, by decide +kernel, by decide +kernel⟩
abbrev mX3_init : MS := (cX3_init, 1, RX3, none)
theorem cd_X3_init : Cond.code yX3_init cX3_init 1 none ∈ wds := wd_1 23 rfl rfl
theorem hy_X3_init : yX3_init.cls = RX3 ∧ yX3_init.cls ≠ "java/lang/invoke/MethodHandle" ∧ yX3_init.cls ≠ "java/lang/invoke/VarHandle" ∧ (parseMethodDescriptor yX3_init.desc).map (fun d => d.parameters.length) = some 0 := ⟨rfl, by decide +kernel, by decide +kernel, by decide +kernel⟩
abbrev mX2_init : MS := (cX2_init, 1, RX2, none)
theorem cd_X2_init : Cond.code yX2_init cX2_init 1 none ∈ wds := wd_1 40 rfl rfl
theorem hy_X2_init : yX2_init.cls = RX2 ∧ yX2_init.cls ≠ "java/lang/invoke/MethodHandle" ∧ yX2_init.cls ≠ "java/lang/invoke/VarHandle" ∧ (parseMethodDescriptor yX2_init.desc).map (fun d => d.parameters.length) = some 0 := ⟨rfl, by decide +kernel, by decide +kernel, by decide +kernel⟩
abbrev mX1_init : MS := (cX1_init, 2, RX1, none)
theorem cd_X1_init : Cond.code yX1_init cX1_init 2 none ∈ wds := wd_1 87 rfl rfl
theorem hy_X1_init : yX1_init.cls = RX1 ∧ yX1_init.cls ≠ "java/lang/invoke/MethodHandle" ∧ yX1_init.cls ≠ "java/lang/invoke/VarHandle" ∧ (parseMethodDescriptor yX1_init.desc).map (fun d => d.parameters.length) = some 1 := ⟨rfl, by decide +kernel, by decide +kernel, by decide +kernel⟩
abbrev mX0_init : MS := (cX0_init, 3, RX0, none)
theorem cd_X0_init : Cond.code yX0_init cX0_init 3 none ∈ wds := wd_1 120 rfl rfl
theorem hy_X0_init : yX0_init.cls = RX0 ∧ yX0_init.cls ≠ "java/lang/invoke/MethodHandle" ∧ yX0_init.cls ≠ "java/lang/invoke/VarHandle" ∧ (parseMethodDescriptor yX0_init.desc).map (fun d => d.parameters.length) = some 1 := ⟨rfl, by decide +kernel, by decide +kernel, by decide +kernel⟩
abbrev mX4_init : MS := (cX4_init, 1, RX4, none)
theorem cd_X4_init : Cond.code yX4_init cX4_init 1 none ∈ wds := wd_1 140 rfl rfl
theorem hy_X4_init : yX4_init.cls = RX4 ∧ yX4_init.cls ≠ "java/lang/invoke/MethodHandle" ∧ yX4_init.cls ≠ "java/lang/invoke/VarHandle" ∧ (parseMethodDescriptor yX4_init.desc).map (fun d => d.parameters.length) = some 0 := ⟨rfl, by decide +kernel, by decide +kernel, by decide +kernel⟩
abbrev mX5_write : MS := (cX5_write, 2, RX5, (some .int))
theorem cd_X5_write : Cond.code yX5_write cX5_write 2 (some .int) ∈ wds := wd_1 188 rfl rfl
theorem hy_X5_write : yX5_write.cls = RX5 ∧ yX5_write.cls ≠ "java/lang/invoke/MethodHandle" ∧ yX5_write.cls ≠ "java/lang/invoke/VarHandle" ∧ (parseMethodDescriptor yX5_write.desc).map (fun d => d.parameters.length) = some 1 := ⟨rfl, by decide +kernel, by decide +kernel, by decide +kernel⟩
abbrev mX3_append : MS := (cX3_append, 2, RX3, none)
theorem cd_X3_append : Cond.code yX3_append cX3_append 2 none ∈ wds := wd_1 192 rfl rfl
theorem hy_X3_append : yX3_append.cls = RX3 ∧ yX3_append.cls ≠ "java/lang/invoke/MethodHandle" ∧ yX3_append.cls ≠ "java/lang/invoke/VarHandle" ∧ (parseMethodDescriptor yX3_append.desc).map (fun d => d.parameters.length) = some 1 := ⟨rfl, by decide +kernel, by decide +kernel, by decide +kernel⟩
abbrev mX5_wipe : MS := (cX5_wipe, 2, RX5, (some .int))
theorem cd_X5_wipe : Cond.code yX5_wipe cX5_wipe 2 (some .int) ∈ wds := wd_1 196 rfl rfl
theorem hy_X5_wipe : yX5_wipe.cls = RX5 ∧ yX5_wipe.cls ≠ "java/lang/invoke/MethodHandle" ∧ yX5_wipe.cls ≠ "java/lang/invoke/VarHandle" ∧ (parseMethodDescriptor yX5_wipe.desc).map (fun d => d.parameters.length) = some 0 := ⟨rfl, by decide +kernel, by decide +kernel, by decide +kernel⟩
abbrev mX5_fault : MS := (cX5_fault, 1, RX5, (some .int))
theorem cd_X5_fault : Cond.code yX5_fault cX5_fault 1 (some .int) ∈ wds := wd_1 200 rfl rfl
theorem hy_X5_fault : yX5_fault.cls = RX5 ∧ yX5_fault.cls ≠ "java/lang/invoke/MethodHandle" ∧ yX5_fault.cls ≠ "java/lang/invoke/VarHandle" ∧ (parseMethodDescriptor yX5_fault.desc).map (fun d => d.parameters.length) = some 0 := ⟨rfl, by decide +kernel, by decide +kernel, by decide +kernel⟩
abbrev mX3_firstFault : MS := (cX3_firstFault, 6, RX3, (some .int))
theorem cd_X3_firstFault : Cond.code yX3_firstFault cX3_firstFault 6 (some .int) ∈ wds := wd_1 204 rfl rfl
theorem hy_X3_firstFault : yX3_firstFault.cls = RX3 ∧ yX3_firstFault.cls ≠ "java/lang/invoke/MethodHandle" ∧ yX3_firstFault.cls ≠ "java/lang/invoke/VarHandle" ∧ (parseMethodDescriptor yX3_firstFault.desc).map (fun d => d.parameters.length) = some 0 := ⟨rfl, by decide +kernel, by decide +kernel, by decide +kernel⟩
abbrev mX3_faultOfThing : MS := (cX3_faultOfThing, 7, RX3, (some .int))
theorem cd_X3_faultOfThing : Cond.code yX3_faultOfThing cX3_faultOfThing 7 (some .int) ∈ wds := wd_1 208 rfl rfl
theorem hy_X3_faultOfThing : yX3_faultOfThing.cls = RX3 ∧ yX3_faultOfThing.cls ≠ "java/lang/invoke/MethodHandle" ∧ yX3_faultOfThing.cls ≠ "java/lang/invoke/VarHandle" ∧ (parseMethodDescriptor yX3_faultOfThing.desc).map (fun d => d.parameters.length) = some 2 := ⟨rfl, by decide +kernel, by decide +kernel, by decide +kernel⟩
abbrev mX5_country : MS := (cX5_country, 2, RX5, (some .int))
theorem cd_X5_country : Cond.code yX5_country cX5_country 2 (some .int) ∈ wds := wd_1 212 rfl rfl
theorem hy_X5_country : yX5_country.cls = RX5 ∧ yX5_country.cls ≠ "java/lang/invoke/MethodHandle" ∧ yX5_country.cls ≠ "java/lang/invoke/VarHandle" ∧ (parseMethodDescriptor yX5_country.desc).map (fun d => d.parameters.length) = some 0 := ⟨rfl, by decide +kernel, by decide +kernel, by decide +kernel⟩
abbrev mX2_readFrom : MS := (cX2_readFrom, 3, RX2, none)
theorem cd_X2_readFrom : Cond.code yX2_readFrom cX2_readFrom 3 none ∈ wds := wd_1 216 rfl rfl
theorem hy_X2_readFrom : yX2_readFrom.cls = RX2 ∧ yX2_readFrom.cls ≠ "java/lang/invoke/MethodHandle" ∧ yX2_readFrom.cls ≠ "java/lang/invoke/VarHandle" ∧ (parseMethodDescriptor yX2_readFrom.desc).map (fun d => d.parameters.length) = some 1 := ⟨rfl, by decide +kernel, by decide +kernel, by decide +kernel⟩
abbrev mX2_addField : MS := (cX2_addField, 3, RX2, none)
theorem cd_X2_addField : Cond.code yX2_addField cX2_addField 3 none ∈ wds := wd_1 220 rfl rfl
theorem hy_X2_addField : yX2_addField.cls = RX2 ∧ yX2_addField.cls ≠ "java/lang/invoke/MethodHandle" ∧ yX2_addField.cls ≠ "java/lang/invoke/VarHandle" ∧ (parseMethodDescriptor yX2_addField.desc).map (fun d => d.parameters.length) = some 2 := ⟨rfl, by decide +kernel, by decide +kernel, by decide +kernel⟩
abbrev mX3_figure : MS := (cX3_figure, 2, RX3, (some .int))
theorem cd_X3_figure : Cond.code yX3_figure cX3_figure 2 (some .int) ∈ wds := wd_1 224 rfl rfl
theorem hy_X3_figure : yX3_figure.cls = RX3 ∧ yX3_figure.cls ≠ "java/lang/invoke/MethodHandle" ∧ yX3_figure.cls ≠ "java/lang/invoke/VarHandle" ∧ (parseMethodDescriptor yX3_figure.desc).map (fun d => d.parameters.length) = some 1 := ⟨rfl, by decide +kernel, by decide +kernel, by decide +kernel⟩
abbrev mX2_addEater : MS := (cX2_addEater, 3, RX2, none)
theorem cd_X2_addEater : Cond.code yX2_addEater cX2_addEater 3 none ∈ wds := wd_1 228 rfl rfl
theorem hy_X2_addEater : yX2_addEater.cls = RX2 ∧ yX2_addEater.cls ≠ "java/lang/invoke/MethodHandle" ∧ yX2_addEater.cls ≠ "java/lang/invoke/VarHandle" ∧ (parseMethodDescriptor yX2_addEater.desc).map (fun d => d.parameters.length) = some 2 := ⟨rfl, by decide +kernel, by decide +kernel, by decide +kernel⟩
abbrev mX1_beginAnew : MS := (cX1_beginAnew, 2, RX1, none)
theorem cd_X1_beginAnew : Cond.code yX1_beginAnew cX1_beginAnew 2 none ∈ wds := wd_1 232 rfl rfl
theorem hy_X1_beginAnew : yX1_beginAnew.cls = RX1 ∧ yX1_beginAnew.cls ≠ "java/lang/invoke/MethodHandle" ∧ yX1_beginAnew.cls ≠ "java/lang/invoke/VarHandle" ∧ (parseMethodDescriptor yX1_beginAnew.desc).map (fun d => d.parameters.length) = some 0 := ⟨rfl, by decide +kernel, by decide +kernel, by decide +kernel⟩
abbrev mX5_about : MS := (cX5_about, 2, RX5, (some .int))
theorem cd_X5_about : Cond.code yX5_about cX5_about 2 (some .int) ∈ wds := wd_1 236 rfl rfl
theorem hy_X5_about : yX5_about.cls = RX5 ∧ yX5_about.cls ≠ "java/lang/invoke/MethodHandle" ∧ yX5_about.cls ≠ "java/lang/invoke/VarHandle" ∧ (parseMethodDescriptor yX5_about.desc).map (fun d => d.parameters.length) = some 1 := ⟨rfl, by decide +kernel, by decide +kernel, by decide +kernel⟩
abbrev mX1_allLoaves : MS := (cX1_allLoaves, 3, RX1, (some .int))
theorem cd_X1_allLoaves : Cond.code yX1_allLoaves cX1_allLoaves 3 (some .int) ∈ wds := wd_2 0 rfl rfl
theorem hy_X1_allLoaves : yX1_allLoaves.cls = RX1 ∧ yX1_allLoaves.cls ≠ "java/lang/invoke/MethodHandle" ∧ yX1_allLoaves.cls ≠ "java/lang/invoke/VarHandle" ∧ (parseMethodDescriptor yX1_allLoaves.desc).map (fun d => d.parameters.length) = some 0 := ⟨rfl, by decide +kernel, by decide +kernel, by decide +kernel⟩
abbrev mX1_allSeed : MS := (cX1_allSeed, 3, RX1, (some .int))
theorem cd_X1_allSeed : Cond.code yX1_allSeed cX1_allSeed 3 (some .int) ∈ wds := wd_2 4 rfl rfl
theorem hy_X1_allSeed : yX1_allSeed.cls = RX1 ∧ yX1_allSeed.cls ≠ "java/lang/invoke/MethodHandle" ∧ yX1_allSeed.cls ≠ "java/lang/invoke/VarHandle" ∧ (parseMethodDescriptor yX1_allSeed.desc).map (fun d => d.parameters.length) = some 0 := ⟨rfl, by decide +kernel, by decide +kernel, by decide +kernel⟩
abbrev mX1_allDebts : MS := (cX1_allDebts, 3, RX1, (some .int))
theorem cd_X1_allDebts : Cond.code yX1_allDebts cX1_allDebts 3 (some .int) ∈ wds := wd_2 8 rfl rfl
theorem hy_X1_allDebts : yX1_allDebts.cls = RX1 ∧ yX1_allDebts.cls ≠ "java/lang/invoke/MethodHandle" ∧ yX1_allDebts.cls ≠ "java/lang/invoke/VarHandle" ∧ (parseMethodDescriptor yX1_allDebts.desc).map (fun d => d.parameters.length) = some 0 := ⟨rfl, by decide +kernel, by decide +kernel, by decide +kernel⟩
abbrev mX1_debtsOf : MS := (cX1_debtsOf, 4, RX1, (some .int))
theorem cd_X1_debtsOf : Cond.code yX1_debtsOf cX1_debtsOf 4 (some .int) ∈ wds := wd_2 12 rfl rfl
theorem hy_X1_debtsOf : yX1_debtsOf.cls = RX1 ∧ yX1_debtsOf.cls ≠ "java/lang/invoke/MethodHandle" ∧ yX1_debtsOf.cls ≠ "java/lang/invoke/VarHandle" ∧ (parseMethodDescriptor yX1_debtsOf.desc).map (fun d => d.parameters.length) = some 1 := ⟨rfl, by decide +kernel, by decide +kernel, by decide +kernel⟩
abbrev mX1_debt : MS := (cX1_debt, 3, RX1, (some .int))
theorem cd_X1_debt : Cond.code yX1_debt cX1_debt 3 (some .int) ∈ wds := wd_2 16 rfl rfl
theorem hy_X1_debt : yX1_debt.cls = RX1 ∧ yX1_debt.cls ≠ "java/lang/invoke/MethodHandle" ∧ yX1_debt.cls ≠ "java/lang/invoke/VarHandle" ∧ (parseMethodDescriptor yX1_debt.desc).map (fun d => d.parameters.length) = some 2 := ⟨rfl, by decide +kernel, by decide +kernel, by decide +kernel⟩
abbrev mX1_sownFields : MS := (cX1_sownFields, 3, RX1, (some .int))
theorem cd_X1_sownFields : Cond.code yX1_sownFields cX1_sownFields 3 (some .int) ∈ wds := wd_2 20 rfl rfl
theorem hy_X1_sownFields : yX1_sownFields.cls = RX1 ∧ yX1_sownFields.cls ≠ "java/lang/invoke/MethodHandle" ∧ yX1_sownFields.cls ≠ "java/lang/invoke/VarHandle" ∧ (parseMethodDescriptor yX1_sownFields.desc).map (fun d => d.parameters.length) = some 0 := ⟨rfl, by decide +kernel, by decide +kernel, by decide +kernel⟩
abbrev mX1_isSown : MS := (cX1_isSown, 2, RX1, (some .boolean))
theorem cd_X1_isSown : Cond.code yX1_isSown cX1_isSown 2 (some .boolean) ∈ wds := wd_2 24 rfl rfl
theorem hy_X1_isSown : yX1_isSown.cls = RX1 ∧ yX1_isSown.cls ≠ "java/lang/invoke/MethodHandle" ∧ yX1_isSown.cls ≠ "java/lang/invoke/VarHandle" ∧ (parseMethodDescriptor yX1_isSown.desc).map (fun d => d.parameters.length) = some 1 := ⟨rfl, by decide +kernel, by decide +kernel, by decide +kernel⟩
abbrev mX2_allEaters : MS := (cX2_allEaters, 1, RX2, (some .int))
theorem cd_X2_allEaters : Cond.code yX2_allEaters cX2_allEaters 1 (some .int) ∈ wds := wd_2 28 rfl rfl
theorem hy_X2_allEaters : yX2_allEaters.cls = RX2 ∧ yX2_allEaters.cls ≠ "java/lang/invoke/MethodHandle" ∧ yX2_allEaters.cls ≠ "java/lang/invoke/VarHandle" ∧ (parseMethodDescriptor yX2_allEaters.desc).map (fun d => d.parameters.length) = some 0 := ⟨rfl, by decide +kernel, by decide +kernel, by decide +kernel⟩
abbrev mX5_sownIfCome : MS := (cX5_sownIfCome, 2, RX5, (some .int))
theorem cd_X5_sownIfCome : Cond.code yX5_sownIfCome cX5_sownIfCome 2 (some .int) ∈ wds := wd_2 32 rfl rfl
theorem hy_X5_sownIfCome : yX5_sownIfCome.cls = RX5 ∧ yX5_sownIfCome.cls ≠ "java/lang/invoke/MethodHandle" ∧ yX5_sownIfCome.cls ≠ "java/lang/invoke/VarHandle" ∧ (parseMethodDescriptor yX5_sownIfCome.desc).map (fun d => d.parameters.length) = some 1 := ⟨rfl, by decide +kernel, by decide +kernel, by decide +kernel⟩
abbrev mX1_copyFrom : MS := (cX1_copyFrom, 2, RX1, none)
theorem cd_X1_copyFrom : Cond.code yX1_copyFrom cX1_copyFrom 2 none ∈ wds := wd_2 36 rfl rfl
theorem hy_X1_copyFrom : yX1_copyFrom.cls = RX1 ∧ yX1_copyFrom.cls ≠ "java/lang/invoke/MethodHandle" ∧ yX1_copyFrom.cls ≠ "java/lang/invoke/VarHandle" ∧ (parseMethodDescriptor yX1_copyFrom.desc).map (fun d => d.parameters.length) = some 1 := ⟨rfl, by decide +kernel, by decide +kernel, by decide +kernel⟩
abbrev mX1_callOut : MS := (cX1_callOut, 3, RX1, none)
theorem cd_X1_callOut : Cond.code yX1_callOut cX1_callOut 3 none ∈ wds := wd_2 43 rfl rfl
theorem hy_X1_callOut : yX1_callOut.cls = RX1 ∧ yX1_callOut.cls ≠ "java/lang/invoke/MethodHandle" ∧ yX1_callOut.cls ≠ "java/lang/invoke/VarHandle" ∧ (parseMethodDescriptor yX1_callOut.desc).map (fun d => d.parameters.length) = some 1 := ⟨rfl, by decide +kernel, by decide +kernel, by decide +kernel⟩
abbrev mX1_sendOut : MS := (cX1_sendOut, 7, RX1, none)
theorem cd_X1_sendOut : Cond.code yX1_sendOut cX1_sendOut 7 none ∈ wds := wd_2 47 rfl rfl
theorem hy_X1_sendOut : yX1_sendOut.cls = RX1 ∧ yX1_sendOut.cls ≠ "java/lang/invoke/MethodHandle" ∧ yX1_sendOut.cls ≠ "java/lang/invoke/VarHandle" ∧ (parseMethodDescriptor yX1_sendOut.desc).map (fun d => d.parameters.length) = some 2 := ⟨rfl, by decide +kernel, by decide +kernel, by decide +kernel⟩
abbrev mX1_nearestOwed : MS := (cX1_nearestOwed, 7, RX1, (some .int))
theorem cd_X1_nearestOwed : Cond.code yX1_nearestOwed cX1_nearestOwed 7 (some .int) ∈ wds := wd_2 51 rfl rfl
theorem hy_X1_nearestOwed : yX1_nearestOwed.cls = RX1 ∧ yX1_nearestOwed.cls ≠ "java/lang/invoke/MethodHandle" ∧ yX1_nearestOwed.cls ≠ "java/lang/invoke/VarHandle" ∧ (parseMethodDescriptor yX1_nearestOwed.desc).map (fun d => d.parameters.length) = some 2 := ⟨rfl, by decide +kernel, by decide +kernel, by decide +kernel⟩
abbrev mX1_bringSeed : MS := (cX1_bringSeed, 3, RX1, none)
theorem cd_X1_bringSeed : Cond.code yX1_bringSeed cX1_bringSeed 3 none ∈ wds := wd_2 58 rfl rfl
theorem hy_X1_bringSeed : yX1_bringSeed.cls = RX1 ∧ yX1_bringSeed.cls ≠ "java/lang/invoke/MethodHandle" ∧ yX1_bringSeed.cls ≠ "java/lang/invoke/VarHandle" ∧ (parseMethodDescriptor yX1_bringSeed.desc).map (fun d => d.parameters.length) = some 2 := ⟨rfl, by decide +kernel, by decide +kernel, by decide +kernel⟩
abbrev mX5_field : MS := (cX5_field, 3, RX5, (some .int))
theorem cd_X5_field : Cond.code yX5_field cX5_field 3 (some .int) ∈ wds := wd_2 65 rfl rfl
theorem hy_X5_field : yX5_field.cls = RX5 ∧ yX5_field.cls ≠ "java/lang/invoke/MethodHandle" ∧ yX5_field.cls ≠ "java/lang/invoke/VarHandle" ∧ (parseMethodDescriptor yX5_field.desc).map (fun d => d.parameters.length) = some 2 := ⟨rfl, by decide +kernel, by decide +kernel, by decide +kernel⟩
abbrev mX2_hasField : MS := (cX2_hasField, 2, RX2, (some .boolean))
theorem cd_X2_hasField : Cond.code yX2_hasField cX2_hasField 2 (some .boolean) ∈ wds := wd_2 69 rfl rfl
theorem hy_X2_hasField : yX2_hasField.cls = RX2 ∧ yX2_hasField.cls ≠ "java/lang/invoke/MethodHandle" ∧ yX2_hasField.cls ≠ "java/lang/invoke/VarHandle" ∧ (parseMethodDescriptor yX2_hasField.desc).map (fun d => d.parameters.length) = some 1 := ⟨rfl, by decide +kernel, by decide +kernel, by decide +kernel⟩
abbrev mX1_debtorsOf : MS := (cX1_debtorsOf, 4, RX1, (some .int))
theorem cd_X1_debtorsOf : Cond.code yX1_debtorsOf cX1_debtorsOf 4 (some .int) ∈ wds := wd_2 73 rfl rfl
theorem hy_X1_debtorsOf : yX1_debtorsOf.cls = RX1 ∧ yX1_debtorsOf.cls ≠ "java/lang/invoke/MethodHandle" ∧ yX1_debtorsOf.cls ≠ "java/lang/invoke/VarHandle" ∧ (parseMethodDescriptor yX1_debtorsOf.desc).map (fun d => d.parameters.length) = some 1 := ⟨rfl, by decide +kernel, by decide +kernel, by decide +kernel⟩
abbrev mX5_eater : MS := (cX5_eater, 3, RX5, (some .int))
theorem cd_X5_eater : Cond.code yX5_eater cX5_eater 3 (some .int) ∈ wds := wd_2 77 rfl rfl
theorem hy_X5_eater : yX5_eater.cls = RX5 ∧ yX5_eater.cls ≠ "java/lang/invoke/MethodHandle" ∧ yX5_eater.cls ≠ "java/lang/invoke/VarHandle" ∧ (parseMethodDescriptor yX5_eater.desc).map (fun d => d.parameters.length) = some 2 := ⟨rfl, by decide +kernel, by decide +kernel, by decide +kernel⟩
abbrev mX2_hasEater : MS := (cX2_hasEater, 2, RX2, (some .boolean))
theorem cd_X2_hasEater : Cond.code yX2_hasEater cX2_hasEater 2 (some .boolean) ∈ wds := wd_2 81 rfl rfl
theorem hy_X2_hasEater : yX2_hasEater.cls = RX2 ∧ yX2_hasEater.cls ≠ "java/lang/invoke/MethodHandle" ∧ yX2_hasEater.cls ≠ "java/lang/invoke/VarHandle" ∧ (parseMethodDescriptor yX2_hasEater.desc).map (fun d => d.parameters.length) = some 1 := ⟨rfl, by decide +kernel, by decide +kernel, by decide +kernel⟩
abbrev mX5_owes : MS := (cX5_owes, 3, RX5, (some .int))
theorem cd_X5_owes : Cond.code yX5_owes cX5_owes 3 (some .int) ∈ wds := wd_2 86 rfl rfl
theorem hy_X5_owes : yX5_owes.cls = RX5 ∧ yX5_owes.cls ≠ "java/lang/invoke/MethodHandle" ∧ yX5_owes.cls ≠ "java/lang/invoke/VarHandle" ∧ (parseMethodDescriptor yX5_owes.desc).map (fun d => d.parameters.length) = some 2 := ⟨rfl, by decide +kernel, by decide +kernel, by decide +kernel⟩
abbrev mX5_eat : MS := (cX5_eat, 3, RX5, (some .int))
theorem cd_X5_eat : Cond.code yX5_eat cX5_eat 3 (some .int) ∈ wds := wd_2 91 rfl rfl
theorem hy_X5_eat : yX5_eat.cls = RX5 ∧ yX5_eat.cls ≠ "java/lang/invoke/MethodHandle" ∧ yX5_eat.cls ≠ "java/lang/invoke/VarHandle" ∧ (parseMethodDescriptor yX5_eat.desc).map (fun d => d.parameters.length) = some 2 := ⟨rfl, by decide +kernel, by decide +kernel, by decide +kernel⟩
abbrev mX1_canTake : MS := (cX1_canTake, 4, RX1, (some .boolean))
theorem cd_X1_canTake : Cond.code yX1_canTake cX1_canTake 4 (some .boolean) ∈ wds := wd_2 95 rfl rfl
theorem hy_X1_canTake : yX1_canTake.cls = RX1 ∧ yX1_canTake.cls ≠ "java/lang/invoke/MethodHandle" ∧ yX1_canTake.cls ≠ "java/lang/invoke/VarHandle" ∧ (parseMethodDescriptor yX1_canTake.desc).map (fun d => d.parameters.length) = some 2 := ⟨rfl, by decide +kernel, by decide +kernel, by decide +kernel⟩
abbrev mX2_portionOf : MS := (cX2_portionOf, 2, RX2, (some .int))
theorem cd_X2_portionOf : Cond.code yX2_portionOf cX2_portionOf 2 (some .int) ∈ wds := wd_2 99 rfl rfl
theorem hy_X2_portionOf : yX2_portionOf.cls = RX2 ∧ yX2_portionOf.cls ≠ "java/lang/invoke/MethodHandle" ∧ yX2_portionOf.cls ≠ "java/lang/invoke/VarHandle" ∧ (parseMethodDescriptor yX2_portionOf.desc).map (fun d => d.parameters.length) = some 1 := ⟨rfl, by decide +kernel, by decide +kernel, by decide +kernel⟩
abbrev mX0_remember : MS := (cX0_remember, 2, RX0, none)
theorem cd_X0_remember : Cond.code yX0_remember cX0_remember 2 none ∈ wds := wd_2 103 rfl rfl
theorem hy_X0_remember : yX0_remember.cls = RX0 ∧ yX0_remember.cls ≠ "java/lang/invoke/MethodHandle" ∧ yX0_remember.cls ≠ "java/lang/invoke/VarHandle" ∧ (parseMethodDescriptor yX0_remember.desc).map (fun d => d.parameters.length) = some 1 := ⟨rfl, by decide +kernel, by decide +kernel, by decide +kernel⟩
abbrev mX1_takeLoaves : MS := (cX1_takeLoaves, 4, RX1, none)
theorem cd_X1_takeLoaves : Cond.code yX1_takeLoaves cX1_takeLoaves 4 none ∈ wds := wd_2 108 rfl rfl
theorem hy_X1_takeLoaves : yX1_takeLoaves.cls = RX1 ∧ yX1_takeLoaves.cls ≠ "java/lang/invoke/MethodHandle" ∧ yX1_takeLoaves.cls ≠ "java/lang/invoke/VarHandle" ∧ (parseMethodDescriptor yX1_takeLoaves.desc).map (fun d => d.parameters.length) = some 2 := ⟨rfl, by decide +kernel, by decide +kernel, by decide +kernel⟩
abbrev mX5_cake : MS := (cX5_cake, 4, RX5, (some .int))
theorem cd_X5_cake : Cond.code yX5_cake cX5_cake 4 (some .int) ∈ wds := wd_2 112 rfl rfl
theorem hy_X5_cake : yX5_cake.cls = RX5 ∧ yX5_cake.cls ≠ "java/lang/invoke/MethodHandle" ∧ yX5_cake.cls ≠ "java/lang/invoke/VarHandle" ∧ (parseMethodDescriptor yX5_cake.desc).map (fun d => d.parameters.length) = some 3 := ⟨rfl, by decide +kernel, by decide +kernel, by decide +kernel⟩
abbrev mX5_march : MS := (cX5_march, 1, RX5, (some .int))
theorem cd_X5_march : Cond.code yX5_march cX5_march 1 (some .int) ∈ wds := wd_2 116 rfl rfl
theorem hy_X5_march : yX5_march.cls = RX5 ∧ yX5_march.cls ≠ "java/lang/invoke/MethodHandle" ∧ yX5_march.cls ≠ "java/lang/invoke/VarHandle" ∧ (parseMethodDescriptor yX5_march.desc).map (fun d => d.parameters.length) = some 0 := ⟨rfl, by decide +kernel, by decide +kernel, by decide +kernel⟩
abbrev mX5_harvest : MS := (cX5_harvest, 1, RX5, (some .int))
theorem cd_X5_harvest : Cond.code yX5_harvest cX5_harvest 1 (some .int) ∈ wds := wd_2 120 rfl rfl
theorem hy_X5_harvest : yX5_harvest.cls = RX5 ∧ yX5_harvest.cls ≠ "java/lang/invoke/MethodHandle" ∧ yX5_harvest.cls ≠ "java/lang/invoke/VarHandle" ∧ (parseMethodDescriptor yX5_harvest.desc).map (fun d => d.parameters.length) = some 0 := ⟨rfl, by decide +kernel, by decide +kernel, by decide +kernel⟩
abbrev mX1_reap : MS := (cX1_reap, 2, RX1, none)
theorem cd_X1_reap : Cond.code yX1_reap cX1_reap 2 none ∈ wds := wd_2 124 rfl rfl
theorem hy_X1_reap : yX1_reap.cls = RX1 ∧ yX1_reap.cls ≠ "java/lang/invoke/MethodHandle" ∧ yX1_reap.cls ≠ "java/lang/invoke/VarHandle" ∧ (parseMethodDescriptor yX1_reap.desc).map (fun d => d.parameters.length) = some 0 := ⟨rfl, by decide +kernel, by decide +kernel, by decide +kernel⟩
abbrev mX5_undo : MS := (cX5_undo, 1, RX5, (some .int))
theorem cd_X5_undo : Cond.code yX5_undo cX5_undo 1 (some .int) ∈ wds := wd_2 128 rfl rfl
theorem hy_X5_undo : yX5_undo.cls = RX5 ∧ yX5_undo.cls ≠ "java/lang/invoke/MethodHandle" ∧ yX5_undo.cls ≠ "java/lang/invoke/VarHandle" ∧ (parseMethodDescriptor yX5_undo.desc).map (fun d => d.parameters.length) = some 0 := ⟨rfl, by decide +kernel, by decide +kernel, by decide +kernel⟩
abbrev mX0_takeBackInto : MS := (cX0_takeBackInto, 2, RX0, none)
theorem cd_X0_takeBackInto : Cond.code yX0_takeBackInto cX0_takeBackInto 2 none ∈ wds := wd_2 132 rfl rfl
theorem hy_X0_takeBackInto : yX0_takeBackInto.cls = RX0 ∧ yX0_takeBackInto.cls ≠ "java/lang/invoke/MethodHandle" ∧ yX0_takeBackInto.cls ≠ "java/lang/invoke/VarHandle" ∧ (parseMethodDescriptor yX0_takeBackInto.desc).map (fun d => d.parameters.length) = some 1 := ⟨rfl, by decide +kernel, by decide +kernel, by decide +kernel⟩
abbrev mX5_ahead : MS := (cX5_ahead, 4, RX5, (some .int))
theorem cd_X5_ahead : Cond.code yX5_ahead cX5_ahead 4 (some .int) ∈ wds := wd_2 136 rfl rfl
theorem hy_X5_ahead : yX5_ahead.cls = RX5 ∧ yX5_ahead.cls ≠ "java/lang/invoke/MethodHandle" ∧ yX5_ahead.cls ≠ "java/lang/invoke/VarHandle" ∧ (parseMethodDescriptor yX5_ahead.desc).map (fun d => d.parameters.length) = some 2 := ⟨rfl, by decide +kernel, by decide +kernel, by decide +kernel⟩
abbrev mX5_wants : MS := (cX5_wants, 5, RX5, (some .int))
theorem cd_X5_wants : Cond.code yX5_wants cX5_wants 5 (some .int) ∈ wds := wd_2 140 rfl rfl
theorem hy_X5_wants : yX5_wants.cls = RX5 ∧ yX5_wants.cls ≠ "java/lang/invoke/MethodHandle" ∧ yX5_wants.cls ≠ "java/lang/invoke/VarHandle" ∧ (parseMethodDescriptor yX5_wants.desc).map (fun d => d.parameters.length) = some 1 := ⟨rfl, by decide +kernel, by decide +kernel, by decide +kernel⟩
abbrev mJ6_bitCount_0f7a4 : MS := (cJ6_bitCount_0f7a4, 1, RJ6, (some .int))
theorem cd_J6_bitCount_0f7a4 : Cond.code yJ6_bitCount_0f7a4 cJ6_bitCount_0f7a4 1 (some .int) ∈ wds := wd_2 143 rfl rfl
theorem hy_J6_bitCount_0f7a4 : yJ6_bitCount_0f7a4.cls = RJ6 ∧ yJ6_bitCount_0f7a4.cls ≠ "java/lang/invoke/MethodHandle" ∧ yJ6_bitCount_0f7a4.cls ≠ "java/lang/invoke/VarHandle" ∧ (parseMethodDescriptor yJ6_bitCount_0f7a4.desc).map (fun d => d.parameters.length) = some 1 := ⟨rfl, by decide +kernel, by decide +kernel, by decide +kernel⟩
abbrev mX5_isSownIfFed : MS := (cX5_isSownIfFed, 4, RX5, (some .boolean))
theorem cd_X5_isSownIfFed : Cond.code yX5_isSownIfFed cX5_isSownIfFed 4 (some .boolean) ∈ wds := wd_2 150 rfl rfl
theorem hy_X5_isSownIfFed : yX5_isSownIfFed.cls = RX5 ∧ yX5_isSownIfFed.cls ≠ "java/lang/invoke/MethodHandle" ∧ yX5_isSownIfFed.cls ≠ "java/lang/invoke/VarHandle" ∧ (parseMethodDescriptor yX5_isSownIfFed.desc).map (fun d => d.parameters.length) = some 2 := ⟨rfl, by decide +kernel, by decide +kernel, by decide +kernel⟩
abbrev mX5_tryToTake : MS := (cX5_tryToTake, 3, RX5, (some .boolean))
theorem cd_X5_tryToTake : Cond.code yX5_tryToTake cX5_tryToTake 3 (some .boolean) ∈ wds := wd_2 154 rfl rfl
theorem hy_X5_tryToTake : yX5_tryToTake.cls = RX5 ∧ yX5_tryToTake.cls ≠ "java/lang/invoke/MethodHandle" ∧ yX5_tryToTake.cls ≠ "java/lang/invoke/VarHandle" ∧ (parseMethodDescriptor yX5_tryToTake.desc).map (fun d => d.parameters.length) = some 2 := ⟨rfl, by decide +kernel, by decide +kernel, by decide +kernel⟩
abbrev mX5_rid : MS := (cX5_rid, 2, RX5, (some .int))
theorem cd_X5_rid : Cond.code yX5_rid cX5_rid 2 (some .int) ∈ wds := wd_2 159 rfl rfl
theorem hy_X5_rid : yX5_rid.cls = RX5 ∧ yX5_rid.cls ≠ "java/lang/invoke/MethodHandle" ∧ yX5_rid.cls ≠ "java/lang/invoke/VarHandle" ∧ (parseMethodDescriptor yX5_rid.desc).map (fun d => d.parameters.length) = some 1 := ⟨rfl, by decide +kernel, by decide +kernel, by decide +kernel⟩
abbrev mX5_judge : MS := (cX5_judge, 6, RX5, (some .int))
theorem cd_X5_judge : Cond.code yX5_judge cX5_judge 6 (some .int) ∈ wds := wd_2 164 rfl rfl
theorem hy_X5_judge : yX5_judge.cls = RX5 ∧ yX5_judge.cls ≠ "java/lang/invoke/MethodHandle" ∧ yX5_judge.cls ≠ "java/lang/invoke/VarHandle" ∧ (parseMethodDescriptor yX5_judge.desc).map (fun d => d.parameters.length) = some 2 := ⟨rfl, by decide +kernel, by decide +kernel, by decide +kernel⟩
abbrev mX5_withoutLast : MS := (cX5_withoutLast, 6, RX5, (some .long))
theorem cd_X5_withoutLast : Cond.code yX5_withoutLast cX5_withoutLast 6 (some .long) ∈ wds := wd_2 167 rfl rfl
theorem hy_X5_withoutLast : yX5_withoutLast.cls = RX5 ∧ yX5_withoutLast.cls ≠ "java/lang/invoke/MethodHandle" ∧ yX5_withoutLast.cls ≠ "java/lang/invoke/VarHandle" ∧ (parseMethodDescriptor yX5_withoutLast.desc).map (fun d => d.parameters.length) = some 2 := ⟨rfl, by decide +kernel, by decide +kernel, by decide +kernel⟩
abbrev mX5_isSo : MS := (cX5_isSo, 4, RX5, (some .boolean))
theorem cd_X5_isSo : Cond.code yX5_isSo cX5_isSo 4 (some .boolean) ∈ wds := wd_2 172 rfl rfl
theorem hy_X5_isSo : yX5_isSo.cls = RX5 ∧ yX5_isSo.cls ≠ "java/lang/invoke/MethodHandle" ∧ yX5_isSo.cls ≠ "java/lang/invoke/VarHandle" ∧ (parseMethodDescriptor yX5_isSo.desc).map (fun d => d.parameters.length) = some 3 := ⟨rfl, by decide +kernel, by decide +kernel, by decide +kernel⟩
abbrev mX5_share : MS := (cX5_share, 8, RX5, (some .int))
theorem cd_X5_share : Cond.code yX5_share cX5_share 8 (some .int) ∈ wds := wd_2 176 rfl rfl
theorem hy_X5_share : yX5_share.cls = RX5 ∧ yX5_share.cls ≠ "java/lang/invoke/MethodHandle" ∧ yX5_share.cls ≠ "java/lang/invoke/VarHandle" ∧ (parseMethodDescriptor yX5_share.desc).map (fun d => d.parameters.length) = some 2 := ⟨rfl, by decide +kernel, by decide +kernel, by decide +kernel⟩
abbrev mX5_ordersOf : MS := (cX5_ordersOf, 4, RX5, (some .long))
theorem cd_X5_ordersOf : Cond.code yX5_ordersOf cX5_ordersOf 4 (some .long) ∈ wds := wd_2 179 rfl rfl
theorem hy_X5_ordersOf : yX5_ordersOf.cls = RX5 ∧ yX5_ordersOf.cls ≠ "java/lang/invoke/MethodHandle" ∧ yX5_ordersOf.cls ≠ "java/lang/invoke/VarHandle" ∧ (parseMethodDescriptor yX5_ordersOf.desc).map (fun d => d.parameters.length) = some 1 := ⟨rfl, by decide +kernel, by decide +kernel, by decide +kernel⟩
abbrev mX5_partOfFraction : MS := (cX5_partOfFraction, 12, RX5, (some .int))
theorem cd_X5_partOfFraction : Cond.code yX5_partOfFraction cX5_partOfFraction 12 (some .int) ∈ wds := wd_2 182 rfl rfl
theorem hy_X5_partOfFraction : yX5_partOfFraction.cls = RX5 ∧ yX5_partOfFraction.cls ≠ "java/lang/invoke/MethodHandle" ∧ yX5_partOfFraction.cls ≠ "java/lang/invoke/VarHandle" ∧ (parseMethodDescriptor yX5_partOfFraction.desc).map (fun d => d.parameters.length) = some 3 := ⟨rfl, by decide +kernel, by decide +kernel, by decide +kernel⟩
abbrev mX5_came : MS := (cX5_came, 3, RX5, (some .int))
theorem cd_X5_came : Cond.code yX5_came cX5_came 3 (some .int) ∈ wds := wd_2 189 rfl rfl
theorem hy_X5_came : yX5_came.cls = RX5 ∧ yX5_came.cls ≠ "java/lang/invoke/MethodHandle" ∧ yX5_came.cls ≠ "java/lang/invoke/VarHandle" ∧ (parseMethodDescriptor yX5_came.desc).map (fun d => d.parameters.length) = some 2 := ⟨rfl, by decide +kernel, by decide +kernel, by decide +kernel⟩
abbrev mX4_add : MS := (cX4_add, 3, RX4, none)
theorem cd_X4_add : Cond.code yX4_add cX4_add 3 none ∈ wds := wd_2 193 rfl rfl
theorem hy_X4_add : yX4_add.cls = RX4 ∧ yX4_add.cls ≠ "java/lang/invoke/MethodHandle" ∧ yX4_add.cls ≠ "java/lang/invoke/VarHandle" ∧ (parseMethodDescriptor yX4_add.desc).map (fun d => d.parameters.length) = some 2 := ⟨rfl, by decide +kernel, by decide +kernel, by decide +kernel⟩
abbrev mX5_forget : MS := (cX5_forget, 2, RX5, (some .int))
theorem cd_X5_forget : Cond.code yX5_forget cX5_forget 2 (some .int) ∈ wds := wd_2 197 rfl rfl
theorem hy_X5_forget : yX5_forget.cls = RX5 ∧ yX5_forget.cls ≠ "java/lang/invoke/MethodHandle" ∧ yX5_forget.cls ≠ "java/lang/invoke/VarHandle" ∧ (parseMethodDescriptor yX5_forget.desc).map (fun d => d.parameters.length) = some 0 := ⟨rfl, by decide +kernel, by decide +kernel, by decide +kernel⟩
abbrev mX5_strangers : MS := (cX5_strangers, 5, RX5, (some .int))
theorem cd_X5_strangers : Cond.code yX5_strangers cX5_strangers 5 (some .int) ∈ wds := wd_2 201 rfl rfl
theorem hy_X5_strangers : yX5_strangers.cls = RX5 ∧ yX5_strangers.cls ≠ "java/lang/invoke/MethodHandle" ∧ yX5_strangers.cls ≠ "java/lang/invoke/VarHandle" ∧ (parseMethodDescriptor yX5_strangers.desc).map (fun d => d.parameters.length) = some 1 := ⟨rfl, by decide +kernel, by decide +kernel, by decide +kernel⟩
abbrev mX4_allowFor : MS := (cX4_allowFor, 5, RX4, (some .boolean))
theorem cd_X4_allowFor : Cond.code yX4_allowFor cX4_allowFor 5 (some .boolean) ∈ wds := wd_2 205 rfl rfl
theorem hy_X4_allowFor : yX4_allowFor.cls = RX4 ∧ yX4_allowFor.cls ≠ "java/lang/invoke/MethodHandle" ∧ yX4_allowFor.cls ≠ "java/lang/invoke/VarHandle" ∧ (parseMethodDescriptor yX4_allowFor.desc).map (fun d => d.parameters.length) = some 2 := ⟨rfl, by decide +kernel, by decide +kernel, by decide +kernel⟩
abbrev mX5_rests : MS := (cX5_rests, 8, RX5, (some .int))
theorem cd_X5_rests : Cond.code yX5_rests cX5_rests 8 (some .int) ∈ wds := wd_2 210 rfl rfl
theorem hy_X5_rests : yX5_rests.cls = RX5 ∧ yX5_rests.cls ≠ "java/lang/invoke/MethodHandle" ∧ yX5_rests.cls ≠ "java/lang/invoke/VarHandle" ∧ (parseMethodDescriptor yX5_rests.desc).map (fun d => d.parameters.length) = some 4 := ⟨rfl, by decide +kernel, by decide +kernel, by decide +kernel⟩
abbrev mX5_playPair : MS := (cX5_playPair, 8, RX5, none)
theorem cd_X5_playPair : Cond.code yX5_playPair cX5_playPair 8 none ∈ wds := wd_2 214 rfl rfl
theorem hy_X5_playPair : yX5_playPair.cls = RX5 ∧ yX5_playPair.cls ≠ "java/lang/invoke/MethodHandle" ∧ yX5_playPair.cls ≠ "java/lang/invoke/VarHandle" ∧ (parseMethodDescriptor yX5_playPair.desc).map (fun d => d.parameters.length) = some 4 := ⟨rfl, by decide +kernel, by decide +kernel, by decide +kernel⟩
abbrev mX5_isAtRest : MS := (cX5_isAtRest, 4, RX5, (some .boolean))
theorem cd_X5_isAtRest : Cond.code yX5_isAtRest cX5_isAtRest 4 (some .boolean) ∈ wds := wd_2 218 rfl rfl
theorem hy_X5_isAtRest : yX5_isAtRest.cls = RX5 ∧ yX5_isAtRest.cls ≠ "java/lang/invoke/MethodHandle" ∧ yX5_isAtRest.cls ≠ "java/lang/invoke/VarHandle" ∧ (parseMethodDescriptor yX5_isAtRest.desc).map (fun d => d.parameters.length) = some 1 := ⟨rfl, by decide +kernel, by decide +kernel, by decide +kernel⟩
abbrev mX5_home : MS := (cX5_home, 8, RX5, (some .int))
theorem cd_X5_home : Cond.code yX5_home cX5_home 8 (some .int) ∈ wds := wd_2 222 rfl rfl
theorem hy_X5_home : yX5_home.cls = RX5 ∧ yX5_home.cls ≠ "java/lang/invoke/MethodHandle" ∧ yX5_home.cls ≠ "java/lang/invoke/VarHandle" ∧ (parseMethodDescriptor yX5_home.desc).map (fun d => d.parameters.length) = some 3 := ⟨rfl, by decide +kernel, by decide +kernel, by decide +kernel⟩
abbrev mX5_power : MS := (cX5_power, 6, RX5, (some .long))
theorem cd_X5_power : Cond.code yX5_power cX5_power 6 (some .long) ∈ wds := wd_2 225 rfl rfl
theorem hy_X5_power : yX5_power.cls = RX5 ∧ yX5_power.cls ≠ "java/lang/invoke/MethodHandle" ∧ yX5_power.cls ≠ "java/lang/invoke/VarHandle" ∧ (parseMethodDescriptor yX5_power.desc).map (fun d => d.parameters.length) = some 2 := ⟨rfl, by decide +kernel, by decide +kernel, by decide +kernel⟩
abbrev mX5_seed : MS := (cX5_seed, 5, RX5, (some .long))
theorem cd_X5_seed : Cond.code yX5_seed cX5_seed 5 (some .long) ∈ wds := wd_2 230 rfl rfl
theorem hy_X5_seed : yX5_seed.cls = RX5 ∧ yX5_seed.cls ≠ "java/lang/invoke/MethodHandle" ∧ yX5_seed.cls ≠ "java/lang/invoke/VarHandle" ∧ (parseMethodDescriptor yX5_seed.desc).map (fun d => d.parameters.length) = some 1 := ⟨rfl, by decide +kernel, by decide +kernel, by decide +kernel⟩
abbrev mX5_years : MS := (cX5_years, 4, RX5, (some .int))
theorem cd_X5_years : Cond.code yX5_years cX5_years 4 (some .int) ∈ wds := wd_2 234 rfl rfl
theorem hy_X5_years : yX5_years.cls = RX5 ∧ yX5_years.cls ≠ "java/lang/invoke/MethodHandle" ∧ yX5_years.cls ≠ "java/lang/invoke/VarHandle" ∧ (parseMethodDescriptor yX5_years.desc).map (fun d => d.parameters.length) = some 1 := ⟨rfl, by decide +kernel, by decide +kernel, by decide +kernel⟩
abbrev mX5_doByLot : MS := (cX5_doByLot, 2, RX5, none)
theorem cd_X5_doByLot : Cond.code yX5_doByLot cX5_doByLot 2 none ∈ wds := wd_3 1 rfl rfl
theorem hy_X5_doByLot : yX5_doByLot.cls = RX5 ∧ yX5_doByLot.cls ≠ "java/lang/invoke/MethodHandle" ∧ yX5_doByLot.cls ≠ "java/lang/invoke/VarHandle" ∧ (parseMethodDescriptor yX5_doByLot.desc).map (fun d => d.parameters.length) = some 1 := ⟨rfl, by decide +kernel, by decide +kernel, by decide +kernel⟩
abbrev mX5_keep : MS := (cX5_keep, 2, RX5, (some .int))
theorem cd_X5_keep : Cond.code yX5_keep cX5_keep 2 (some .int) ∈ wds := wd_3 5 rfl rfl
theorem hy_X5_keep : yX5_keep.cls = RX5 ∧ yX5_keep.cls ≠ "java/lang/invoke/MethodHandle" ∧ yX5_keep.cls ≠ "java/lang/invoke/VarHandle" ∧ (parseMethodDescriptor yX5_keep.desc).map (fun d => d.parameters.length) = some 1 := ⟨rfl, by decide +kernel, by decide +kernel, by decide +kernel⟩
abbrev mX5_again : MS := (cX5_again, 2, RX5, (some .int))
theorem cd_X5_again : Cond.code yX5_again cX5_again 2 (some .int) ∈ wds := wd_3 9 rfl rfl
theorem hy_X5_again : yX5_again.cls = RX5 ∧ yX5_again.cls ≠ "java/lang/invoke/MethodHandle" ∧ yX5_again.cls ≠ "java/lang/invoke/VarHandle" ∧ (parseMethodDescriptor yX5_again.desc).map (fun d => d.parameters.length) = some 1 := ⟨rfl, by decide +kernel, by decide +kernel, by decide +kernel⟩
abbrev mX6_init : MS := (cX6_init, 1, RX6, none)
theorem cd_X6_init : Cond.code yX6_init cX6_init 1 none ∈ wds := wd_3 14 rfl rfl
theorem hy_X6_init : yX6_init.cls = RX6 ∧ yX6_init.cls ≠ "java/lang/invoke/MethodHandle" ∧ yX6_init.cls ≠ "java/lang/invoke/VarHandle" ∧ (parseMethodDescriptor yX6_init.desc).map (fun d => d.parameters.length) = some 0 := ⟨rfl, by decide +kernel, by decide +kernel, by decide +kernel⟩
abbrev mX6_write : MS := (cX6_write, 2, RX6, (some .int))
theorem cd_X6_write : Cond.code yX6_write cX6_write 2 (some .int) ∈ wds := wd_3 122 rfl rfl
theorem hy_X6_write : yX6_write.cls = RX6 ∧ yX6_write.cls ≠ "java/lang/invoke/MethodHandle" ∧ yX6_write.cls ≠ "java/lang/invoke/VarHandle" ∧ (parseMethodDescriptor yX6_write.desc).map (fun d => d.parameters.length) = some 1 := ⟨rfl, by decide +kernel, by decide +kernel, by decide +kernel⟩
abbrev mX6_in : MS := (cX6_in, 6, RX6, (some .boolean))
theorem cd_X6_in : Cond.code yX6_in cX6_in 6 (some .boolean) ∈ wds := wd_3 126 rfl rfl
theorem hy_X6_in : yX6_in.cls = RX6 ∧ yX6_in.cls ≠ "java/lang/invoke/MethodHandle" ∧ yX6_in.cls ≠ "java/lang/invoke/VarHandle" ∧ (parseMethodDescriptor yX6_in.desc).map (fun d => d.parameters.length) = some 3 := ⟨rfl, by decide +kernel, by decide +kernel, by decide +kernel⟩
abbrev mX6_wipe : MS := (cX6_wipe, 2, RX6, (some .int))
theorem cd_X6_wipe : Cond.code yX6_wipe cX6_wipe 2 (some .int) ∈ wds := wd_3 130 rfl rfl
theorem hy_X6_wipe : yX6_wipe.cls = RX6 ∧ yX6_wipe.cls ≠ "java/lang/invoke/MethodHandle" ∧ yX6_wipe.cls ≠ "java/lang/invoke/VarHandle" ∧ (parseMethodDescriptor yX6_wipe.desc).map (fun d => d.parameters.length) = some 0 := ⟨rfl, by decide +kernel, by decide +kernel, by decide +kernel⟩
abbrev mX6_fault : MS := (cX6_fault, 1, RX6, (some .int))
theorem cd_X6_fault : Cond.code yX6_fault cX6_fault 1 (some .int) ∈ wds := wd_3 134 rfl rfl
theorem hy_X6_fault : yX6_fault.cls = RX6 ∧ yX6_fault.cls ≠ "java/lang/invoke/MethodHandle" ∧ yX6_fault.cls ≠ "java/lang/invoke/VarHandle" ∧ (parseMethodDescriptor yX6_fault.desc).map (fun d => d.parameters.length) = some 0 := ⟨rfl, by decide +kernel, by decide +kernel, by decide +kernel⟩
abbrev mX6_readCountry : MS := (cX6_readCountry, 1, RX6, (some .int))
theorem cd_X6_readCountry : Cond.code yX6_readCountry cX6_readCountry 1 (some .int) ∈ wds := wd_3 138 rfl rfl
theorem hy_X6_readCountry : yX6_readCountry.cls = RX6 ∧ yX6_readCountry.cls ≠ "java/lang/invoke/MethodHandle" ∧ yX6_readCountry.cls ≠ "java/lang/invoke/VarHandle" ∧ (parseMethodDescriptor yX6_readCountry.desc).map (fun d => d.parameters.length) = some 0 := ⟨rfl, by decide +kernel, by decide +kernel, by decide +kernel⟩
abbrev mX6_readThing : MS := (cX6_readThing, 2, RX6, (some .boolean))
theorem cd_X6_readThing : Cond.code yX6_readThing cX6_readThing 2 (some .boolean) ∈ wds := wd_3 142 rfl rfl
theorem hy_X6_readThing : yX6_readThing.cls = RX6 ∧ yX6_readThing.cls ≠ "java/lang/invoke/MethodHandle" ∧ yX6_readThing.cls ≠ "java/lang/invoke/VarHandle" ∧ (parseMethodDescriptor yX6_readThing.desc).map (fun d => d.parameters.length) = some 0 := ⟨rfl, by decide +kernel, by decide +kernel, by decide +kernel⟩
abbrev mX6_readOneField : MS := (cX6_readOneField, 4, RX6, (some .boolean))
theorem cd_X6_readOneField : Cond.code yX6_readOneField cX6_readOneField 4 (some .boolean) ∈ wds := wd_3 146 rfl rfl
theorem hy_X6_readOneField : yX6_readOneField.cls = RX6 ∧ yX6_readOneField.cls ≠ "java/lang/invoke/MethodHandle" ∧ yX6_readOneField.cls ≠ "java/lang/invoke/VarHandle" ∧ (parseMethodDescriptor yX6_readOneField.desc).map (fun d => d.parameters.length) = some 0 := ⟨rfl, by decide +kernel, by decide +kernel, by decide +kernel⟩
abbrev mX6_figure : MS := (cX6_figure, 3, RX6, (some .int))
theorem cd_X6_figure : Cond.code yX6_figure cX6_figure 3 (some .int) ∈ wds := wd_3 150 rfl rfl
theorem hy_X6_figure : yX6_figure.cls = RX6 ∧ yX6_figure.cls ≠ "java/lang/invoke/MethodHandle" ∧ yX6_figure.cls ≠ "java/lang/invoke/VarHandle" ∧ (parseMethodDescriptor yX6_figure.desc).map (fun d => d.parameters.length) = some 2 := ⟨rfl, by decide +kernel, by decide +kernel, by decide +kernel⟩
abbrev mX6_readOneEater : MS := (cX6_readOneEater, 4, RX6, (some .boolean))
theorem cd_X6_readOneEater : Cond.code yX6_readOneEater cX6_readOneEater 4 (some .boolean) ∈ wds := wd_3 154 rfl rfl
theorem hy_X6_readOneEater : yX6_readOneEater.cls = RX6 ∧ yX6_readOneEater.cls ≠ "java/lang/invoke/MethodHandle" ∧ yX6_readOneEater.cls ≠ "java/lang/invoke/VarHandle" ∧ (parseMethodDescriptor yX6_readOneEater.desc).map (fun d => d.parameters.length) = some 0 := ⟨rfl, by decide +kernel, by decide +kernel, by decide +kernel⟩
abbrev mX6_country : MS := (cX6_country, 2, RX6, (some .int))
theorem cd_X6_country : Cond.code yX6_country cX6_country 2 (some .int) ∈ wds := wd_3 158 rfl rfl
theorem hy_X6_country : yX6_country.cls = RX6 ∧ yX6_country.cls ≠ "java/lang/invoke/MethodHandle" ∧ yX6_country.cls ≠ "java/lang/invoke/VarHandle" ∧ (parseMethodDescriptor yX6_country.desc).map (fun d => d.parameters.length) = some 0 := ⟨rfl, by decide +kernel, by decide +kernel, by decide +kernel⟩
abbrev mX6_about : MS := (cX6_about, 2, RX6, (some .int))
theorem cd_X6_about : Cond.code yX6_about cX6_about 2 (some .int) ∈ wds := wd_3 162 rfl rfl
theorem hy_X6_about : yX6_about.cls = RX6 ∧ yX6_about.cls ≠ "java/lang/invoke/MethodHandle" ∧ yX6_about.cls ≠ "java/lang/invoke/VarHandle" ∧ (parseMethodDescriptor yX6_about.desc).map (fun d => d.parameters.length) = some 1 := ⟨rfl, by decide +kernel, by decide +kernel, by decide +kernel⟩
abbrev mX6_loaves : MS := (cX6_loaves, 1, RX6, (some .int))
theorem cd_X6_loaves : Cond.code yX6_loaves cX6_loaves 1 (some .int) ∈ wds := wd_3 165 rfl rfl
theorem hy_X6_loaves : yX6_loaves.cls = RX6 ∧ yX6_loaves.cls ≠ "java/lang/invoke/MethodHandle" ∧ yX6_loaves.cls ≠ "java/lang/invoke/VarHandle" ∧ (parseMethodDescriptor yX6_loaves.desc).map (fun d => d.parameters.length) = some 1 := ⟨rfl, by decide +kernel, by decide +kernel, by decide +kernel⟩
abbrev mX6_owedTogether : MS := (cX6_owedTogether, 3, RX6, (some .int))
theorem cd_X6_owedTogether : Cond.code yX6_owedTogether cX6_owedTogether 3 (some .int) ∈ wds := wd_3 169 rfl rfl
theorem hy_X6_owedTogether : yX6_owedTogether.cls = RX6 ∧ yX6_owedTogether.cls ≠ "java/lang/invoke/MethodHandle" ∧ yX6_owedTogether.cls ≠ "java/lang/invoke/VarHandle" ∧ (parseMethodDescriptor yX6_owedTogether.desc).map (fun d => d.parameters.length) = some 0 := ⟨rfl, by decide +kernel, by decide +kernel, by decide +kernel⟩
abbrev mX6_owesAll : MS := (cX6_owesAll, 2, RX6, (some .int))
theorem cd_X6_owesAll : Cond.code yX6_owesAll cX6_owesAll 2 (some .int) ∈ wds := wd_3 172 rfl rfl
theorem hy_X6_owesAll : yX6_owesAll.cls = RX6 ∧ yX6_owesAll.cls ≠ "java/lang/invoke/MethodHandle" ∧ yX6_owesAll.cls ≠ "java/lang/invoke/VarHandle" ∧ (parseMethodDescriptor yX6_owesAll.desc).map (fun d => d.parameters.length) = some 2 := ⟨rfl, by decide +kernel, by decide +kernel, by decide +kernel⟩
abbrev mX6_owed : MS := (cX6_owed, 3, RX6, (some .int))
theorem cd_X6_owed : Cond.code yX6_owed cX6_owed 3 (some .int) ∈ wds := wd_3 175 rfl rfl
theorem hy_X6_owed : yX6_owed.cls = RX6 ∧ yX6_owed.cls ≠ "java/lang/invoke/MethodHandle" ∧ yX6_owed.cls ≠ "java/lang/invoke/VarHandle" ∧ (parseMethodDescriptor yX6_owed.desc).map (fun d => d.parameters.length) = some 3 := ⟨rfl, by decide +kernel, by decide +kernel, by decide +kernel⟩
abbrev mX6_sown : MS := (cX6_sown, 4, RX6, (some .int))
theorem cd_X6_sown : Cond.code yX6_sown cX6_sown 4 (some .int) ∈ wds := wd_3 179 rfl rfl
theorem hy_X6_sown : yX6_sown.cls = RX6 ∧ yX6_sown.cls ≠ "java/lang/invoke/MethodHandle" ∧ yX6_sown.cls ≠ "java/lang/invoke/VarHandle" ∧ (parseMethodDescriptor yX6_sown.desc).map (fun d => d.parameters.length) = some 1 := ⟨rfl, by decide +kernel, by decide +kernel, by decide +kernel⟩
abbrev mX6_marched : MS := (cX6_marched, 2, RX6, (some .int))
theorem cd_X6_marched : Cond.code yX6_marched cX6_marched 2 (some .int) ∈ wds := wd_3 183 rfl rfl
theorem hy_X6_marched : yX6_marched.cls = RX6 ∧ yX6_marched.cls ≠ "java/lang/invoke/MethodHandle" ∧ yX6_marched.cls ≠ "java/lang/invoke/VarHandle" ∧ (parseMethodDescriptor yX6_marched.desc).map (fun d => d.parameters.length) = some 1 := ⟨rfl, by decide +kernel, by decide +kernel, by decide +kernel⟩
abbrev mX6_begin : MS := (cX6_begin, 2, RX6, none)
theorem cd_X6_begin : Cond.code yX6_begin cX6_begin 2 none ∈ wds := wd_3 187 rfl rfl
theorem hy_X6_begin : yX6_begin.cls = RX6 ∧ yX6_begin.cls ≠ "java/lang/invoke/MethodHandle" ∧ yX6_begin.cls ≠ "java/lang/invoke/VarHandle" ∧ (parseMethodDescriptor yX6_begin.desc).map (fun d => d.parameters.length) = some 0 := ⟨rfl, by decide +kernel, by decide +kernel, by decide +kernel⟩
abbrev mX6_goMarch : MS := (cX6_goMarch, 4, RX6, (some .int))
theorem cd_X6_goMarch : Cond.code yX6_goMarch cX6_goMarch 4 (some .int) ∈ wds := wd_3 191 rfl rfl
theorem hy_X6_goMarch : yX6_goMarch.cls = RX6 ∧ yX6_goMarch.cls ≠ "java/lang/invoke/MethodHandle" ∧ yX6_goMarch.cls ≠ "java/lang/invoke/VarHandle" ∧ (parseMethodDescriptor yX6_goMarch.desc).map (fun d => d.parameters.length) = some 2 := ⟨rfl, by decide +kernel, by decide +kernel, by decide +kernel⟩
abbrev mX6_has : MS := (cX6_has, 2, RX6, (some .boolean))
theorem cd_X6_has : Cond.code yX6_has cX6_has 2 (some .boolean) ∈ wds := wd_3 194 rfl rfl
theorem hy_X6_has : yX6_has.cls = RX6 ∧ yX6_has.cls ≠ "java/lang/invoke/MethodHandle" ∧ yX6_has.cls ≠ "java/lang/invoke/VarHandle" ∧ (parseMethodDescriptor yX6_has.desc).map (fun d => d.parameters.length) = some 2 := ⟨rfl, by decide +kernel, by decide +kernel, by decide +kernel⟩
abbrev mX6_goes : MS := (cX6_goes, 9, RX6, (some .int))
theorem cd_X6_goes : Cond.code yX6_goes cX6_goes 9 (some .int) ∈ wds := wd_3 198 rfl rfl
theorem hy_X6_goes : yX6_goes.cls = RX6 ∧ yX6_goes.cls ≠ "java/lang/invoke/MethodHandle" ∧ yX6_goes.cls ≠ "java/lang/invoke/VarHandle" ∧ (parseMethodDescriptor yX6_goes.desc).map (fun d => d.parameters.length) = some 3 := ⟨rfl, by decide +kernel, by decide +kernel, by decide +kernel⟩
abbrev mX6_nearest : MS := (cX6_nearest, 7, RX6, (some .int))
theorem cd_X6_nearest : Cond.code yX6_nearest cX6_nearest 7 (some .int) ∈ wds := wd_3 202 rfl rfl
theorem hy_X6_nearest : yX6_nearest.cls = RX6 ∧ yX6_nearest.cls ≠ "java/lang/invoke/MethodHandle" ∧ yX6_nearest.cls ≠ "java/lang/invoke/VarHandle" ∧ (parseMethodDescriptor yX6_nearest.desc).map (fun d => d.parameters.length) = some 3 := ⟨rfl, by decide +kernel, by decide +kernel, by decide +kernel⟩
abbrev mX6_apart : MS := (cX6_apart, 2, RX6, (some .int))
theorem cd_X6_apart : Cond.code yX6_apart cX6_apart 2 (some .int) ∈ wds := wd_3 205 rfl rfl
theorem hy_X6_apart : yX6_apart.cls = RX6 ∧ yX6_apart.cls ≠ "java/lang/invoke/MethodHandle" ∧ yX6_apart.cls ≠ "java/lang/invoke/VarHandle" ∧ (parseMethodDescriptor yX6_apart.desc).map (fun d => d.parameters.length) = some 2 := ⟨rfl, by decide +kernel, by decide +kernel, by decide +kernel⟩
abbrev mX6_capped : MS := (cX6_capped, 1, RX6, (some .int))
theorem cd_X6_capped : Cond.code yX6_capped cX6_capped 1 (some .int) ∈ wds := wd_3 208 rfl rfl
theorem hy_X6_capped : yX6_capped.cls = RX6 ∧ yX6_capped.cls ≠ "java/lang/invoke/MethodHandle" ∧ yX6_capped.cls ≠ "java/lang/invoke/VarHandle" ∧ (parseMethodDescriptor yX6_capped.desc).map (fun d => d.parameters.length) = some 1 := ⟨rfl, by decide +kernel, by decide +kernel, by decide +kernel⟩
abbrev mX6_field : MS := (cX6_field, 3, RX6, (some .int))
theorem cd_X6_field : Cond.code yX6_field cX6_field 3 (some .int) ∈ wds := wd_3 212 rfl rfl
theorem hy_X6_field : yX6_field.cls = RX6 ∧ yX6_field.cls ≠ "java/lang/invoke/MethodHandle" ∧ yX6_field.cls ≠ "java/lang/invoke/VarHandle" ∧ (parseMethodDescriptor yX6_field.desc).map (fun d => d.parameters.length) = some 2 := ⟨rfl, by decide +kernel, by decide +kernel, by decide +kernel⟩
abbrev mX6_noField : MS := (cX6_noField, 2, RX6, (some .boolean))
theorem cd_X6_noField : Cond.code yX6_noField cX6_noField 2 (some .boolean) ∈ wds := wd_3 216 rfl rfl
theorem hy_X6_noField : yX6_noField.cls = RX6 ∧ yX6_noField.cls ≠ "java/lang/invoke/MethodHandle" ∧ yX6_noField.cls ≠ "java/lang/invoke/VarHandle" ∧ (parseMethodDescriptor yX6_noField.desc).map (fun d => d.parameters.length) = some 1 := ⟨rfl, by decide +kernel, by decide +kernel, by decide +kernel⟩
abbrev mX6_owing : MS := (cX6_owing, 4, RX6, (some .int))
theorem cd_X6_owing : Cond.code yX6_owing cX6_owing 4 (some .int) ∈ wds := wd_3 220 rfl rfl
theorem hy_X6_owing : yX6_owing.cls = RX6 ∧ yX6_owing.cls ≠ "java/lang/invoke/MethodHandle" ∧ yX6_owing.cls ≠ "java/lang/invoke/VarHandle" ∧ (parseMethodDescriptor yX6_owing.desc).map (fun d => d.parameters.length) = some 1 := ⟨rfl, by decide +kernel, by decide +kernel, by decide +kernel⟩
abbrev mX6_eater : MS := (cX6_eater, 4, RX6, (some .int))
theorem cd_X6_eater : Cond.code yX6_eater cX6_eater 4 (some .int) ∈ wds := wd_3 224 rfl rfl
theorem hy_X6_eater : yX6_eater.cls = RX6 ∧ yX6_eater.cls ≠ "java/lang/invoke/MethodHandle" ∧ yX6_eater.cls ≠ "java/lang/invoke/VarHandle" ∧ (parseMethodDescriptor yX6_eater.desc).map (fun d => d.parameters.length) = some 2 := ⟨rfl, by decide +kernel, by decide +kernel, by decide +kernel⟩
abbrev mX6_noEater : MS := (cX6_noEater, 2, RX6, (some .boolean))
theorem cd_X6_noEater : Cond.code yX6_noEater cX6_noEater 2 (some .boolean) ∈ wds := wd_3 228 rfl rfl
theorem hy_X6_noEater : yX6_noEater.cls = RX6 ∧ yX6_noEater.cls ≠ "java/lang/invoke/MethodHandle" ∧ yX6_noEater.cls ≠ "java/lang/invoke/VarHandle" ∧ (parseMethodDescriptor yX6_noEater.desc).map (fun d => d.parameters.length) = some 1 := ⟨rfl, by decide +kernel, by decide +kernel, by decide +kernel⟩
abbrev mX6_owes : MS := (cX6_owes, 3, RX6, (some .int))
theorem cd_X6_owes : Cond.code yX6_owes cX6_owes 3 (some .int) ∈ wds := wd_3 232 rfl rfl
theorem hy_X6_owes : yX6_owes.cls = RX6 ∧ yX6_owes.cls ≠ "java/lang/invoke/MethodHandle" ∧ yX6_owes.cls ≠ "java/lang/invoke/VarHandle" ∧ (parseMethodDescriptor yX6_owes.desc).map (fun d => d.parameters.length) = some 2 := ⟨rfl, by decide +kernel, by decide +kernel, by decide +kernel⟩
abbrev mX6_eat : MS := (cX6_eat, 3, RX6, (some .int))
theorem cd_X6_eat : Cond.code yX6_eat cX6_eat 3 (some .int) ∈ wds := wd_3 236 rfl rfl
theorem hy_X6_eat : yX6_eat.cls = RX6 ∧ yX6_eat.cls ≠ "java/lang/invoke/MethodHandle" ∧ yX6_eat.cls ≠ "java/lang/invoke/VarHandle" ∧ (parseMethodDescriptor yX6_eat.desc).map (fun d => d.parameters.length) = some 2 := ⟨rfl, by decide +kernel, by decide +kernel, by decide +kernel⟩
abbrev mX6_canEat : MS := (cX6_canEat, 4, RX6, (some .boolean))
theorem cd_X6_canEat : Cond.code yX6_canEat cX6_canEat 4 (some .boolean) ∈ wds := wd_4 0 rfl rfl
theorem hy_X6_canEat : yX6_canEat.cls = RX6 ∧ yX6_canEat.cls ≠ "java/lang/invoke/MethodHandle" ∧ yX6_canEat.cls ≠ "java/lang/invoke/VarHandle" ∧ (parseMethodDescriptor yX6_canEat.desc).map (fun d => d.parameters.length) = some 3 := ⟨rfl, by decide +kernel, by decide +kernel, by decide +kernel⟩
abbrev mX6_bite : MS := (cX6_bite, 2, RX6, (some .int))
theorem cd_X6_bite : Cond.code yX6_bite cX6_bite 2 (some .int) ∈ wds := wd_4 4 rfl rfl
theorem hy_X6_bite : yX6_bite.cls = RX6 ∧ yX6_bite.cls ≠ "java/lang/invoke/MethodHandle" ∧ yX6_bite.cls ≠ "java/lang/invoke/VarHandle" ∧ (parseMethodDescriptor yX6_bite.desc).map (fun d => d.parameters.length) = some 1 := ⟨rfl, by decide +kernel, by decide +kernel, by decide +kernel⟩
abbrev mX6_note : MS := (cX6_note, 2, RX6, none)
theorem cd_X6_note : Cond.code yX6_note cX6_note 2 none ∈ wds := wd_4 8 rfl rfl
theorem hy_X6_note : yX6_note.cls = RX6 ∧ yX6_note.cls ≠ "java/lang/invoke/MethodHandle" ∧ yX6_note.cls ≠ "java/lang/invoke/VarHandle" ∧ (parseMethodDescriptor yX6_note.desc).map (fun d => d.parameters.length) = some 0 := ⟨rfl, by decide +kernel, by decide +kernel, by decide +kernel⟩
abbrev mX6_goEat : MS := (cX6_goEat, 4, RX6, none)
theorem cd_X6_goEat : Cond.code yX6_goEat cX6_goEat 4 none ∈ wds := wd_4 12 rfl rfl
theorem hy_X6_goEat : yX6_goEat.cls = RX6 ∧ yX6_goEat.cls ≠ "java/lang/invoke/MethodHandle" ∧ yX6_goEat.cls ≠ "java/lang/invoke/VarHandle" ∧ (parseMethodDescriptor yX6_goEat.desc).map (fun d => d.parameters.length) = some 3 := ⟨rfl, by decide +kernel, by decide +kernel, by decide +kernel⟩
abbrev mX6_cake : MS := (cX6_cake, 4, RX6, (some .int))
theorem cd_X6_cake : Cond.code yX6_cake cX6_cake 4 (some .int) ∈ wds := wd_4 16 rfl rfl
theorem hy_X6_cake : yX6_cake.cls = RX6 ∧ yX6_cake.cls ≠ "java/lang/invoke/MethodHandle" ∧ yX6_cake.cls ≠ "java/lang/invoke/VarHandle" ∧ (parseMethodDescriptor yX6_cake.desc).map (fun d => d.parameters.length) = some 3 := ⟨rfl, by decide +kernel, by decide +kernel, by decide +kernel⟩
abbrev mX6_march : MS := (cX6_march, 1, RX6, (some .int))
theorem cd_X6_march : Cond.code yX6_march cX6_march 1 (some .int) ∈ wds := wd_4 20 rfl rfl
theorem hy_X6_march : yX6_march.cls = RX6 ∧ yX6_march.cls ≠ "java/lang/invoke/MethodHandle" ∧ yX6_march.cls ≠ "java/lang/invoke/VarHandle" ∧ (parseMethodDescriptor yX6_march.desc).map (fun d => d.parameters.length) = some 0 := ⟨rfl, by decide +kernel, by decide +kernel, by decide +kernel⟩
abbrev mX6_harvest : MS := (cX6_harvest, 1, RX6, (some .int))
theorem cd_X6_harvest : Cond.code yX6_harvest cX6_harvest 1 (some .int) ∈ wds := wd_4 24 rfl rfl
theorem hy_X6_harvest : yX6_harvest.cls = RX6 ∧ yX6_harvest.cls ≠ "java/lang/invoke/MethodHandle" ∧ yX6_harvest.cls ≠ "java/lang/invoke/VarHandle" ∧ (parseMethodDescriptor yX6_harvest.desc).map (fun d => d.parameters.length) = some 0 := ⟨rfl, by decide +kernel, by decide +kernel, by decide +kernel⟩
abbrev mX6_goHarvest : MS := (cX6_goHarvest, 4, RX6, (some .int))
theorem cd_X6_goHarvest : Cond.code yX6_goHarvest cX6_goHarvest 4 (some .int) ∈ wds := wd_4 28 rfl rfl
theorem hy_X6_goHarvest : yX6_goHarvest.cls = RX6 ∧ yX6_goHarvest.cls ≠ "java/lang/invoke/MethodHandle" ∧ yX6_goHarvest.cls ≠ "java/lang/invoke/VarHandle" ∧ (parseMethodDescriptor yX6_goHarvest.desc).map (fun d => d.parameters.length) = some 1 := ⟨rfl, by decide +kernel, by decide +kernel, by decide +kernel⟩
abbrev mX6_undo : MS := (cX6_undo, 2, RX6, (some .int))
theorem cd_X6_undo : Cond.code yX6_undo cX6_undo 2 (some .int) ∈ wds := wd_4 32 rfl rfl
theorem hy_X6_undo : yX6_undo.cls = RX6 ∧ yX6_undo.cls ≠ "java/lang/invoke/MethodHandle" ∧ yX6_undo.cls ≠ "java/lang/invoke/VarHandle" ∧ (parseMethodDescriptor yX6_undo.desc).map (fun d => d.parameters.length) = some 0 := ⟨rfl, by decide +kernel, by decide +kernel, by decide +kernel⟩
abbrev mX6_ahead : MS := (cX6_ahead, 4, RX6, (some .int))
theorem cd_X6_ahead : Cond.code yX6_ahead cX6_ahead 4 (some .int) ∈ wds := wd_4 36 rfl rfl
theorem hy_X6_ahead : yX6_ahead.cls = RX6 ∧ yX6_ahead.cls ≠ "java/lang/invoke/MethodHandle" ∧ yX6_ahead.cls ≠ "java/lang/invoke/VarHandle" ∧ (parseMethodDescriptor yX6_ahead.desc).map (fun d => d.parameters.length) = some 2 := ⟨rfl, by decide +kernel, by decide +kernel, by decide +kernel⟩
abbrev mX6_wants : MS := (cX6_wants, 5, RX6, (some .int))
theorem cd_X6_wants : Cond.code yX6_wants cX6_wants 5 (some .int) ∈ wds := wd_4 41 rfl rfl
theorem hy_X6_wants : yX6_wants.cls = RX6 ∧ yX6_wants.cls ≠ "java/lang/invoke/MethodHandle" ∧ yX6_wants.cls ≠ "java/lang/invoke/VarHandle" ∧ (parseMethodDescriptor yX6_wants.desc).map (fun d => d.parameters.length) = some 1 := ⟨rfl, by decide +kernel, by decide +kernel, by decide +kernel⟩
abbrev mX6_many : MS := (cX6_many, 3, RX6, (some .int))
theorem cd_X6_many : Cond.code yX6_many cX6_many 3 (some .int) ∈ wds := wd_4 44 rfl rfl
theorem hy_X6_many : yX6_many.cls = RX6 ∧ yX6_many.cls ≠ "java/lang/invoke/MethodHandle" ∧ yX6_many.cls ≠ "java/lang/invoke/VarHandle" ∧ (parseMethodDescriptor yX6_many.desc).map (fun d => d.parameters.length) = some 1 := ⟨rfl, by decide +kernel, by decide +kernel, by decide +kernel⟩
abbrev mX6_isSownBy : MS := (cX6_isSownBy, 4, RX6, (some .boolean))
theorem cd_X6_isSownBy : Cond.code yX6_isSownBy cX6_isSownBy 4 (some .boolean) ∈ wds := wd_4 48 rfl rfl
theorem hy_X6_isSownBy : yX6_isSownBy.cls = RX6 ∧ yX6_isSownBy.cls ≠ "java/lang/invoke/MethodHandle" ∧ yX6_isSownBy.cls ≠ "java/lang/invoke/VarHandle" ∧ (parseMethodDescriptor yX6_isSownBy.desc).map (fun d => d.parameters.length) = some 2 := ⟨rfl, by decide +kernel, by decide +kernel, by decide +kernel⟩
abbrev mX6_rid : MS := (cX6_rid, 2, RX6, (some .int))
theorem cd_X6_rid : Cond.code yX6_rid cX6_rid 2 (some .int) ∈ wds := wd_4 52 rfl rfl
theorem hy_X6_rid : yX6_rid.cls = RX6 ∧ yX6_rid.cls ≠ "java/lang/invoke/MethodHandle" ∧ yX6_rid.cls ≠ "java/lang/invoke/VarHandle" ∧ (parseMethodDescriptor yX6_rid.desc).map (fun d => d.parameters.length) = some 1 := ⟨rfl, by decide +kernel, by decide +kernel, by decide +kernel⟩
abbrev mX6_judge : MS := (cX6_judge, 5, RX6, (some .int))
theorem cd_X6_judge : Cond.code yX6_judge cX6_judge 5 (some .int) ∈ wds := wd_4 56 rfl rfl
theorem hy_X6_judge : yX6_judge.cls = RX6 ∧ yX6_judge.cls ≠ "java/lang/invoke/MethodHandle" ∧ yX6_judge.cls ≠ "java/lang/invoke/VarHandle" ∧ (parseMethodDescriptor yX6_judge.desc).map (fun d => d.parameters.length) = some 2 := ⟨rfl, by decide +kernel, by decide +kernel, by decide +kernel⟩
abbrev mX6_longPower : MS := (cX6_longPower, 6, RX6, (some .long))
theorem cd_X6_longPower : Cond.code yX6_longPower cX6_longPower 6 (some .long) ∈ wds := wd_4 61 rfl rfl
theorem hy_X6_longPower : yX6_longPower.cls = RX6 ∧ yX6_longPower.cls ≠ "java/lang/invoke/MethodHandle" ∧ yX6_longPower.cls ≠ "java/lang/invoke/VarHandle" ∧ (parseMethodDescriptor yX6_longPower.desc).map (fun d => d.parameters.length) = some 2 := ⟨rfl, by decide +kernel, by decide +kernel, by decide +kernel⟩
abbrev mX6_does : MS := (cX6_does, 5, RX6, (some .boolean))
theorem cd_X6_does : Cond.code yX6_does cX6_does 5 (some .boolean) ∈ wds := wd_4 65 rfl rfl
theorem hy_X6_does : yX6_does.cls = RX6 ∧ yX6_does.cls ≠ "java/lang/invoke/MethodHandle" ∧ yX6_does.cls ≠ "java/lang/invoke/VarHandle" ∧ (parseMethodDescriptor yX6_does.desc).map (fun d => d.parameters.length) = some 1 := ⟨rfl, by decide +kernel, by decide +kernel, by decide +kernel⟩
abbrev mX6_eats : MS := (cX6_eats, 4, RX6, (some .boolean))
theorem cd_X6_eats : Cond.code yX6_eats cX6_eats 4 (some .boolean) ∈ wds := wd_4 69 rfl rfl
theorem hy_X6_eats : yX6_eats.cls = RX6 ∧ yX6_eats.cls ≠ "java/lang/invoke/MethodHandle" ∧ yX6_eats.cls ≠ "java/lang/invoke/VarHandle" ∧ (parseMethodDescriptor yX6_eats.desc).map (fun d => d.parameters.length) = some 2 := ⟨rfl, by decide +kernel, by decide +kernel, by decide +kernel⟩
abbrev mX6_share : MS := (cX6_share, 6, RX6, (some .int))
theorem cd_X6_share : Cond.code yX6_share cX6_share 6 (some .int) ∈ wds := wd_4 73 rfl rfl
theorem hy_X6_share : yX6_share.cls = RX6 ∧ yX6_share.cls ≠ "java/lang/invoke/MethodHandle" ∧ yX6_share.cls ≠ "java/lang/invoke/VarHandle" ∧ (parseMethodDescriptor yX6_share.desc).map (fun d => d.parameters.length) = some 2 := ⟨rfl, by decide +kernel, by decide +kernel, by decide +kernel⟩
abbrev mX6_ways : MS := (cX6_ways, 3, RX6, (some .int))
theorem cd_X6_ways : Cond.code yX6_ways cX6_ways 3 (some .int) ∈ wds := wd_4 76 rfl rfl
theorem hy_X6_ways : yX6_ways.cls = RX6 ∧ yX6_ways.cls ≠ "java/lang/invoke/MethodHandle" ∧ yX6_ways.cls ≠ "java/lang/invoke/VarHandle" ∧ (parseMethodDescriptor yX6_ways.desc).map (fun d => d.parameters.length) = some 1 := ⟨rfl, by decide +kernel, by decide +kernel, by decide +kernel⟩
abbrev mX6_fraction : MS := (cX6_fraction, 4, RX6, (some .int))
theorem cd_X6_fraction : Cond.code yX6_fraction cX6_fraction 4 (some .int) ∈ wds := wd_4 79 rfl rfl
theorem hy_X6_fraction : yX6_fraction.cls = RX6 ∧ yX6_fraction.cls ≠ "java/lang/invoke/MethodHandle" ∧ yX6_fraction.cls ≠ "java/lang/invoke/VarHandle" ∧ (parseMethodDescriptor yX6_fraction.desc).map (fun d => d.parameters.length) = some 3 := ⟨rfl, by decide +kernel, by decide +kernel, by decide +kernel⟩
abbrev mX6_divisor : MS := (cX6_divisor, 5, RX6, (some .int))
theorem cd_X6_divisor : Cond.code yX6_divisor cX6_divisor 5 (some .int) ∈ wds := wd_4 82 rfl rfl
theorem hy_X6_divisor : yX6_divisor.cls = RX6 ∧ yX6_divisor.cls ≠ "java/lang/invoke/MethodHandle" ∧ yX6_divisor.cls ≠ "java/lang/invoke/VarHandle" ∧ (parseMethodDescriptor yX6_divisor.desc).map (fun d => d.parameters.length) = some 2 := ⟨rfl, by decide +kernel, by decide +kernel, by decide +kernel⟩
abbrev mX6_came : MS := (cX6_came, 3, RX6, (some .int))
theorem cd_X6_came : Cond.code yX6_came cX6_came 3 (some .int) ∈ wds := wd_4 86 rfl rfl
theorem hy_X6_came : yX6_came.cls = RX6 ∧ yX6_came.cls ≠ "java/lang/invoke/MethodHandle" ∧ yX6_came.cls ≠ "java/lang/invoke/VarHandle" ∧ (parseMethodDescriptor yX6_came.desc).map (fun d => d.parameters.length) = some 2 := ⟨rfl, by decide +kernel, by decide +kernel, by decide +kernel⟩
abbrev mX6_forget : MS := (cX6_forget, 2, RX6, (some .int))
theorem cd_X6_forget : Cond.code yX6_forget cX6_forget 2 (some .int) ∈ wds := wd_4 90 rfl rfl
theorem hy_X6_forget : yX6_forget.cls = RX6 ∧ yX6_forget.cls ≠ "java/lang/invoke/MethodHandle" ∧ yX6_forget.cls ≠ "java/lang/invoke/VarHandle" ∧ (parseMethodDescriptor yX6_forget.desc).map (fun d => d.parameters.length) = some 0 := ⟨rfl, by decide +kernel, by decide +kernel, by decide +kernel⟩
abbrev mX6_strangers : MS := (cX6_strangers, 5, RX6, (some .int))
theorem cd_X6_strangers : Cond.code yX6_strangers cX6_strangers 5 (some .int) ∈ wds := wd_4 94 rfl rfl
theorem hy_X6_strangers : yX6_strangers.cls = RX6 ∧ yX6_strangers.cls ≠ "java/lang/invoke/MethodHandle" ∧ yX6_strangers.cls ≠ "java/lang/invoke/VarHandle" ∧ (parseMethodDescriptor yX6_strangers.desc).map (fun d => d.parameters.length) = some 1 := ⟨rfl, by decide +kernel, by decide +kernel, by decide +kernel⟩
abbrev mX6_rests : MS := (cX6_rests, 9, RX6, (some .int))
theorem cd_X6_rests : Cond.code yX6_rests cX6_rests 9 (some .int) ∈ wds := wd_4 98 rfl rfl
theorem hy_X6_rests : yX6_rests.cls = RX6 ∧ yX6_rests.cls ≠ "java/lang/invoke/MethodHandle" ∧ yX6_rests.cls ≠ "java/lang/invoke/VarHandle" ∧ (parseMethodDescriptor yX6_rests.desc).map (fun d => d.parameters.length) = some 4 := ⟨rfl, by decide +kernel, by decide +kernel, by decide +kernel⟩
abbrev mX6_home : MS := (cX6_home, 7, RX6, (some .int))
theorem cd_X6_home : Cond.code yX6_home cX6_home 7 (some .int) ∈ wds := wd_4 102 rfl rfl
theorem hy_X6_home : yX6_home.cls = RX6 ∧ yX6_home.cls ≠ "java/lang/invoke/MethodHandle" ∧ yX6_home.cls ≠ "java/lang/invoke/VarHandle" ∧ (parseMethodDescriptor yX6_home.desc).map (fun d => d.parameters.length) = some 3 := ⟨rfl, by decide +kernel, by decide +kernel, by decide +kernel⟩
abbrev mX6_power : MS := (cX6_power, 4, RX6, (some .int))
theorem cd_X6_power : Cond.code yX6_power cX6_power 4 (some .int) ∈ wds := wd_4 106 rfl rfl
theorem hy_X6_power : yX6_power.cls = RX6 ∧ yX6_power.cls ≠ "java/lang/invoke/MethodHandle" ∧ yX6_power.cls ≠ "java/lang/invoke/VarHandle" ∧ (parseMethodDescriptor yX6_power.desc).map (fun d => d.parameters.length) = some 2 := ⟨rfl, by decide +kernel, by decide +kernel, by decide +kernel⟩
abbrev mX6_seed : MS := (cX6_seed, 5, RX6, (some .long))
theorem cd_X6_seed : Cond.code yX6_seed cX6_seed 5 (some .long) ∈ wds := wd_4 110 rfl rfl
theorem hy_X6_seed : yX6_seed.cls = RX6 ∧ yX6_seed.cls ≠ "java/lang/invoke/MethodHandle" ∧ yX6_seed.cls ≠ "java/lang/invoke/VarHandle" ∧ (parseMethodDescriptor yX6_seed.desc).map (fun d => d.parameters.length) = some 1 := ⟨rfl, by decide +kernel, by decide +kernel, by decide +kernel⟩
abbrev mX6_years : MS := (cX6_years, 5, RX6, (some .int))
theorem cd_X6_years : Cond.code yX6_years cX6_years 5 (some .int) ∈ wds := wd_4 114 rfl rfl
theorem hy_X6_years : yX6_years.cls = RX6 ∧ yX6_years.cls ≠ "java/lang/invoke/MethodHandle" ∧ yX6_years.cls ≠ "java/lang/invoke/VarHandle" ∧ (parseMethodDescriptor yX6_years.desc).map (fun d => d.parameters.length) = some 1 := ⟨rfl, by decide +kernel, by decide +kernel, by decide +kernel⟩
abbrev mX6_keep : MS := (cX6_keep, 3, RX6, (some .int))
theorem cd_X6_keep : Cond.code yX6_keep cX6_keep 3 (some .int) ∈ wds := wd_4 122 rfl rfl
theorem hy_X6_keep : yX6_keep.cls = RX6 ∧ yX6_keep.cls ≠ "java/lang/invoke/MethodHandle" ∧ yX6_keep.cls ≠ "java/lang/invoke/VarHandle" ∧ (parseMethodDescriptor yX6_keep.desc).map (fun d => d.parameters.length) = some 1 := ⟨rfl, by decide +kernel, by decide +kernel, by decide +kernel⟩
abbrev mX6_again : MS := (cX6_again, 3, RX6, (some .int))
theorem cd_X6_again : Cond.code yX6_again cX6_again 3 (some .int) ∈ wds := wd_4 126 rfl rfl
theorem hy_X6_again : yX6_again.cls = RX6 ∧ yX6_again.cls ≠ "java/lang/invoke/MethodHandle" ∧ yX6_again.cls ≠ "java/lang/invoke/VarHandle" ∧ (parseMethodDescriptor yX6_again.desc).map (fun d => d.parameters.length) = some 1 := ⟨rfl, by decide +kernel, by decide +kernel, by decide +kernel⟩
theorem ml_RL_9 : Cond.methodLink RL 9 yX5_init ∈ wds := wd_1 13 rfl rfl
theorem ml_RX5_1 : Cond.methodLink RX5 1 objectInit ∈ wds := wd_1 16 rfl rfl
theorem ml_RX5_9 : Cond.methodLink RX5 9 yX3_init ∈ wds := wd_1 21 rfl rfl
theorem ml_RX3_3 : Cond.methodLink RX3 3 objectInit ∈ wds := wd_1 24 rfl rfl
theorem ml_RX5_18 : Cond.methodLink RX5 18 yX2_init ∈ wds := wd_1 38 rfl rfl
theorem ml_RX2_3 : Cond.methodLink RX2 3 objectInit ∈ wds := wd_1 41 rfl rfl
theorem ml_RX5_25 : Cond.methodLink RX5 25 yX1_init ∈ wds := wd_1 85 rfl rfl
theorem ml_RX1_3 : Cond.methodLink RX1 3 objectInit ∈ wds := wd_1 88 rfl rfl
theorem ml_RX5_37 : Cond.methodLink RX5 37 yX0_init ∈ wds := wd_1 118 rfl rfl
theorem ml_RX0_3 : Cond.methodLink RX0 3 objectInit ∈ wds := wd_1 121 rfl rfl
theorem ml_RX0_17 : Cond.methodLink RX0 17 yX1_init ∈ wds := wd_1 124 rfl rfl
theorem ml_RX5_44 : Cond.methodLink RX5 44 yX4_init ∈ wds := wd_1 138 rfl rfl
theorem ml_RX4_3 : Cond.methodLink RX4 3 objectInit ∈ wds := wd_1 141 rfl rfl
theorem ml_RL_13 : Cond.methodLink RL 13 yX5_write ∈ wds := wd_1 185 rfl rfl
theorem ml_RX5_69 : Cond.methodLink RX5 69 yX3_append ∈ wds := wd_1 189 rfl rfl
theorem ml_RL_18 : Cond.methodLink RL 18 yX5_wipe ∈ wds := wd_1 193 rfl rfl
theorem ml_RL_23 : Cond.methodLink RL 23 yX5_fault ∈ wds := wd_1 197 rfl rfl
theorem ml_RX5_73 : Cond.methodLink RX5 73 yX3_firstFault ∈ wds := wd_1 201 rfl rfl
theorem ml_RX3_19 : Cond.methodLink RX3 19 yX3_faultOfThing ∈ wds := wd_1 205 rfl rfl
theorem ml_RL_27 : Cond.methodLink RL 27 yX5_country ∈ wds := wd_1 209 rfl rfl
theorem ml_RX5_77 : Cond.methodLink RX5 77 yX2_readFrom ∈ wds := wd_1 213 rfl rfl
theorem ml_RX2_45 : Cond.methodLink RX2 45 yX2_addField ∈ wds := wd_1 217 rfl rfl
theorem ml_RX2_52 : Cond.methodLink RX2 52 yX3_figure ∈ wds := wd_1 221 rfl rfl
theorem ml_RX2_49 : Cond.methodLink RX2 49 yX2_addEater ∈ wds := wd_1 225 rfl rfl
theorem ml_RX5_81 : Cond.methodLink RX5 81 yX1_beginAnew ∈ wds := wd_1 229 rfl rfl
theorem ml_RL_31 : Cond.methodLink RL 31 yX5_about ∈ wds := wd_1 233 rfl rfl
theorem ml_RX5_96 : Cond.methodLink RX5 96 yX1_allLoaves ∈ wds := wd_1 237 rfl rfl
theorem ml_RX5_99 : Cond.methodLink RX5 99 yX1_allSeed ∈ wds := wd_2 1 rfl rfl
theorem ml_RX5_102 : Cond.methodLink RX5 102 yX1_allDebts ∈ wds := wd_2 5 rfl rfl
theorem ml_RX1_56 : Cond.methodLink RX1 56 yX1_debtsOf ∈ wds := wd_2 9 rfl rfl
theorem ml_RX1_49 : Cond.methodLink RX1 49 yX1_debt ∈ wds := wd_2 13 rfl rfl
theorem ml_RX5_105 : Cond.methodLink RX5 105 yX1_sownFields ∈ wds := wd_2 17 rfl rfl
theorem ml_RX1_63 : Cond.methodLink RX1 63 yX1_isSown ∈ wds := wd_2 21 rfl rfl
theorem ml_RX5_108 : Cond.methodLink RX5 108 yX2_allEaters ∈ wds := wd_2 25 rfl rfl
theorem ml_RX5_111 : Cond.methodLink RX5 111 yX5_sownIfCome ∈ wds := wd_2 29 rfl rfl
theorem ml_RX5_184 : Cond.methodLink RX5 184 yX1_copyFrom ∈ wds := wd_2 33 rfl rfl
theorem ml_RX1_43 : Cond.methodLink RX1 43 arraycopyName ∈ wds := wd_2 37 rfl rfl
theorem ml_RX5_175 : Cond.methodLink RX5 175 yX1_callOut ∈ wds := wd_2 40 rfl rfl
theorem ml_RX1_81 : Cond.methodLink RX1 81 yX1_sendOut ∈ wds := wd_2 44 rfl rfl
theorem ml_RX1_88 : Cond.methodLink RX1 88 yX1_nearestOwed ∈ wds := wd_2 48 rfl rfl
theorem ml_RX1_94 : Cond.methodLink RX1 94 Lib.Math.abs.name ∈ wds := wd_2 52 rfl rfl
theorem ml_RX1_97 : Cond.methodLink RX1 97 yX1_bringSeed ∈ wds := wd_2 55 rfl rfl
theorem ml_RX1_73 : Cond.methodLink RX1 73 Lib.Math.min.name ∈ wds := wd_2 59 rfl rfl
theorem ml_RL_35 : Cond.methodLink RL 35 yX5_field ∈ wds := wd_2 62 rfl rfl
theorem ml_RX5_116 : Cond.methodLink RX5 116 yX2_hasField ∈ wds := wd_2 66 rfl rfl
theorem ml_RX5_135 : Cond.methodLink RX5 135 yX1_debtorsOf ∈ wds := wd_2 70 rfl rfl
theorem ml_RL_40 : Cond.methodLink RL 40 yX5_eater ∈ wds := wd_2 74 rfl rfl
theorem ml_RX5_138 : Cond.methodLink RX5 138 yX2_hasEater ∈ wds := wd_2 78 rfl rfl
theorem ml_RX5_150 : Cond.methodLink RX5 150 yX1_debtsOf ∈ wds := wd_2 82 rfl rfl
theorem ml_RL_44 : Cond.methodLink RL 44 yX5_owes ∈ wds := wd_2 83 rfl rfl
theorem ml_RX5_159 : Cond.methodLink RX5 159 yX1_debt ∈ wds := wd_2 87 rfl rfl
theorem ml_RL_48 : Cond.methodLink RL 48 yX5_eat ∈ wds := wd_2 88 rfl rfl
theorem ml_RX5_163 : Cond.methodLink RX5 163 yX1_canTake ∈ wds := wd_2 92 rfl rfl
theorem ml_RX1_70 : Cond.methodLink RX1 70 yX2_portionOf ∈ wds := wd_2 96 rfl rfl
theorem ml_RX5_167 : Cond.methodLink RX5 167 yX0_remember ∈ wds := wd_2 100 rfl rfl
theorem ml_RX0_27 : Cond.methodLink RX0 27 yX1_copyFrom ∈ wds := wd_2 104 rfl rfl
theorem ml_RX5_171 : Cond.methodLink RX5 171 yX1_takeLoaves ∈ wds := wd_2 105 rfl rfl
theorem ml_RL_52 : Cond.methodLink RL 52 yX5_cake ∈ wds := wd_2 109 rfl rfl
theorem ml_RL_57 : Cond.methodLink RL 57 yX5_march ∈ wds := wd_2 113 rfl rfl
theorem ml_RL_61 : Cond.methodLink RL 61 yX5_harvest ∈ wds := wd_2 117 rfl rfl
theorem ml_RX5_178 : Cond.methodLink RX5 178 yX1_reap ∈ wds := wd_2 121 rfl rfl
theorem ml_RL_65 : Cond.methodLink RL 65 yX5_undo ∈ wds := wd_2 125 rfl rfl
theorem ml_RX5_181 : Cond.methodLink RX5 181 yX0_takeBackInto ∈ wds := wd_2 129 rfl rfl
theorem ml_RL_69 : Cond.methodLink RL 69 yX5_ahead ∈ wds := wd_2 133 rfl rfl
theorem ml_RL_73 : Cond.methodLink RL 73 yX5_wants ∈ wds := wd_2 137 rfl rfl
theorem ml_RX5_187 : Cond.methodLink RX5 187 yJ6_bitCount_0f7a4 ∈ wds := wd_2 141 rfl rfl
theorem ml_RX5_192 : Cond.methodLink RX5 192 yX5_isSownIfFed ∈ wds := wd_2 147 rfl rfl
theorem ml_RX5_244 : Cond.methodLink RX5 244 yX5_tryToTake ∈ wds := wd_2 151 rfl rfl
theorem ml_RX5_247 : Cond.methodLink RX5 247 yX1_isSown ∈ wds := wd_2 155 rfl rfl
theorem ml_RL_77 : Cond.methodLink RL 77 yX5_rid ∈ wds := wd_2 156 rfl rfl
theorem ml_RX5_195 : Cond.methodLink RX5 195 yX1_sendOut ∈ wds := wd_2 160 rfl rfl
theorem ml_RL_83 : Cond.methodLink RL 83 yX5_judge ∈ wds := wd_2 161 rfl rfl
theorem ml_RX5_198 : Cond.methodLink RX5 198 yX5_withoutLast ∈ wds := wd_2 165 rfl rfl
theorem ml_RX5_204 : Cond.methodLink RX5 204 yX5_isSo ∈ wds := wd_2 169 rfl rfl
theorem ml_RL_88 : Cond.methodLink RL 88 yX5_share ∈ wds := wd_2 173 rfl rfl
theorem ml_RX5_208 : Cond.methodLink RX5 208 yX5_ordersOf ∈ wds := wd_2 177 rfl rfl
theorem ml_RX5_212 : Cond.methodLink RX5 212 yX5_partOfFraction ∈ wds := wd_2 180 rfl rfl
theorem ml_RX5_250 : Cond.methodLink RX5 250 Lib.MathLoose.abs_long.x ∈ wds := wd_2 183 rfl rfl
theorem ml_RL_93 : Cond.methodLink RL 93 yX5_came ∈ wds := wd_2 186 rfl rfl
theorem ml_RX5_216 : Cond.methodLink RX5 216 yX4_add ∈ wds := wd_2 190 rfl rfl
theorem ml_RL_97 : Cond.methodLink RL 97 yX5_forget ∈ wds := wd_2 194 rfl rfl
theorem ml_RL_101 : Cond.methodLink RL 101 yX5_strangers ∈ wds := wd_2 198 rfl rfl
theorem ml_RX5_220 : Cond.methodLink RX5 220 yX4_allowFor ∈ wds := wd_2 202 rfl rfl
theorem ml_RX4_23 : Cond.methodLink RX4 23 Lib.Math.abs.name ∈ wds := wd_2 206 rfl rfl
theorem ml_RL_105 : Cond.methodLink RL 105 yX5_rests ∈ wds := wd_2 207 rfl rfl
theorem ml_RX5_223 : Cond.methodLink RX5 223 yX5_playPair ∈ wds := wd_2 211 rfl rfl
theorem ml_RX5_227 : Cond.methodLink RX5 227 yX5_isAtRest ∈ wds := wd_2 215 rfl rfl
theorem ml_RL_110 : Cond.methodLink RL 110 yX5_home ∈ wds := wd_2 219 rfl rfl
theorem ml_RX5_230 : Cond.methodLink RX5 230 yX5_power ∈ wds := wd_2 223 rfl rfl
theorem ml_RL_115 : Cond.methodLink RL 115 yX5_seed ∈ wds := wd_2 227 rfl rfl
theorem ml_RL_120 : Cond.methodLink RL 120 yX5_years ∈ wds := wd_2 231 rfl rfl
theorem ml_RX5_241 : Cond.methodLink RX5 241 yX5_doByLot ∈ wds := wd_2 238 rfl rfl
theorem ml_RL_124 : Cond.methodLink RL 124 yX5_keep ∈ wds := wd_3 2 rfl rfl
theorem ml_RL_128 : Cond.methodLink RL 128 yX5_again ∈ wds := wd_3 6 rfl rfl
theorem ml_RL_12 : Cond.methodLink RL 12 yX6_init ∈ wds := wd_3 12 rfl rfl
theorem ml_RX6_1 : Cond.methodLink RX6 1 objectInit ∈ wds := wd_3 15 rfl rfl
theorem ml_RL_17 : Cond.methodLink RL 17 yX6_write ∈ wds := wd_3 119 rfl rfl
theorem ml_RX6_75 : Cond.methodLink RX6 75 yX6_in ∈ wds := wd_3 124 rfl rfl
theorem ml_RL_22 : Cond.methodLink RL 22 yX6_wipe ∈ wds := wd_3 127 rfl rfl
theorem ml_RL_26 : Cond.methodLink RL 26 yX6_fault ∈ wds := wd_3 131 rfl rfl
theorem ml_RX6_110 : Cond.methodLink RX6 110 yX6_readCountry ∈ wds := wd_3 135 rfl rfl
theorem ml_RX6_107 : Cond.methodLink RX6 107 yX6_readThing ∈ wds := wd_3 139 rfl rfl
theorem ml_RX6_100 : Cond.methodLink RX6 100 yX6_readOneField ∈ wds := wd_3 143 rfl rfl
theorem ml_RX6_90 : Cond.methodLink RX6 90 yX6_figure ∈ wds := wd_3 147 rfl rfl
theorem ml_RX6_104 : Cond.methodLink RX6 104 yX6_readOneEater ∈ wds := wd_3 151 rfl rfl
theorem ml_RL_30 : Cond.methodLink RL 30 yX6_country ∈ wds := wd_3 155 rfl rfl
theorem ml_RL_34 : Cond.methodLink RL 34 yX6_about ∈ wds := wd_3 159 rfl rfl
theorem ml_RX6_145 : Cond.methodLink RX6 145 yX6_loaves ∈ wds := wd_3 163 rfl rfl
theorem ml_RX6_158 : Cond.methodLink RX6 158 yX6_owedTogether ∈ wds := wd_3 166 rfl rfl
theorem ml_RX6_148 : Cond.methodLink RX6 148 yX6_owesAll ∈ wds := wd_3 170 rfl rfl
theorem ml_RX6_117 : Cond.methodLink RX6 117 yX6_owed ∈ wds := wd_3 173 rfl rfl
theorem ml_RX6_141 : Cond.methodLink RX6 141 yX6_sown ∈ wds := wd_3 176 rfl rfl
theorem ml_RX6_161 : Cond.methodLink RX6 161 yX6_marched ∈ wds := wd_3 180 rfl rfl
theorem ml_RX6_152 : Cond.methodLink RX6 152 yX6_begin ∈ wds := wd_3 184 rfl rfl
theorem ml_RX6_155 : Cond.methodLink RX6 155 yX6_goMarch ∈ wds := wd_3 188 rfl rfl
theorem ml_RX6_134 : Cond.methodLink RX6 134 yX6_has ∈ wds := wd_3 192 rfl rfl
theorem ml_RX6_138 : Cond.methodLink RX6 138 yX6_goes ∈ wds := wd_3 195 rfl rfl
theorem ml_RX6_127 : Cond.methodLink RX6 127 yX6_nearest ∈ wds := wd_3 199 rfl rfl
theorem ml_RX6_121 : Cond.methodLink RX6 121 yX6_apart ∈ wds := wd_3 203 rfl rfl
theorem ml_RX6_130 : Cond.methodLink RX6 130 yX6_capped ∈ wds := wd_3 206 rfl rfl
theorem ml_RL_39 : Cond.methodLink RL 39 yX6_field ∈ wds := wd_3 209 rfl rfl
theorem ml_RX6_167 : Cond.methodLink RX6 167 yX6_noField ∈ wds := wd_3 213 rfl rfl
theorem ml_RX6_171 : Cond.methodLink RX6 171 yX6_owing ∈ wds := wd_3 217 rfl rfl
theorem ml_RL_43 : Cond.methodLink RL 43 yX6_eater ∈ wds := wd_3 221 rfl rfl
theorem ml_RX6_174 : Cond.methodLink RX6 174 yX6_noEater ∈ wds := wd_3 225 rfl rfl
theorem ml_RL_47 : Cond.methodLink RL 47 yX6_owes ∈ wds := wd_3 229 rfl rfl
theorem ml_RL_51 : Cond.methodLink RL 51 yX6_eat ∈ wds := wd_3 233 rfl rfl
theorem ml_RX6_180 : Cond.methodLink RX6 180 yX6_canEat ∈ wds := wd_3 237 rfl rfl
theorem ml_RX6_177 : Cond.methodLink RX6 177 yX6_bite ∈ wds := wd_4 1 rfl rfl
theorem ml_RX6_184 : Cond.methodLink RX6 184 yX6_note ∈ wds := wd_4 5 rfl rfl
theorem ml_RX6_187 : Cond.methodLink RX6 187 yX6_goEat ∈ wds := wd_4 9 rfl rfl
theorem ml_RL_56 : Cond.methodLink RL 56 yX6_cake ∈ wds := wd_4 13 rfl rfl
theorem ml_RL_60 : Cond.methodLink RL 60 yX6_march ∈ wds := wd_4 17 rfl rfl
theorem ml_RL_64 : Cond.methodLink RL 64 yX6_harvest ∈ wds := wd_4 21 rfl rfl
theorem ml_RX6_191 : Cond.methodLink RX6 191 yX6_goHarvest ∈ wds := wd_4 25 rfl rfl
theorem ml_RL_68 : Cond.methodLink RL 68 yX6_undo ∈ wds := wd_4 29 rfl rfl
theorem ml_RL_72 : Cond.methodLink RL 72 yX6_ahead ∈ wds := wd_4 33 rfl rfl
theorem ml_RL_76 : Cond.methodLink RL 76 yX6_wants ∈ wds := wd_4 38 rfl rfl
theorem ml_RX6_196 : Cond.methodLink RX6 196 yX6_many ∈ wds := wd_4 42 rfl rfl
theorem ml_RX6_199 : Cond.methodLink RX6 199 yX6_isSownBy ∈ wds := wd_4 45 rfl rfl
theorem ml_RL_80 : Cond.methodLink RL 80 yX6_rid ∈ wds := wd_4 49 rfl rfl
theorem ml_RL_87 : Cond.methodLink RL 87 yX6_judge ∈ wds := wd_4 53 rfl rfl
theorem ml_RX6_209 : Cond.methodLink RX6 209 yX6_longPower ∈ wds := wd_4 59 rfl rfl
theorem ml_RX6_213 : Cond.methodLink RX6 213 yX6_does ∈ wds := wd_4 62 rfl rfl
theorem ml_RX6_202 : Cond.methodLink RX6 202 yX6_eats ∈ wds := wd_4 66 rfl rfl
theorem ml_RL_92 : Cond.methodLink RL 92 yX6_share ∈ wds := wd_4 70 rfl rfl
theorem ml_RX6_219 : Cond.methodLink RX6 219 yX6_ways ∈ wds := wd_4 74 rfl rfl
theorem ml_RX6_222 : Cond.methodLink RX6 222 yX6_fraction ∈ wds := wd_4 77 rfl rfl
theorem ml_RX6_216 : Cond.methodLink RX6 216 yX6_divisor ∈ wds := wd_4 80 rfl rfl
theorem ml_RL_96 : Cond.methodLink RL 96 yX6_came ∈ wds := wd_4 83 rfl rfl
theorem ml_RL_100 : Cond.methodLink RL 100 yX6_forget ∈ wds := wd_4 87 rfl rfl
theorem ml_RL_104 : Cond.methodLink RL 104 yX6_strangers ∈ wds := wd_4 91 rfl rfl
theorem ml_RL_109 : Cond.methodLink RL 109 yX6_rests ∈ wds := wd_4 95 rfl rfl
theorem ml_RL_114 : Cond.methodLink RL 114 yX6_home ∈ wds := wd_4 99 rfl rfl
theorem ml_RX6_240 : Cond.methodLink RX6 240 yX6_power ∈ wds := wd_4 104 rfl rfl
theorem ml_RL_119 : Cond.methodLink RL 119 yX6_seed ∈ wds := wd_4 107 rfl rfl
theorem ml_RL_123 : Cond.methodLink RL 123 yX6_years ∈ wds := wd_4 111 rfl rfl
theorem ml_RL_127 : Cond.methodLink RL 127 yX6_keep ∈ wds := wd_4 119 rfl rfl
theorem ml_RL_131 : Cond.methodLink RL 131 yX6_again ∈ wds := wd_4 123 rfl rfl
theorem im_yX5_init : Cond.instanceMethod yX5_init ∈ wds := wd_1 14 rfl rfl
theorem im_objectInit : Cond.instanceMethod objectInit ∈ wds := wd_1 17 rfl rfl
theorem im_yX3_init : Cond.instanceMethod yX3_init ∈ wds := wd_1 22 rfl rfl
theorem im_yX2_init : Cond.instanceMethod yX2_init ∈ wds := wd_1 39 rfl rfl
theorem im_yX1_init : Cond.instanceMethod yX1_init ∈ wds := wd_1 86 rfl rfl
theorem im_yX0_init : Cond.instanceMethod yX0_init ∈ wds := wd_1 119 rfl rfl
theorem im_yX4_init : Cond.instanceMethod yX4_init ∈ wds := wd_1 139 rfl rfl
theorem im_yX5_write : Cond.instanceMethod yX5_write ∈ wds := wd_1 186 rfl rfl
theorem se_yX5_write : Cond.selects RX5 yX5_write yX5_write ∈ wds := wd_1 187 rfl rfl
theorem im_yX3_append : Cond.instanceMethod yX3_append ∈ wds := wd_1 190 rfl rfl
theorem se_yX3_append : Cond.selects RX3 yX3_append yX3_append ∈ wds := wd_1 191 rfl rfl
theorem im_yX5_wipe : Cond.instanceMethod yX5_wipe ∈ wds := wd_1 194 rfl rfl
theorem se_yX5_wipe : Cond.selects RX5 yX5_wipe yX5_wipe ∈ wds := wd_1 195 rfl rfl
theorem im_yX5_fault : Cond.instanceMethod yX5_fault ∈ wds := wd_1 198 rfl rfl
theorem se_yX5_fault : Cond.selects RX5 yX5_fault yX5_fault ∈ wds := wd_1 199 rfl rfl
theorem im_yX3_firstFault : Cond.instanceMethod yX3_firstFault ∈ wds := wd_1 202 rfl rfl
theorem se_yX3_firstFault : Cond.selects RX3 yX3_firstFault yX3_firstFault ∈ wds := wd_1 203 rfl rfl
theorem im_yX3_faultOfThing : Cond.instanceMethod yX3_faultOfThing ∈ wds := wd_1 207 rfl rfl
theorem im_yX5_country : Cond.instanceMethod yX5_country ∈ wds := wd_1 210 rfl rfl
theorem se_yX5_country : Cond.selects RX5 yX5_country yX5_country ∈ wds := wd_1 211 rfl rfl
theorem im_yX2_readFrom : Cond.instanceMethod yX2_readFrom ∈ wds := wd_1 214 rfl rfl
theorem se_yX2_readFrom : Cond.selects RX2 yX2_readFrom yX2_readFrom ∈ wds := wd_1 215 rfl rfl
theorem im_yX2_addField : Cond.instanceMethod yX2_addField ∈ wds := wd_1 219 rfl rfl
theorem im_yX3_figure : Cond.instanceMethod yX3_figure ∈ wds := wd_1 222 rfl rfl
theorem se_yX3_figure : Cond.selects RX3 yX3_figure yX3_figure ∈ wds := wd_1 223 rfl rfl
theorem im_yX2_addEater : Cond.instanceMethod yX2_addEater ∈ wds := wd_1 227 rfl rfl
theorem im_yX1_beginAnew : Cond.instanceMethod yX1_beginAnew ∈ wds := wd_1 230 rfl rfl
theorem se_yX1_beginAnew : Cond.selects RX1 yX1_beginAnew yX1_beginAnew ∈ wds := wd_1 231 rfl rfl
theorem im_yX5_about : Cond.instanceMethod yX5_about ∈ wds := wd_1 234 rfl rfl
theorem se_yX5_about : Cond.selects RX5 yX5_about yX5_about ∈ wds := wd_1 235 rfl rfl
theorem im_yX1_allLoaves : Cond.instanceMethod yX1_allLoaves ∈ wds := wd_1 238 rfl rfl
theorem se_yX1_allLoaves : Cond.selects RX1 yX1_allLoaves yX1_allLoaves ∈ wds := wd_1 239 rfl rfl
theorem im_yX1_allSeed : Cond.instanceMethod yX1_allSeed ∈ wds := wd_2 2 rfl rfl
theorem se_yX1_allSeed : Cond.selects RX1 yX1_allSeed yX1_allSeed ∈ wds := wd_2 3 rfl rfl
theorem im_yX1_allDebts : Cond.instanceMethod yX1_allDebts ∈ wds := wd_2 6 rfl rfl
theorem se_yX1_allDebts : Cond.selects RX1 yX1_allDebts yX1_allDebts ∈ wds := wd_2 7 rfl rfl
theorem im_yX1_debtsOf : Cond.instanceMethod yX1_debtsOf ∈ wds := wd_2 10 rfl rfl
theorem se_yX1_debtsOf : Cond.selects RX1 yX1_debtsOf yX1_debtsOf ∈ wds := wd_2 11 rfl rfl
theorem im_yX1_debt : Cond.instanceMethod yX1_debt ∈ wds := wd_2 14 rfl rfl
theorem se_yX1_debt : Cond.selects RX1 yX1_debt yX1_debt ∈ wds := wd_2 15 rfl rfl
theorem im_yX1_sownFields : Cond.instanceMethod yX1_sownFields ∈ wds := wd_2 18 rfl rfl
theorem se_yX1_sownFields : Cond.selects RX1 yX1_sownFields yX1_sownFields ∈ wds := wd_2 19 rfl rfl
theorem im_yX1_isSown : Cond.instanceMethod yX1_isSown ∈ wds := wd_2 22 rfl rfl
theorem se_yX1_isSown : Cond.selects RX1 yX1_isSown yX1_isSown ∈ wds := wd_2 23 rfl rfl
theorem im_yX2_allEaters : Cond.instanceMethod yX2_allEaters ∈ wds := wd_2 26 rfl rfl
theorem se_yX2_allEaters : Cond.selects RX2 yX2_allEaters yX2_allEaters ∈ wds := wd_2 27 rfl rfl
theorem im_yX5_sownIfCome : Cond.instanceMethod yX5_sownIfCome ∈ wds := wd_2 31 rfl rfl
theorem im_yX1_copyFrom : Cond.instanceMethod yX1_copyFrom ∈ wds := wd_2 34 rfl rfl
theorem se_yX1_copyFrom : Cond.selects RX1 yX1_copyFrom yX1_copyFrom ∈ wds := wd_2 35 rfl rfl
theorem sm_arraycopyName : Cond.static arraycopyName ∈ wds := wd_2 38 rfl rfl
theorem nm_arraycopyName : Cond.native arraycopyName ∈ wds := wd_2 39 rfl rfl
theorem im_yX1_callOut : Cond.instanceMethod yX1_callOut ∈ wds := wd_2 41 rfl rfl
theorem se_yX1_callOut : Cond.selects RX1 yX1_callOut yX1_callOut ∈ wds := wd_2 42 rfl rfl
theorem im_yX1_sendOut : Cond.instanceMethod yX1_sendOut ∈ wds := wd_2 45 rfl rfl
theorem se_yX1_sendOut : Cond.selects RX1 yX1_sendOut yX1_sendOut ∈ wds := wd_2 46 rfl rfl
theorem im_yX1_nearestOwed : Cond.instanceMethod yX1_nearestOwed ∈ wds := wd_2 50 rfl rfl
theorem sm_Lib_Math_abs_name : Cond.static Lib.Math.abs.name ∈ wds := wd_2 53 rfl rfl
theorem im_yX1_bringSeed : Cond.instanceMethod yX1_bringSeed ∈ wds := wd_2 57 rfl rfl
theorem sm_Lib_Math_min_name : Cond.static Lib.Math.min.name ∈ wds := wd_2 60 rfl rfl
theorem im_yX5_field : Cond.instanceMethod yX5_field ∈ wds := wd_2 63 rfl rfl
theorem se_yX5_field : Cond.selects RX5 yX5_field yX5_field ∈ wds := wd_2 64 rfl rfl
theorem im_yX2_hasField : Cond.instanceMethod yX2_hasField ∈ wds := wd_2 67 rfl rfl
theorem se_yX2_hasField : Cond.selects RX2 yX2_hasField yX2_hasField ∈ wds := wd_2 68 rfl rfl
theorem im_yX1_debtorsOf : Cond.instanceMethod yX1_debtorsOf ∈ wds := wd_2 71 rfl rfl
theorem se_yX1_debtorsOf : Cond.selects RX1 yX1_debtorsOf yX1_debtorsOf ∈ wds := wd_2 72 rfl rfl
theorem im_yX5_eater : Cond.instanceMethod yX5_eater ∈ wds := wd_2 75 rfl rfl
theorem se_yX5_eater : Cond.selects RX5 yX5_eater yX5_eater ∈ wds := wd_2 76 rfl rfl
theorem im_yX2_hasEater : Cond.instanceMethod yX2_hasEater ∈ wds := wd_2 79 rfl rfl
theorem se_yX2_hasEater : Cond.selects RX2 yX2_hasEater yX2_hasEater ∈ wds := wd_2 80 rfl rfl
theorem im_yX5_owes : Cond.instanceMethod yX5_owes ∈ wds := wd_2 84 rfl rfl
theorem se_yX5_owes : Cond.selects RX5 yX5_owes yX5_owes ∈ wds := wd_2 85 rfl rfl
theorem im_yX5_eat : Cond.instanceMethod yX5_eat ∈ wds := wd_2 89 rfl rfl
theorem se_yX5_eat : Cond.selects RX5 yX5_eat yX5_eat ∈ wds := wd_2 90 rfl rfl
theorem im_yX1_canTake : Cond.instanceMethod yX1_canTake ∈ wds := wd_2 93 rfl rfl
theorem se_yX1_canTake : Cond.selects RX1 yX1_canTake yX1_canTake ∈ wds := wd_2 94 rfl rfl
theorem im_yX2_portionOf : Cond.instanceMethod yX2_portionOf ∈ wds := wd_2 97 rfl rfl
theorem se_yX2_portionOf : Cond.selects RX2 yX2_portionOf yX2_portionOf ∈ wds := wd_2 98 rfl rfl
theorem im_yX0_remember : Cond.instanceMethod yX0_remember ∈ wds := wd_2 101 rfl rfl
theorem se_yX0_remember : Cond.selects RX0 yX0_remember yX0_remember ∈ wds := wd_2 102 rfl rfl
theorem im_yX1_takeLoaves : Cond.instanceMethod yX1_takeLoaves ∈ wds := wd_2 106 rfl rfl
theorem se_yX1_takeLoaves : Cond.selects RX1 yX1_takeLoaves yX1_takeLoaves ∈ wds := wd_2 107 rfl rfl
theorem im_yX5_cake : Cond.instanceMethod yX5_cake ∈ wds := wd_2 110 rfl rfl
theorem se_yX5_cake : Cond.selects RX5 yX5_cake yX5_cake ∈ wds := wd_2 111 rfl rfl
theorem im_yX5_march : Cond.instanceMethod yX5_march ∈ wds := wd_2 114 rfl rfl
theorem se_yX5_march : Cond.selects RX5 yX5_march yX5_march ∈ wds := wd_2 115 rfl rfl
theorem im_yX5_harvest : Cond.instanceMethod yX5_harvest ∈ wds := wd_2 118 rfl rfl
theorem se_yX5_harvest : Cond.selects RX5 yX5_harvest yX5_harvest ∈ wds := wd_2 119 rfl rfl
theorem im_yX1_reap : Cond.instanceMethod yX1_reap ∈ wds := wd_2 122 rfl rfl
theorem se_yX1_reap : Cond.selects RX1 yX1_reap yX1_reap ∈ wds := wd_2 123 rfl rfl
theorem im_yX5_undo : Cond.instanceMethod yX5_undo ∈ wds := wd_2 126 rfl rfl
theorem se_yX5_undo : Cond.selects RX5 yX5_undo yX5_undo ∈ wds := wd_2 127 rfl rfl
theorem im_yX0_takeBackInto : Cond.instanceMethod yX0_takeBackInto ∈ wds := wd_2 130 rfl rfl
theorem se_yX0_takeBackInto : Cond.selects RX0 yX0_takeBackInto yX0_takeBackInto ∈ wds := wd_2 131 rfl rfl
theorem im_yX5_ahead : Cond.instanceMethod yX5_ahead ∈ wds := wd_2 134 rfl rfl
theorem se_yX5_ahead : Cond.selects RX5 yX5_ahead yX5_ahead ∈ wds := wd_2 135 rfl rfl
theorem im_yX5_wants : Cond.instanceMethod yX5_wants ∈ wds := wd_2 138 rfl rfl
theorem se_yX5_wants : Cond.selects RX5 yX5_wants yX5_wants ∈ wds := wd_2 139 rfl rfl
theorem sm_yJ6_bitCount_0f7a4 : Cond.static yJ6_bitCount_0f7a4 ∈ wds := wd_2 142 rfl rfl
theorem im_yX5_isSownIfFed : Cond.instanceMethod yX5_isSownIfFed ∈ wds := wd_2 149 rfl rfl
theorem im_yX5_tryToTake : Cond.instanceMethod yX5_tryToTake ∈ wds := wd_2 153 rfl rfl
theorem im_yX5_rid : Cond.instanceMethod yX5_rid ∈ wds := wd_2 157 rfl rfl
theorem se_yX5_rid : Cond.selects RX5 yX5_rid yX5_rid ∈ wds := wd_2 158 rfl rfl
theorem im_yX5_judge : Cond.instanceMethod yX5_judge ∈ wds := wd_2 162 rfl rfl
theorem se_yX5_judge : Cond.selects RX5 yX5_judge yX5_judge ∈ wds := wd_2 163 rfl rfl
theorem sm_yX5_withoutLast : Cond.static yX5_withoutLast ∈ wds := wd_2 166 rfl rfl
theorem im_yX5_isSo : Cond.instanceMethod yX5_isSo ∈ wds := wd_2 171 rfl rfl
theorem im_yX5_share : Cond.instanceMethod yX5_share ∈ wds := wd_2 174 rfl rfl
theorem se_yX5_share : Cond.selects RX5 yX5_share yX5_share ∈ wds := wd_2 175 rfl rfl
theorem sm_yX5_ordersOf : Cond.static yX5_ordersOf ∈ wds := wd_2 178 rfl rfl
theorem sm_yX5_partOfFraction : Cond.static yX5_partOfFraction ∈ wds := wd_2 181 rfl rfl
theorem sm_Lib_MathLoose_abs_long_x : Cond.static Lib.MathLoose.abs_long.x ∈ wds := wd_2 184 rfl rfl
theorem im_yX5_came : Cond.instanceMethod yX5_came ∈ wds := wd_2 187 rfl rfl
theorem se_yX5_came : Cond.selects RX5 yX5_came yX5_came ∈ wds := wd_2 188 rfl rfl
theorem im_yX4_add : Cond.instanceMethod yX4_add ∈ wds := wd_2 191 rfl rfl
theorem se_yX4_add : Cond.selects RX4 yX4_add yX4_add ∈ wds := wd_2 192 rfl rfl
theorem im_yX5_forget : Cond.instanceMethod yX5_forget ∈ wds := wd_2 195 rfl rfl
theorem se_yX5_forget : Cond.selects RX5 yX5_forget yX5_forget ∈ wds := wd_2 196 rfl rfl
theorem im_yX5_strangers : Cond.instanceMethod yX5_strangers ∈ wds := wd_2 199 rfl rfl
theorem se_yX5_strangers : Cond.selects RX5 yX5_strangers yX5_strangers ∈ wds := wd_2 200 rfl rfl
theorem im_yX4_allowFor : Cond.instanceMethod yX4_allowFor ∈ wds := wd_2 203 rfl rfl
theorem se_yX4_allowFor : Cond.selects RX4 yX4_allowFor yX4_allowFor ∈ wds := wd_2 204 rfl rfl
theorem im_yX5_rests : Cond.instanceMethod yX5_rests ∈ wds := wd_2 208 rfl rfl
theorem se_yX5_rests : Cond.selects RX5 yX5_rests yX5_rests ∈ wds := wd_2 209 rfl rfl
theorem im_yX5_playPair : Cond.instanceMethod yX5_playPair ∈ wds := wd_2 213 rfl rfl
theorem im_yX5_isAtRest : Cond.instanceMethod yX5_isAtRest ∈ wds := wd_2 217 rfl rfl
theorem im_yX5_home : Cond.instanceMethod yX5_home ∈ wds := wd_2 220 rfl rfl
theorem se_yX5_home : Cond.selects RX5 yX5_home yX5_home ∈ wds := wd_2 221 rfl rfl
theorem sm_yX5_power : Cond.static yX5_power ∈ wds := wd_2 224 rfl rfl
theorem im_yX5_seed : Cond.instanceMethod yX5_seed ∈ wds := wd_2 228 rfl rfl
theorem se_yX5_seed : Cond.selects RX5 yX5_seed yX5_seed ∈ wds := wd_2 229 rfl rfl
theorem im_yX5_years : Cond.instanceMethod yX5_years ∈ wds := wd_2 232 rfl rfl
theorem se_yX5_years : Cond.selects RX5 yX5_years yX5_years ∈ wds := wd_2 233 rfl rfl
theorem im_yX5_doByLot : Cond.instanceMethod yX5_doByLot ∈ wds := wd_3 0 rfl rfl
theorem im_yX5_keep : Cond.instanceMethod yX5_keep ∈ wds := wd_3 3 rfl rfl
theorem se_yX5_keep : Cond.selects RX5 yX5_keep yX5_keep ∈ wds := wd_3 4 rfl rfl
theorem im_yX5_again : Cond.instanceMethod yX5_again ∈ wds := wd_3 7 rfl rfl
theorem se_yX5_again : Cond.selects RX5 yX5_again yX5_again ∈ wds := wd_3 8 rfl rfl
theorem im_yX6_init : Cond.instanceMethod yX6_init ∈ wds := wd_3 13 rfl rfl
theorem im_yX6_write : Cond.instanceMethod yX6_write ∈ wds := wd_3 120 rfl rfl
theorem se_yX6_write : Cond.selects RX6 yX6_write yX6_write ∈ wds := wd_3 121 rfl rfl
theorem sm_yX6_in : Cond.static yX6_in ∈ wds := wd_3 125 rfl rfl
theorem im_yX6_wipe : Cond.instanceMethod yX6_wipe ∈ wds := wd_3 128 rfl rfl
theorem se_yX6_wipe : Cond.selects RX6 yX6_wipe yX6_wipe ∈ wds := wd_3 129 rfl rfl
theorem im_yX6_fault : Cond.instanceMethod yX6_fault ∈ wds := wd_3 132 rfl rfl
theorem se_yX6_fault : Cond.selects RX6 yX6_fault yX6_fault ∈ wds := wd_3 133 rfl rfl
theorem im_yX6_readCountry : Cond.instanceMethod yX6_readCountry ∈ wds := wd_3 137 rfl rfl
theorem im_yX6_readThing : Cond.instanceMethod yX6_readThing ∈ wds := wd_3 141 rfl rfl
theorem im_yX6_readOneField : Cond.instanceMethod yX6_readOneField ∈ wds := wd_3 145 rfl rfl
theorem im_yX6_figure : Cond.instanceMethod yX6_figure ∈ wds := wd_3 149 rfl rfl
theorem im_yX6_readOneEater : Cond.instanceMethod yX6_readOneEater ∈ wds := wd_3 153 rfl rfl
theorem im_yX6_country : Cond.instanceMethod yX6_country ∈ wds := wd_3 156 rfl rfl
theorem se_yX6_country : Cond.selects RX6 yX6_country yX6_country ∈ wds := wd_3 157 rfl rfl
theorem im_yX6_about : Cond.instanceMethod yX6_about ∈ wds := wd_3 160 rfl rfl
theorem se_yX6_about : Cond.selects RX6 yX6_about yX6_about ∈ wds := wd_3 161 rfl rfl
theorem sm_yX6_loaves : Cond.static yX6_loaves ∈ wds := wd_3 164 rfl rfl
theorem im_yX6_owedTogether : Cond.instanceMethod yX6_owedTogether ∈ wds := wd_3 168 rfl rfl
theorem sm_yX6_owesAll : Cond.static yX6_owesAll ∈ wds := wd_3 171 rfl rfl
theorem sm_yX6_owed : Cond.static yX6_owed ∈ wds := wd_3 174 rfl rfl
theorem im_yX6_sown : Cond.instanceMethod yX6_sown ∈ wds := wd_3 178 rfl rfl
theorem im_yX6_marched : Cond.instanceMethod yX6_marched ∈ wds := wd_3 182 rfl rfl
theorem im_yX6_begin : Cond.instanceMethod yX6_begin ∈ wds := wd_3 186 rfl rfl
theorem im_yX6_goMarch : Cond.instanceMethod yX6_goMarch ∈ wds := wd_3 190 rfl rfl
theorem sm_yX6_has : Cond.static yX6_has ∈ wds := wd_3 193 rfl rfl
theorem im_yX6_goes : Cond.instanceMethod yX6_goes ∈ wds := wd_3 197 rfl rfl
theorem im_yX6_nearest : Cond.instanceMethod yX6_nearest ∈ wds := wd_3 201 rfl rfl
theorem sm_yX6_apart : Cond.static yX6_apart ∈ wds := wd_3 204 rfl rfl
theorem sm_yX6_capped : Cond.static yX6_capped ∈ wds := wd_3 207 rfl rfl
theorem im_yX6_field : Cond.instanceMethod yX6_field ∈ wds := wd_3 210 rfl rfl
theorem se_yX6_field : Cond.selects RX6 yX6_field yX6_field ∈ wds := wd_3 211 rfl rfl
theorem im_yX6_noField : Cond.instanceMethod yX6_noField ∈ wds := wd_3 215 rfl rfl
theorem im_yX6_owing : Cond.instanceMethod yX6_owing ∈ wds := wd_3 219 rfl rfl
theorem im_yX6_eater : Cond.instanceMethod yX6_eater ∈ wds := wd_3 222 rfl rfl
theorem se_yX6_eater : Cond.selects RX6 yX6_eater yX6_eater ∈ wds := wd_3 223 rfl rfl
theorem im_yX6_noEater : Cond.instanceMethod yX6_noEater ∈ wds := wd_3 227 rfl rfl
theorem im_yX6_owes : Cond.instanceMethod yX6_owes ∈ wds := wd_3 230 rfl rfl
theorem se_yX6_owes : Cond.selects RX6 yX6_owes yX6_owes ∈ wds := wd_3 231 rfl rfl
theorem im_yX6_eat : Cond.instanceMethod yX6_eat ∈ wds := wd_3 234 rfl rfl
theorem se_yX6_eat : Cond.selects RX6 yX6_eat yX6_eat ∈ wds := wd_3 235 rfl rfl
theorem im_yX6_canEat : Cond.instanceMethod yX6_canEat ∈ wds := wd_3 239 rfl rfl
theorem im_yX6_bite : Cond.instanceMethod yX6_bite ∈ wds := wd_4 3 rfl rfl
theorem im_yX6_note : Cond.instanceMethod yX6_note ∈ wds := wd_4 7 rfl rfl
theorem im_yX6_goEat : Cond.instanceMethod yX6_goEat ∈ wds := wd_4 11 rfl rfl
theorem im_yX6_cake : Cond.instanceMethod yX6_cake ∈ wds := wd_4 14 rfl rfl
theorem se_yX6_cake : Cond.selects RX6 yX6_cake yX6_cake ∈ wds := wd_4 15 rfl rfl
theorem im_yX6_march : Cond.instanceMethod yX6_march ∈ wds := wd_4 18 rfl rfl
theorem se_yX6_march : Cond.selects RX6 yX6_march yX6_march ∈ wds := wd_4 19 rfl rfl
theorem im_yX6_harvest : Cond.instanceMethod yX6_harvest ∈ wds := wd_4 22 rfl rfl
theorem se_yX6_harvest : Cond.selects RX6 yX6_harvest yX6_harvest ∈ wds := wd_4 23 rfl rfl
theorem im_yX6_goHarvest : Cond.instanceMethod yX6_goHarvest ∈ wds := wd_4 27 rfl rfl
theorem im_yX6_undo : Cond.instanceMethod yX6_undo ∈ wds := wd_4 30 rfl rfl
theorem se_yX6_undo : Cond.selects RX6 yX6_undo yX6_undo ∈ wds := wd_4 31 rfl rfl
theorem im_yX6_ahead : Cond.instanceMethod yX6_ahead ∈ wds := wd_4 34 rfl rfl
theorem se_yX6_ahead : Cond.selects RX6 yX6_ahead yX6_ahead ∈ wds := wd_4 35 rfl rfl
theorem im_yX6_wants : Cond.instanceMethod yX6_wants ∈ wds := wd_4 39 rfl rfl
theorem se_yX6_wants : Cond.selects RX6 yX6_wants yX6_wants ∈ wds := wd_4 40 rfl rfl
theorem sm_yX6_many : Cond.static yX6_many ∈ wds := wd_4 43 rfl rfl
theorem im_yX6_isSownBy : Cond.instanceMethod yX6_isSownBy ∈ wds := wd_4 47 rfl rfl
theorem im_yX6_rid : Cond.instanceMethod yX6_rid ∈ wds := wd_4 50 rfl rfl
theorem se_yX6_rid : Cond.selects RX6 yX6_rid yX6_rid ∈ wds := wd_4 51 rfl rfl
theorem im_yX6_judge : Cond.instanceMethod yX6_judge ∈ wds := wd_4 54 rfl rfl
theorem se_yX6_judge : Cond.selects RX6 yX6_judge yX6_judge ∈ wds := wd_4 55 rfl rfl
theorem sm_yX6_longPower : Cond.static yX6_longPower ∈ wds := wd_4 60 rfl rfl
theorem im_yX6_does : Cond.instanceMethod yX6_does ∈ wds := wd_4 64 rfl rfl
theorem im_yX6_eats : Cond.instanceMethod yX6_eats ∈ wds := wd_4 68 rfl rfl
theorem im_yX6_share : Cond.instanceMethod yX6_share ∈ wds := wd_4 71 rfl rfl
theorem se_yX6_share : Cond.selects RX6 yX6_share yX6_share ∈ wds := wd_4 72 rfl rfl
theorem sm_yX6_ways : Cond.static yX6_ways ∈ wds := wd_4 75 rfl rfl
theorem sm_yX6_fraction : Cond.static yX6_fraction ∈ wds := wd_4 78 rfl rfl
theorem sm_yX6_divisor : Cond.static yX6_divisor ∈ wds := wd_4 81 rfl rfl
theorem im_yX6_came : Cond.instanceMethod yX6_came ∈ wds := wd_4 84 rfl rfl
theorem se_yX6_came : Cond.selects RX6 yX6_came yX6_came ∈ wds := wd_4 85 rfl rfl
theorem im_yX6_forget : Cond.instanceMethod yX6_forget ∈ wds := wd_4 88 rfl rfl
theorem se_yX6_forget : Cond.selects RX6 yX6_forget yX6_forget ∈ wds := wd_4 89 rfl rfl
theorem im_yX6_strangers : Cond.instanceMethod yX6_strangers ∈ wds := wd_4 92 rfl rfl
theorem se_yX6_strangers : Cond.selects RX6 yX6_strangers yX6_strangers ∈ wds := wd_4 93 rfl rfl
theorem im_yX6_rests : Cond.instanceMethod yX6_rests ∈ wds := wd_4 96 rfl rfl
theorem se_yX6_rests : Cond.selects RX6 yX6_rests yX6_rests ∈ wds := wd_4 97 rfl rfl
theorem im_yX6_home : Cond.instanceMethod yX6_home ∈ wds := wd_4 100 rfl rfl
theorem se_yX6_home : Cond.selects RX6 yX6_home yX6_home ∈ wds := wd_4 101 rfl rfl
theorem sm_yX6_power : Cond.static yX6_power ∈ wds := wd_4 105 rfl rfl
theorem im_yX6_seed : Cond.instanceMethod yX6_seed ∈ wds := wd_4 108 rfl rfl
theorem se_yX6_seed : Cond.selects RX6 yX6_seed yX6_seed ∈ wds := wd_4 109 rfl rfl
theorem im_yX6_years : Cond.instanceMethod yX6_years ∈ wds := wd_4 112 rfl rfl
theorem se_yX6_years : Cond.selects RX6 yX6_years yX6_years ∈ wds := wd_4 113 rfl rfl
theorem im_yX6_keep : Cond.instanceMethod yX6_keep ∈ wds := wd_4 120 rfl rfl
theorem se_yX6_keep : Cond.selects RX6 yX6_keep yX6_keep ∈ wds := wd_4 121 rfl rfl
theorem im_yX6_again : Cond.instanceMethod yX6_again ∈ wds := wd_4 124 rfl rfl
theorem se_yX6_again : Cond.selects RX6 yX6_again yX6_again ∈ wds := wd_4 125 rfl rfl
theorem se_yX3_faultOfThing : Cond.selects RX3 yX3_faultOfThing yX3_faultOfThing ∈ wds := wd_at 0 rfl rfl
theorem se_yX2_addField : Cond.selects RX2 yX2_addField yX2_addField ∈ wds := wd_at 1 rfl rfl
theorem se_yX2_addEater : Cond.selects RX2 yX2_addEater yX2_addEater ∈ wds := wd_at 2 rfl rfl
theorem se_yX5_sownIfCome : Cond.selects RX5 yX5_sownIfCome yX5_sownIfCome ∈ wds := wd_at 3 rfl rfl
theorem se_yX1_nearestOwed : Cond.selects RX1 yX1_nearestOwed yX1_nearestOwed ∈ wds := wd_at 4 rfl rfl
theorem se_yX1_bringSeed : Cond.selects RX1 yX1_bringSeed yX1_bringSeed ∈ wds := wd_at 5 rfl rfl
theorem se_yX5_isSownIfFed : Cond.selects RX5 yX5_isSownIfFed yX5_isSownIfFed ∈ wds := wd_at 6 rfl rfl
theorem se_yX5_tryToTake : Cond.selects RX5 yX5_tryToTake yX5_tryToTake ∈ wds := wd_at 7 rfl rfl
theorem se_yX5_isSo : Cond.selects RX5 yX5_isSo yX5_isSo ∈ wds := wd_at 8 rfl rfl
theorem se_yX5_playPair : Cond.selects RX5 yX5_playPair yX5_playPair ∈ wds := wd_at 9 rfl rfl
theorem se_yX5_isAtRest : Cond.selects RX5 yX5_isAtRest yX5_isAtRest ∈ wds := wd_at 10 rfl rfl
theorem se_yX5_doByLot : Cond.selects RX5 yX5_doByLot yX5_doByLot ∈ wds := wd_at 11 rfl rfl
theorem se_yX6_readCountry : Cond.selects RX6 yX6_readCountry yX6_readCountry ∈ wds := wd_at 12 rfl rfl
theorem se_yX6_readThing : Cond.selects RX6 yX6_readThing yX6_readThing ∈ wds := wd_at 13 rfl rfl
theorem se_yX6_readOneField : Cond.selects RX6 yX6_readOneField yX6_readOneField ∈ wds := wd_at 14 rfl rfl
theorem se_yX6_figure : Cond.selects RX6 yX6_figure yX6_figure ∈ wds := wd_at 15 rfl rfl
theorem se_yX6_readOneEater : Cond.selects RX6 yX6_readOneEater yX6_readOneEater ∈ wds := wd_at 16 rfl rfl
theorem se_yX6_owedTogether : Cond.selects RX6 yX6_owedTogether yX6_owedTogether ∈ wds := wd_at 17 rfl rfl
theorem se_yX6_sown : Cond.selects RX6 yX6_sown yX6_sown ∈ wds := wd_at 18 rfl rfl
theorem se_yX6_marched : Cond.selects RX6 yX6_marched yX6_marched ∈ wds := wd_at 19 rfl rfl
theorem se_yX6_begin : Cond.selects RX6 yX6_begin yX6_begin ∈ wds := wd_at 20 rfl rfl
theorem se_yX6_goMarch : Cond.selects RX6 yX6_goMarch yX6_goMarch ∈ wds := wd_at 21 rfl rfl
theorem se_yX6_goes : Cond.selects RX6 yX6_goes yX6_goes ∈ wds := wd_at 22 rfl rfl
theorem se_yX6_nearest : Cond.selects RX6 yX6_nearest yX6_nearest ∈ wds := wd_at 23 rfl rfl
theorem se_yX6_noField : Cond.selects RX6 yX6_noField yX6_noField ∈ wds := wd_at 24 rfl rfl
theorem se_yX6_owing : Cond.selects RX6 yX6_owing yX6_owing ∈ wds := wd_at 25 rfl rfl
theorem se_yX6_noEater : Cond.selects RX6 yX6_noEater yX6_noEater ∈ wds := wd_at 26 rfl rfl
theorem se_yX6_canEat : Cond.selects RX6 yX6_canEat yX6_canEat ∈ wds := wd_at 27 rfl rfl
theorem se_yX6_bite : Cond.selects RX6 yX6_bite yX6_bite ∈ wds := wd_at 28 rfl rfl
theorem se_yX6_note : Cond.selects RX6 yX6_note yX6_note ∈ wds := wd_at 29 rfl rfl
theorem se_yX6_goEat : Cond.selects RX6 yX6_goEat yX6_goEat ∈ wds := wd_at 30 rfl rfl
theorem se_yX6_goHarvest : Cond.selects RX6 yX6_goHarvest yX6_goHarvest ∈ wds := wd_at 31 rfl rfl
theorem se_yX6_isSownBy : Cond.selects RX6 yX6_isSownBy yX6_isSownBy ∈ wds := wd_at 32 rfl rfl
theorem se_yX6_does : Cond.selects RX6 yX6_does yX6_does ∈ wds := wd_at 33 rfl rfl
theorem se_yX6_eats : Cond.selects RX6 yX6_eats yX6_eats ∈ wds := wd_at 34 rfl rfl
theorem cd_objectInit : Cond.code objectInit ⟨#[0xb1]⟩ 1 none ∈ wds := wd_1 18 rfl rfl
theorem cd_Lib_Math_abs_name : Cond.code Lib.Math.abs.name Lib.Math.abs.code 1 (some .int) ∈ wds := wd_2 54 rfl rfl
theorem cd_Lib_Math_min_name : Cond.code Lib.Math.min.name Lib.Math.min.code 2 (some .int) ∈ wds := wd_2 61 rfl rfl
theorem cd_Lib_MathLoose_abs_long_x : Cond.code Lib.MathLoose.abs_long.x Lib.MathLoose.abs_long.code 2 (some .long) ∈ wds := wd_2 185 rfl rfl
theorem k_RL_13 : Cond.methodLink RL 13 yX5_write ∈ wds ∧ Cond.instanceMethod yX5_write ∈ wds ∧ Cond.selects RX5 yX5_write yX5_write ∈ wds ∧ Cond.initialized RX5 ∈ wds ∧ Cond.code yX5_write cX5_write 2 (some .int) ∈ wds := ⟨ml_RL_13, im_yX5_write, se_yX5_write, in_RX5, cd_X5_write⟩
theorem k_RX5_69 : Cond.methodLink RX5 69 yX3_append ∈ wds ∧ Cond.instanceMethod yX3_append ∈ wds ∧ Cond.selects RX3 yX3_append yX3_append ∈ wds ∧ Cond.initialized RX3 ∈ wds ∧ Cond.code yX3_append cX3_append 2 none ∈ wds := ⟨ml_RX5_69, im_yX3_append, se_yX3_append, in_RX3, cd_X3_append⟩
theorem k_RL_18 : Cond.methodLink RL 18 yX5_wipe ∈ wds ∧ Cond.instanceMethod yX5_wipe ∈ wds ∧ Cond.selects RX5 yX5_wipe yX5_wipe ∈ wds ∧ Cond.initialized RX5 ∈ wds ∧ Cond.code yX5_wipe cX5_wipe 2 (some .int) ∈ wds := ⟨ml_RL_18, im_yX5_wipe, se_yX5_wipe, in_RX5, cd_X5_wipe⟩
theorem k_RL_23 : Cond.methodLink RL 23 yX5_fault ∈ wds ∧ Cond.instanceMethod yX5_fault ∈ wds ∧ Cond.selects RX5 yX5_fault yX5_fault ∈ wds ∧ Cond.initialized RX5 ∈ wds ∧ Cond.code yX5_fault cX5_fault 1 (some .int) ∈ wds := ⟨ml_RL_23, im_yX5_fault, se_yX5_fault, in_RX5, cd_X5_fault⟩
theorem k_RX5_73 : Cond.methodLink RX5 73 yX3_firstFault ∈ wds ∧ Cond.instanceMethod yX3_firstFault ∈ wds ∧ Cond.selects RX3 yX3_firstFault yX3_firstFault ∈ wds ∧ Cond.initialized RX3 ∈ wds ∧ Cond.code yX3_firstFault cX3_firstFault 6 (some .int) ∈ wds := ⟨ml_RX5_73, im_yX3_firstFault, se_yX3_firstFault, in_RX3, cd_X3_firstFault⟩
theorem k_RX3_19 : Cond.methodLink RX3 19 yX3_faultOfThing ∈ wds ∧ Cond.instanceMethod yX3_faultOfThing ∈ wds ∧ Cond.selects RX3 yX3_faultOfThing yX3_faultOfThing ∈ wds ∧ Cond.initialized RX3 ∈ wds ∧ Cond.code yX3_faultOfThing cX3_faultOfThing 7 (some .int) ∈ wds := ⟨ml_RX3_19, im_yX3_faultOfThing, se_yX3_faultOfThing, in_RX3, cd_X3_faultOfThing⟩
theorem k_RL_27 : Cond.methodLink RL 27 yX5_country ∈ wds ∧ Cond.instanceMethod yX5_country ∈ wds ∧ Cond.selects RX5 yX5_country yX5_country ∈ wds ∧ Cond.initialized RX5 ∈ wds ∧ Cond.code yX5_country cX5_country 2 (some .int) ∈ wds := ⟨ml_RL_27, im_yX5_country, se_yX5_country, in_RX5, cd_X5_country⟩
theorem k_RX5_77 : Cond.methodLink RX5 77 yX2_readFrom ∈ wds ∧ Cond.instanceMethod yX2_readFrom ∈ wds ∧ Cond.selects RX2 yX2_readFrom yX2_readFrom ∈ wds ∧ Cond.initialized RX2 ∈ wds ∧ Cond.code yX2_readFrom cX2_readFrom 3 none ∈ wds := ⟨ml_RX5_77, im_yX2_readFrom, se_yX2_readFrom, in_RX2, cd_X2_readFrom⟩
theorem k_RX2_45 : Cond.methodLink RX2 45 yX2_addField ∈ wds ∧ Cond.instanceMethod yX2_addField ∈ wds ∧ Cond.selects RX2 yX2_addField yX2_addField ∈ wds ∧ Cond.initialized RX2 ∈ wds ∧ Cond.code yX2_addField cX2_addField 3 none ∈ wds := ⟨ml_RX2_45, im_yX2_addField, se_yX2_addField, in_RX2, cd_X2_addField⟩
theorem k_RX2_52 : Cond.methodLink RX2 52 yX3_figure ∈ wds ∧ Cond.instanceMethod yX3_figure ∈ wds ∧ Cond.selects RX3 yX3_figure yX3_figure ∈ wds ∧ Cond.initialized RX3 ∈ wds ∧ Cond.code yX3_figure cX3_figure 2 (some .int) ∈ wds := ⟨ml_RX2_52, im_yX3_figure, se_yX3_figure, in_RX3, cd_X3_figure⟩
theorem k_RX2_49 : Cond.methodLink RX2 49 yX2_addEater ∈ wds ∧ Cond.instanceMethod yX2_addEater ∈ wds ∧ Cond.selects RX2 yX2_addEater yX2_addEater ∈ wds ∧ Cond.initialized RX2 ∈ wds ∧ Cond.code yX2_addEater cX2_addEater 3 none ∈ wds := ⟨ml_RX2_49, im_yX2_addEater, se_yX2_addEater, in_RX2, cd_X2_addEater⟩
theorem k_RX5_81 : Cond.methodLink RX5 81 yX1_beginAnew ∈ wds ∧ Cond.instanceMethod yX1_beginAnew ∈ wds ∧ Cond.selects RX1 yX1_beginAnew yX1_beginAnew ∈ wds ∧ Cond.initialized RX1 ∈ wds ∧ Cond.code yX1_beginAnew cX1_beginAnew 2 none ∈ wds := ⟨ml_RX5_81, im_yX1_beginAnew, se_yX1_beginAnew, in_RX1, cd_X1_beginAnew⟩
theorem k_RL_31 : Cond.methodLink RL 31 yX5_about ∈ wds ∧ Cond.instanceMethod yX5_about ∈ wds ∧ Cond.selects RX5 yX5_about yX5_about ∈ wds ∧ Cond.initialized RX5 ∈ wds ∧ Cond.code yX5_about cX5_about 2 (some .int) ∈ wds := ⟨ml_RL_31, im_yX5_about, se_yX5_about, in_RX5, cd_X5_about⟩
theorem k_RX5_96 : Cond.methodLink RX5 96 yX1_allLoaves ∈ wds ∧ Cond.instanceMethod yX1_allLoaves ∈ wds ∧ Cond.selects RX1 yX1_allLoaves yX1_allLoaves ∈ wds ∧ Cond.initialized RX1 ∈ wds ∧ Cond.code yX1_allLoaves cX1_allLoaves 3 (some .int) ∈ wds := ⟨ml_RX5_96, im_yX1_allLoaves, se_yX1_allLoaves, in_RX1, cd_X1_allLoaves⟩
theorem k_RX5_99 : Cond.methodLink RX5 99 yX1_allSeed ∈ wds ∧ Cond.instanceMethod yX1_allSeed ∈ wds ∧ Cond.selects RX1 yX1_allSeed yX1_allSeed ∈ wds ∧ Cond.initialized RX1 ∈ wds ∧ Cond.code yX1_allSeed cX1_allSeed 3 (some .int) ∈ wds := ⟨ml_RX5_99, im_yX1_allSeed, se_yX1_allSeed, in_RX1, cd_X1_allSeed⟩
theorem k_RX5_102 : Cond.methodLink RX5 102 yX1_allDebts ∈ wds ∧ Cond.instanceMethod yX1_allDebts ∈ wds ∧ Cond.selects RX1 yX1_allDebts yX1_allDebts ∈ wds ∧ Cond.initialized RX1 ∈ wds ∧ Cond.code yX1_allDebts cX1_allDebts 3 (some .int) ∈ wds := ⟨ml_RX5_102, im_yX1_allDebts, se_yX1_allDebts, in_RX1, cd_X1_allDebts⟩
theorem k_RX1_56 : Cond.methodLink RX1 56 yX1_debtsOf ∈ wds ∧ Cond.instanceMethod yX1_debtsOf ∈ wds ∧ Cond.selects RX1 yX1_debtsOf yX1_debtsOf ∈ wds ∧ Cond.initialized RX1 ∈ wds ∧ Cond.code yX1_debtsOf cX1_debtsOf 4 (some .int) ∈ wds := ⟨ml_RX1_56, im_yX1_debtsOf, se_yX1_debtsOf, in_RX1, cd_X1_debtsOf⟩
theorem k_RX1_49 : Cond.methodLink RX1 49 yX1_debt ∈ wds ∧ Cond.instanceMethod yX1_debt ∈ wds ∧ Cond.selects RX1 yX1_debt yX1_debt ∈ wds ∧ Cond.initialized RX1 ∈ wds ∧ Cond.code yX1_debt cX1_debt 3 (some .int) ∈ wds := ⟨ml_RX1_49, im_yX1_debt, se_yX1_debt, in_RX1, cd_X1_debt⟩
theorem k_RX5_105 : Cond.methodLink RX5 105 yX1_sownFields ∈ wds ∧ Cond.instanceMethod yX1_sownFields ∈ wds ∧ Cond.selects RX1 yX1_sownFields yX1_sownFields ∈ wds ∧ Cond.initialized RX1 ∈ wds ∧ Cond.code yX1_sownFields cX1_sownFields 3 (some .int) ∈ wds := ⟨ml_RX5_105, im_yX1_sownFields, se_yX1_sownFields, in_RX1, cd_X1_sownFields⟩
theorem k_RX1_63 : Cond.methodLink RX1 63 yX1_isSown ∈ wds ∧ Cond.instanceMethod yX1_isSown ∈ wds ∧ Cond.selects RX1 yX1_isSown yX1_isSown ∈ wds ∧ Cond.initialized RX1 ∈ wds ∧ Cond.code yX1_isSown cX1_isSown 2 (some .boolean) ∈ wds := ⟨ml_RX1_63, im_yX1_isSown, se_yX1_isSown, in_RX1, cd_X1_isSown⟩
theorem k_RX5_108 : Cond.methodLink RX5 108 yX2_allEaters ∈ wds ∧ Cond.instanceMethod yX2_allEaters ∈ wds ∧ Cond.selects RX2 yX2_allEaters yX2_allEaters ∈ wds ∧ Cond.initialized RX2 ∈ wds ∧ Cond.code yX2_allEaters cX2_allEaters 1 (some .int) ∈ wds := ⟨ml_RX5_108, im_yX2_allEaters, se_yX2_allEaters, in_RX2, cd_X2_allEaters⟩
theorem k_RX5_111 : Cond.methodLink RX5 111 yX5_sownIfCome ∈ wds ∧ Cond.instanceMethod yX5_sownIfCome ∈ wds ∧ Cond.selects RX5 yX5_sownIfCome yX5_sownIfCome ∈ wds ∧ Cond.initialized RX5 ∈ wds ∧ Cond.code yX5_sownIfCome cX5_sownIfCome 2 (some .int) ∈ wds := ⟨ml_RX5_111, im_yX5_sownIfCome, se_yX5_sownIfCome, in_RX5, cd_X5_sownIfCome⟩
theorem k_RX5_184 : Cond.methodLink RX5 184 yX1_copyFrom ∈ wds ∧ Cond.instanceMethod yX1_copyFrom ∈ wds ∧ Cond.selects RX1 yX1_copyFrom yX1_copyFrom ∈ wds ∧ Cond.initialized RX1 ∈ wds ∧ Cond.code yX1_copyFrom cX1_copyFrom 2 none ∈ wds := ⟨ml_RX5_184, im_yX1_copyFrom, se_yX1_copyFrom, in_RX1, cd_X1_copyFrom⟩
theorem k_RX1_43 : Cond.methodLink RX1 43 arraycopyName ∈ wds ∧ Cond.native arraycopyName ∈ wds ∧ Cond.static arraycopyName ∈ wds ∧ Cond.initialized "java/lang/System" ∈ wds := ⟨ml_RX1_43, nm_arraycopyName, sm_arraycopyName, in_RJ10⟩
theorem k_RX5_175 : Cond.methodLink RX5 175 yX1_callOut ∈ wds ∧ Cond.instanceMethod yX1_callOut ∈ wds ∧ Cond.selects RX1 yX1_callOut yX1_callOut ∈ wds ∧ Cond.initialized RX1 ∈ wds ∧ Cond.code yX1_callOut cX1_callOut 3 none ∈ wds := ⟨ml_RX5_175, im_yX1_callOut, se_yX1_callOut, in_RX1, cd_X1_callOut⟩
theorem k_RX1_81 : Cond.methodLink RX1 81 yX1_sendOut ∈ wds ∧ Cond.instanceMethod yX1_sendOut ∈ wds ∧ Cond.selects RX1 yX1_sendOut yX1_sendOut ∈ wds ∧ Cond.initialized RX1 ∈ wds ∧ Cond.code yX1_sendOut cX1_sendOut 7 none ∈ wds := ⟨ml_RX1_81, im_yX1_sendOut, se_yX1_sendOut, in_RX1, cd_X1_sendOut⟩
theorem k_RX1_88 : Cond.methodLink RX1 88 yX1_nearestOwed ∈ wds ∧ Cond.instanceMethod yX1_nearestOwed ∈ wds ∧ Cond.selects RX1 yX1_nearestOwed yX1_nearestOwed ∈ wds ∧ Cond.initialized RX1 ∈ wds ∧ Cond.code yX1_nearestOwed cX1_nearestOwed 7 (some .int) ∈ wds := ⟨ml_RX1_88, im_yX1_nearestOwed, se_yX1_nearestOwed, in_RX1, cd_X1_nearestOwed⟩
theorem k_RX1_94 : Cond.methodLink RX1 94 Lib.Math.abs.name ∈ wds ∧ Cond.static Lib.Math.abs.name ∈ wds ∧ Cond.initialized "java/lang/Math" ∈ wds ∧ Cond.code Lib.Math.abs.name Lib.Math.abs.code 1 (some .int) ∈ wds := ⟨ml_RX1_94, sm_Lib_Math_abs_name, in_RJ9, cd_Lib_Math_abs_name⟩
theorem k_RX1_97 : Cond.methodLink RX1 97 yX1_bringSeed ∈ wds ∧ Cond.instanceMethod yX1_bringSeed ∈ wds ∧ Cond.selects RX1 yX1_bringSeed yX1_bringSeed ∈ wds ∧ Cond.initialized RX1 ∈ wds ∧ Cond.code yX1_bringSeed cX1_bringSeed 3 none ∈ wds := ⟨ml_RX1_97, im_yX1_bringSeed, se_yX1_bringSeed, in_RX1, cd_X1_bringSeed⟩
theorem k_RX1_73 : Cond.methodLink RX1 73 Lib.Math.min.name ∈ wds ∧ Cond.static Lib.Math.min.name ∈ wds ∧ Cond.initialized "java/lang/Math" ∈ wds ∧ Cond.code Lib.Math.min.name Lib.Math.min.code 2 (some .int) ∈ wds := ⟨ml_RX1_73, sm_Lib_Math_min_name, in_RJ9, cd_Lib_Math_min_name⟩
theorem k_RL_35 : Cond.methodLink RL 35 yX5_field ∈ wds ∧ Cond.instanceMethod yX5_field ∈ wds ∧ Cond.selects RX5 yX5_field yX5_field ∈ wds ∧ Cond.initialized RX5 ∈ wds ∧ Cond.code yX5_field cX5_field 3 (some .int) ∈ wds := ⟨ml_RL_35, im_yX5_field, se_yX5_field, in_RX5, cd_X5_field⟩
theorem k_RX5_116 : Cond.methodLink RX5 116 yX2_hasField ∈ wds ∧ Cond.instanceMethod yX2_hasField ∈ wds ∧ Cond.selects RX2 yX2_hasField yX2_hasField ∈ wds ∧ Cond.initialized RX2 ∈ wds ∧ Cond.code yX2_hasField cX2_hasField 2 (some .boolean) ∈ wds := ⟨ml_RX5_116, im_yX2_hasField, se_yX2_hasField, in_RX2, cd_X2_hasField⟩
theorem k_RX5_135 : Cond.methodLink RX5 135 yX1_debtorsOf ∈ wds ∧ Cond.instanceMethod yX1_debtorsOf ∈ wds ∧ Cond.selects RX1 yX1_debtorsOf yX1_debtorsOf ∈ wds ∧ Cond.initialized RX1 ∈ wds ∧ Cond.code yX1_debtorsOf cX1_debtorsOf 4 (some .int) ∈ wds := ⟨ml_RX5_135, im_yX1_debtorsOf, se_yX1_debtorsOf, in_RX1, cd_X1_debtorsOf⟩
theorem k_RL_40 : Cond.methodLink RL 40 yX5_eater ∈ wds ∧ Cond.instanceMethod yX5_eater ∈ wds ∧ Cond.selects RX5 yX5_eater yX5_eater ∈ wds ∧ Cond.initialized RX5 ∈ wds ∧ Cond.code yX5_eater cX5_eater 3 (some .int) ∈ wds := ⟨ml_RL_40, im_yX5_eater, se_yX5_eater, in_RX5, cd_X5_eater⟩
theorem k_RX5_138 : Cond.methodLink RX5 138 yX2_hasEater ∈ wds ∧ Cond.instanceMethod yX2_hasEater ∈ wds ∧ Cond.selects RX2 yX2_hasEater yX2_hasEater ∈ wds ∧ Cond.initialized RX2 ∈ wds ∧ Cond.code yX2_hasEater cX2_hasEater 2 (some .boolean) ∈ wds := ⟨ml_RX5_138, im_yX2_hasEater, se_yX2_hasEater, in_RX2, cd_X2_hasEater⟩
theorem k_RX5_150 : Cond.methodLink RX5 150 yX1_debtsOf ∈ wds ∧ Cond.instanceMethod yX1_debtsOf ∈ wds ∧ Cond.selects RX1 yX1_debtsOf yX1_debtsOf ∈ wds ∧ Cond.initialized RX1 ∈ wds ∧ Cond.code yX1_debtsOf cX1_debtsOf 4 (some .int) ∈ wds := ⟨ml_RX5_150, im_yX1_debtsOf, se_yX1_debtsOf, in_RX1, cd_X1_debtsOf⟩
theorem k_RL_44 : Cond.methodLink RL 44 yX5_owes ∈ wds ∧ Cond.instanceMethod yX5_owes ∈ wds ∧ Cond.selects RX5 yX5_owes yX5_owes ∈ wds ∧ Cond.initialized RX5 ∈ wds ∧ Cond.code yX5_owes cX5_owes 3 (some .int) ∈ wds := ⟨ml_RL_44, im_yX5_owes, se_yX5_owes, in_RX5, cd_X5_owes⟩
theorem k_RX5_159 : Cond.methodLink RX5 159 yX1_debt ∈ wds ∧ Cond.instanceMethod yX1_debt ∈ wds ∧ Cond.selects RX1 yX1_debt yX1_debt ∈ wds ∧ Cond.initialized RX1 ∈ wds ∧ Cond.code yX1_debt cX1_debt 3 (some .int) ∈ wds := ⟨ml_RX5_159, im_yX1_debt, se_yX1_debt, in_RX1, cd_X1_debt⟩
theorem k_RL_48 : Cond.methodLink RL 48 yX5_eat ∈ wds ∧ Cond.instanceMethod yX5_eat ∈ wds ∧ Cond.selects RX5 yX5_eat yX5_eat ∈ wds ∧ Cond.initialized RX5 ∈ wds ∧ Cond.code yX5_eat cX5_eat 3 (some .int) ∈ wds := ⟨ml_RL_48, im_yX5_eat, se_yX5_eat, in_RX5, cd_X5_eat⟩
theorem k_RX5_163 : Cond.methodLink RX5 163 yX1_canTake ∈ wds ∧ Cond.instanceMethod yX1_canTake ∈ wds ∧ Cond.selects RX1 yX1_canTake yX1_canTake ∈ wds ∧ Cond.initialized RX1 ∈ wds ∧ Cond.code yX1_canTake cX1_canTake 4 (some .boolean) ∈ wds := ⟨ml_RX5_163, im_yX1_canTake, se_yX1_canTake, in_RX1, cd_X1_canTake⟩
theorem k_RX1_70 : Cond.methodLink RX1 70 yX2_portionOf ∈ wds ∧ Cond.instanceMethod yX2_portionOf ∈ wds ∧ Cond.selects RX2 yX2_portionOf yX2_portionOf ∈ wds ∧ Cond.initialized RX2 ∈ wds ∧ Cond.code yX2_portionOf cX2_portionOf 2 (some .int) ∈ wds := ⟨ml_RX1_70, im_yX2_portionOf, se_yX2_portionOf, in_RX2, cd_X2_portionOf⟩
theorem k_RX5_167 : Cond.methodLink RX5 167 yX0_remember ∈ wds ∧ Cond.instanceMethod yX0_remember ∈ wds ∧ Cond.selects RX0 yX0_remember yX0_remember ∈ wds ∧ Cond.initialized RX0 ∈ wds ∧ Cond.code yX0_remember cX0_remember 2 none ∈ wds := ⟨ml_RX5_167, im_yX0_remember, se_yX0_remember, in_RX0, cd_X0_remember⟩
theorem k_RX0_27 : Cond.methodLink RX0 27 yX1_copyFrom ∈ wds ∧ Cond.instanceMethod yX1_copyFrom ∈ wds ∧ Cond.selects RX1 yX1_copyFrom yX1_copyFrom ∈ wds ∧ Cond.initialized RX1 ∈ wds ∧ Cond.code yX1_copyFrom cX1_copyFrom 2 none ∈ wds := ⟨ml_RX0_27, im_yX1_copyFrom, se_yX1_copyFrom, in_RX1, cd_X1_copyFrom⟩
theorem k_RX5_171 : Cond.methodLink RX5 171 yX1_takeLoaves ∈ wds ∧ Cond.instanceMethod yX1_takeLoaves ∈ wds ∧ Cond.selects RX1 yX1_takeLoaves yX1_takeLoaves ∈ wds ∧ Cond.initialized RX1 ∈ wds ∧ Cond.code yX1_takeLoaves cX1_takeLoaves 4 none ∈ wds := ⟨ml_RX5_171, im_yX1_takeLoaves, se_yX1_takeLoaves, in_RX1, cd_X1_takeLoaves⟩
theorem k_RL_52 : Cond.methodLink RL 52 yX5_cake ∈ wds ∧ Cond.instanceMethod yX5_cake ∈ wds ∧ Cond.selects RX5 yX5_cake yX5_cake ∈ wds ∧ Cond.initialized RX5 ∈ wds ∧ Cond.code yX5_cake cX5_cake 4 (some .int) ∈ wds := ⟨ml_RL_52, im_yX5_cake, se_yX5_cake, in_RX5, cd_X5_cake⟩
theorem k_RL_57 : Cond.methodLink RL 57 yX5_march ∈ wds ∧ Cond.instanceMethod yX5_march ∈ wds ∧ Cond.selects RX5 yX5_march yX5_march ∈ wds ∧ Cond.initialized RX5 ∈ wds ∧ Cond.code yX5_march cX5_march 1 (some .int) ∈ wds := ⟨ml_RL_57, im_yX5_march, se_yX5_march, in_RX5, cd_X5_march⟩
theorem k_RL_61 : Cond.methodLink RL 61 yX5_harvest ∈ wds ∧ Cond.instanceMethod yX5_harvest ∈ wds ∧ Cond.selects RX5 yX5_harvest yX5_harvest ∈ wds ∧ Cond.initialized RX5 ∈ wds ∧ Cond.code yX5_harvest cX5_harvest 1 (some .int) ∈ wds := ⟨ml_RL_61, im_yX5_harvest, se_yX5_harvest, in_RX5, cd_X5_harvest⟩
theorem k_RX5_178 : Cond.methodLink RX5 178 yX1_reap ∈ wds ∧ Cond.instanceMethod yX1_reap ∈ wds ∧ Cond.selects RX1 yX1_reap yX1_reap ∈ wds ∧ Cond.initialized RX1 ∈ wds ∧ Cond.code yX1_reap cX1_reap 2 none ∈ wds := ⟨ml_RX5_178, im_yX1_reap, se_yX1_reap, in_RX1, cd_X1_reap⟩
theorem k_RL_65 : Cond.methodLink RL 65 yX5_undo ∈ wds ∧ Cond.instanceMethod yX5_undo ∈ wds ∧ Cond.selects RX5 yX5_undo yX5_undo ∈ wds ∧ Cond.initialized RX5 ∈ wds ∧ Cond.code yX5_undo cX5_undo 1 (some .int) ∈ wds := ⟨ml_RL_65, im_yX5_undo, se_yX5_undo, in_RX5, cd_X5_undo⟩
theorem k_RX5_181 : Cond.methodLink RX5 181 yX0_takeBackInto ∈ wds ∧ Cond.instanceMethod yX0_takeBackInto ∈ wds ∧ Cond.selects RX0 yX0_takeBackInto yX0_takeBackInto ∈ wds ∧ Cond.initialized RX0 ∈ wds ∧ Cond.code yX0_takeBackInto cX0_takeBackInto 2 none ∈ wds := ⟨ml_RX5_181, im_yX0_takeBackInto, se_yX0_takeBackInto, in_RX0, cd_X0_takeBackInto⟩
theorem k_RL_69 : Cond.methodLink RL 69 yX5_ahead ∈ wds ∧ Cond.instanceMethod yX5_ahead ∈ wds ∧ Cond.selects RX5 yX5_ahead yX5_ahead ∈ wds ∧ Cond.initialized RX5 ∈ wds ∧ Cond.code yX5_ahead cX5_ahead 4 (some .int) ∈ wds := ⟨ml_RL_69, im_yX5_ahead, se_yX5_ahead, in_RX5, cd_X5_ahead⟩
theorem k_RL_73 : Cond.methodLink RL 73 yX5_wants ∈ wds ∧ Cond.instanceMethod yX5_wants ∈ wds ∧ Cond.selects RX5 yX5_wants yX5_wants ∈ wds ∧ Cond.initialized RX5 ∈ wds ∧ Cond.code yX5_wants cX5_wants 5 (some .int) ∈ wds := ⟨ml_RL_73, im_yX5_wants, se_yX5_wants, in_RX5, cd_X5_wants⟩
theorem k_RX5_187 : Cond.methodLink RX5 187 yJ6_bitCount_0f7a4 ∈ wds ∧ Cond.static yJ6_bitCount_0f7a4 ∈ wds ∧ Cond.initialized yJ6_bitCount_0f7a4.cls ∈ wds ∧ Cond.code yJ6_bitCount_0f7a4 cJ6_bitCount_0f7a4 1 (some .int) ∈ wds := ⟨ml_RX5_187, sm_yJ6_bitCount_0f7a4, in_RJ6, cd_J6_bitCount_0f7a4⟩
theorem k_RX5_192 : Cond.methodLink RX5 192 yX5_isSownIfFed ∈ wds ∧ Cond.instanceMethod yX5_isSownIfFed ∈ wds ∧ Cond.selects RX5 yX5_isSownIfFed yX5_isSownIfFed ∈ wds ∧ Cond.initialized RX5 ∈ wds ∧ Cond.code yX5_isSownIfFed cX5_isSownIfFed 4 (some .boolean) ∈ wds := ⟨ml_RX5_192, im_yX5_isSownIfFed, se_yX5_isSownIfFed, in_RX5, cd_X5_isSownIfFed⟩
theorem k_RX5_244 : Cond.methodLink RX5 244 yX5_tryToTake ∈ wds ∧ Cond.instanceMethod yX5_tryToTake ∈ wds ∧ Cond.selects RX5 yX5_tryToTake yX5_tryToTake ∈ wds ∧ Cond.initialized RX5 ∈ wds ∧ Cond.code yX5_tryToTake cX5_tryToTake 3 (some .boolean) ∈ wds := ⟨ml_RX5_244, im_yX5_tryToTake, se_yX5_tryToTake, in_RX5, cd_X5_tryToTake⟩
theorem k_RX5_247 : Cond.methodLink RX5 247 yX1_isSown ∈ wds ∧ Cond.instanceMethod yX1_isSown ∈ wds ∧ Cond.selects RX1 yX1_isSown yX1_isSown ∈ wds ∧ Cond.initialized RX1 ∈ wds ∧ Cond.code yX1_isSown cX1_isSown 2 (some .boolean) ∈ wds := ⟨ml_RX5_247, im_yX1_isSown, se_yX1_isSown, in_RX1, cd_X1_isSown⟩
theorem k_RL_77 : Cond.methodLink RL 77 yX5_rid ∈ wds ∧ Cond.instanceMethod yX5_rid ∈ wds ∧ Cond.selects RX5 yX5_rid yX5_rid ∈ wds ∧ Cond.initialized RX5 ∈ wds ∧ Cond.code yX5_rid cX5_rid 2 (some .int) ∈ wds := ⟨ml_RL_77, im_yX5_rid, se_yX5_rid, in_RX5, cd_X5_rid⟩
theorem k_RX5_195 : Cond.methodLink RX5 195 yX1_sendOut ∈ wds ∧ Cond.instanceMethod yX1_sendOut ∈ wds ∧ Cond.selects RX1 yX1_sendOut yX1_sendOut ∈ wds ∧ Cond.initialized RX1 ∈ wds ∧ Cond.code yX1_sendOut cX1_sendOut 7 none ∈ wds := ⟨ml_RX5_195, im_yX1_sendOut, se_yX1_sendOut, in_RX1, cd_X1_sendOut⟩
theorem k_RL_83 : Cond.methodLink RL 83 yX5_judge ∈ wds ∧ Cond.instanceMethod yX5_judge ∈ wds ∧ Cond.selects RX5 yX5_judge yX5_judge ∈ wds ∧ Cond.initialized RX5 ∈ wds ∧ Cond.code yX5_judge cX5_judge 6 (some .int) ∈ wds := ⟨ml_RL_83, im_yX5_judge, se_yX5_judge, in_RX5, cd_X5_judge⟩
theorem k_RX5_198 : Cond.methodLink RX5 198 yX5_withoutLast ∈ wds ∧ Cond.static yX5_withoutLast ∈ wds ∧ Cond.initialized yX5_withoutLast.cls ∈ wds ∧ Cond.code yX5_withoutLast cX5_withoutLast 6 (some .long) ∈ wds := ⟨ml_RX5_198, sm_yX5_withoutLast, in_RX5, cd_X5_withoutLast⟩
theorem k_RX5_204 : Cond.methodLink RX5 204 yX5_isSo ∈ wds ∧ Cond.instanceMethod yX5_isSo ∈ wds ∧ Cond.selects RX5 yX5_isSo yX5_isSo ∈ wds ∧ Cond.initialized RX5 ∈ wds ∧ Cond.code yX5_isSo cX5_isSo 4 (some .boolean) ∈ wds := ⟨ml_RX5_204, im_yX5_isSo, se_yX5_isSo, in_RX5, cd_X5_isSo⟩
theorem k_RL_88 : Cond.methodLink RL 88 yX5_share ∈ wds ∧ Cond.instanceMethod yX5_share ∈ wds ∧ Cond.selects RX5 yX5_share yX5_share ∈ wds ∧ Cond.initialized RX5 ∈ wds ∧ Cond.code yX5_share cX5_share 8 (some .int) ∈ wds := ⟨ml_RL_88, im_yX5_share, se_yX5_share, in_RX5, cd_X5_share⟩
theorem k_RX5_208 : Cond.methodLink RX5 208 yX5_ordersOf ∈ wds ∧ Cond.static yX5_ordersOf ∈ wds ∧ Cond.initialized yX5_ordersOf.cls ∈ wds ∧ Cond.code yX5_ordersOf cX5_ordersOf 4 (some .long) ∈ wds := ⟨ml_RX5_208, sm_yX5_ordersOf, in_RX5, cd_X5_ordersOf⟩
theorem k_RX5_212 : Cond.methodLink RX5 212 yX5_partOfFraction ∈ wds ∧ Cond.static yX5_partOfFraction ∈ wds ∧ Cond.initialized yX5_partOfFraction.cls ∈ wds ∧ Cond.code yX5_partOfFraction cX5_partOfFraction 12 (some .int) ∈ wds := ⟨ml_RX5_212, sm_yX5_partOfFraction, in_RX5, cd_X5_partOfFraction⟩
theorem k_RX5_250 : Cond.methodLink RX5 250 Lib.MathLoose.abs_long.x ∈ wds ∧ Cond.static Lib.MathLoose.abs_long.x ∈ wds ∧ Cond.initialized "java/lang/Math" ∈ wds ∧ Cond.code Lib.MathLoose.abs_long.x Lib.MathLoose.abs_long.code 2 (some .long) ∈ wds := ⟨ml_RX5_250, sm_Lib_MathLoose_abs_long_x, in_RJ9, cd_Lib_MathLoose_abs_long_x⟩
theorem k_RL_93 : Cond.methodLink RL 93 yX5_came ∈ wds ∧ Cond.instanceMethod yX5_came ∈ wds ∧ Cond.selects RX5 yX5_came yX5_came ∈ wds ∧ Cond.initialized RX5 ∈ wds ∧ Cond.code yX5_came cX5_came 3 (some .int) ∈ wds := ⟨ml_RL_93, im_yX5_came, se_yX5_came, in_RX5, cd_X5_came⟩
theorem k_RX5_216 : Cond.methodLink RX5 216 yX4_add ∈ wds ∧ Cond.instanceMethod yX4_add ∈ wds ∧ Cond.selects RX4 yX4_add yX4_add ∈ wds ∧ Cond.initialized RX4 ∈ wds ∧ Cond.code yX4_add cX4_add 3 none ∈ wds := ⟨ml_RX5_216, im_yX4_add, se_yX4_add, in_RX4, cd_X4_add⟩
theorem k_RL_97 : Cond.methodLink RL 97 yX5_forget ∈ wds ∧ Cond.instanceMethod yX5_forget ∈ wds ∧ Cond.selects RX5 yX5_forget yX5_forget ∈ wds ∧ Cond.initialized RX5 ∈ wds ∧ Cond.code yX5_forget cX5_forget 2 (some .int) ∈ wds := ⟨ml_RL_97, im_yX5_forget, se_yX5_forget, in_RX5, cd_X5_forget⟩
theorem k_RL_101 : Cond.methodLink RL 101 yX5_strangers ∈ wds ∧ Cond.instanceMethod yX5_strangers ∈ wds ∧ Cond.selects RX5 yX5_strangers yX5_strangers ∈ wds ∧ Cond.initialized RX5 ∈ wds ∧ Cond.code yX5_strangers cX5_strangers 5 (some .int) ∈ wds := ⟨ml_RL_101, im_yX5_strangers, se_yX5_strangers, in_RX5, cd_X5_strangers⟩
theorem k_RX5_220 : Cond.methodLink RX5 220 yX4_allowFor ∈ wds ∧ Cond.instanceMethod yX4_allowFor ∈ wds ∧ Cond.selects RX4 yX4_allowFor yX4_allowFor ∈ wds ∧ Cond.initialized RX4 ∈ wds ∧ Cond.code yX4_allowFor cX4_allowFor 5 (some .boolean) ∈ wds := ⟨ml_RX5_220, im_yX4_allowFor, se_yX4_allowFor, in_RX4, cd_X4_allowFor⟩
theorem k_RX4_23 : Cond.methodLink RX4 23 Lib.Math.abs.name ∈ wds ∧ Cond.static Lib.Math.abs.name ∈ wds ∧ Cond.initialized "java/lang/Math" ∈ wds ∧ Cond.code Lib.Math.abs.name Lib.Math.abs.code 1 (some .int) ∈ wds := ⟨ml_RX4_23, sm_Lib_Math_abs_name, in_RJ9, cd_Lib_Math_abs_name⟩
theorem k_RL_105 : Cond.methodLink RL 105 yX5_rests ∈ wds ∧ Cond.instanceMethod yX5_rests ∈ wds ∧ Cond.selects RX5 yX5_rests yX5_rests ∈ wds ∧ Cond.initialized RX5 ∈ wds ∧ Cond.code yX5_rests cX5_rests 8 (some .int) ∈ wds := ⟨ml_RL_105, im_yX5_rests, se_yX5_rests, in_RX5, cd_X5_rests⟩
theorem k_RX5_223 : Cond.methodLink RX5 223 yX5_playPair ∈ wds ∧ Cond.instanceMethod yX5_playPair ∈ wds ∧ Cond.selects RX5 yX5_playPair yX5_playPair ∈ wds ∧ Cond.initialized RX5 ∈ wds ∧ Cond.code yX5_playPair cX5_playPair 8 none ∈ wds := ⟨ml_RX5_223, im_yX5_playPair, se_yX5_playPair, in_RX5, cd_X5_playPair⟩
theorem k_RX5_227 : Cond.methodLink RX5 227 yX5_isAtRest ∈ wds ∧ Cond.instanceMethod yX5_isAtRest ∈ wds ∧ Cond.selects RX5 yX5_isAtRest yX5_isAtRest ∈ wds ∧ Cond.initialized RX5 ∈ wds ∧ Cond.code yX5_isAtRest cX5_isAtRest 4 (some .boolean) ∈ wds := ⟨ml_RX5_227, im_yX5_isAtRest, se_yX5_isAtRest, in_RX5, cd_X5_isAtRest⟩
theorem k_RL_110 : Cond.methodLink RL 110 yX5_home ∈ wds ∧ Cond.instanceMethod yX5_home ∈ wds ∧ Cond.selects RX5 yX5_home yX5_home ∈ wds ∧ Cond.initialized RX5 ∈ wds ∧ Cond.code yX5_home cX5_home 8 (some .int) ∈ wds := ⟨ml_RL_110, im_yX5_home, se_yX5_home, in_RX5, cd_X5_home⟩
theorem k_RX5_230 : Cond.methodLink RX5 230 yX5_power ∈ wds ∧ Cond.static yX5_power ∈ wds ∧ Cond.initialized yX5_power.cls ∈ wds ∧ Cond.code yX5_power cX5_power 6 (some .long) ∈ wds := ⟨ml_RX5_230, sm_yX5_power, in_RX5, cd_X5_power⟩
theorem k_RL_115 : Cond.methodLink RL 115 yX5_seed ∈ wds ∧ Cond.instanceMethod yX5_seed ∈ wds ∧ Cond.selects RX5 yX5_seed yX5_seed ∈ wds ∧ Cond.initialized RX5 ∈ wds ∧ Cond.code yX5_seed cX5_seed 5 (some .long) ∈ wds := ⟨ml_RL_115, im_yX5_seed, se_yX5_seed, in_RX5, cd_X5_seed⟩
theorem k_RL_120 : Cond.methodLink RL 120 yX5_years ∈ wds ∧ Cond.instanceMethod yX5_years ∈ wds ∧ Cond.selects RX5 yX5_years yX5_years ∈ wds ∧ Cond.initialized RX5 ∈ wds ∧ Cond.code yX5_years cX5_years 4 (some .int) ∈ wds := ⟨ml_RL_120, im_yX5_years, se_yX5_years, in_RX5, cd_X5_years⟩
theorem k_RX5_241 : Cond.methodLink RX5 241 yX5_doByLot ∈ wds ∧ Cond.instanceMethod yX5_doByLot ∈ wds ∧ Cond.selects RX5 yX5_doByLot yX5_doByLot ∈ wds ∧ Cond.initialized RX5 ∈ wds ∧ Cond.code yX5_doByLot cX5_doByLot 2 none ∈ wds := ⟨ml_RX5_241, im_yX5_doByLot, se_yX5_doByLot, in_RX5, cd_X5_doByLot⟩
theorem k_RL_124 : Cond.methodLink RL 124 yX5_keep ∈ wds ∧ Cond.instanceMethod yX5_keep ∈ wds ∧ Cond.selects RX5 yX5_keep yX5_keep ∈ wds ∧ Cond.initialized RX5 ∈ wds ∧ Cond.code yX5_keep cX5_keep 2 (some .int) ∈ wds := ⟨ml_RL_124, im_yX5_keep, se_yX5_keep, in_RX5, cd_X5_keep⟩
theorem k_RL_128 : Cond.methodLink RL 128 yX5_again ∈ wds ∧ Cond.instanceMethod yX5_again ∈ wds ∧ Cond.selects RX5 yX5_again yX5_again ∈ wds ∧ Cond.initialized RX5 ∈ wds ∧ Cond.code yX5_again cX5_again 2 (some .int) ∈ wds := ⟨ml_RL_128, im_yX5_again, se_yX5_again, in_RX5, cd_X5_again⟩
theorem k_RL_17 : Cond.methodLink RL 17 yX6_write ∈ wds ∧ Cond.instanceMethod yX6_write ∈ wds ∧ Cond.selects RX6 yX6_write yX6_write ∈ wds ∧ Cond.initialized RX6 ∈ wds ∧ Cond.code yX6_write cX6_write 2 (some .int) ∈ wds := ⟨ml_RL_17, im_yX6_write, se_yX6_write, in_RX6, cd_X6_write⟩
theorem k_RX6_75 : Cond.methodLink RX6 75 yX6_in ∈ wds ∧ Cond.static yX6_in ∈ wds ∧ Cond.initialized yX6_in.cls ∈ wds ∧ Cond.code yX6_in cX6_in 6 (some .boolean) ∈ wds := ⟨ml_RX6_75, sm_yX6_in, in_RX6, cd_X6_in⟩
theorem k_RL_22 : Cond.methodLink RL 22 yX6_wipe ∈ wds ∧ Cond.instanceMethod yX6_wipe ∈ wds ∧ Cond.selects RX6 yX6_wipe yX6_wipe ∈ wds ∧ Cond.initialized RX6 ∈ wds ∧ Cond.code yX6_wipe cX6_wipe 2 (some .int) ∈ wds := ⟨ml_RL_22, im_yX6_wipe, se_yX6_wipe, in_RX6, cd_X6_wipe⟩
theorem k_RL_26 : Cond.methodLink RL 26 yX6_fault ∈ wds ∧ Cond.instanceMethod yX6_fault ∈ wds ∧ Cond.selects RX6 yX6_fault yX6_fault ∈ wds ∧ Cond.initialized RX6 ∈ wds ∧ Cond.code yX6_fault cX6_fault 1 (some .int) ∈ wds := ⟨ml_RL_26, im_yX6_fault, se_yX6_fault, in_RX6, cd_X6_fault⟩
theorem k_RX6_110 : Cond.methodLink RX6 110 yX6_readCountry ∈ wds ∧ Cond.instanceMethod yX6_readCountry ∈ wds ∧ Cond.selects RX6 yX6_readCountry yX6_readCountry ∈ wds ∧ Cond.initialized RX6 ∈ wds ∧ Cond.code yX6_readCountry cX6_readCountry 1 (some .int) ∈ wds := ⟨ml_RX6_110, im_yX6_readCountry, se_yX6_readCountry, in_RX6, cd_X6_readCountry⟩
theorem k_RX6_107 : Cond.methodLink RX6 107 yX6_readThing ∈ wds ∧ Cond.instanceMethod yX6_readThing ∈ wds ∧ Cond.selects RX6 yX6_readThing yX6_readThing ∈ wds ∧ Cond.initialized RX6 ∈ wds ∧ Cond.code yX6_readThing cX6_readThing 2 (some .boolean) ∈ wds := ⟨ml_RX6_107, im_yX6_readThing, se_yX6_readThing, in_RX6, cd_X6_readThing⟩
theorem k_RX6_100 : Cond.methodLink RX6 100 yX6_readOneField ∈ wds ∧ Cond.instanceMethod yX6_readOneField ∈ wds ∧ Cond.selects RX6 yX6_readOneField yX6_readOneField ∈ wds ∧ Cond.initialized RX6 ∈ wds ∧ Cond.code yX6_readOneField cX6_readOneField 4 (some .boolean) ∈ wds := ⟨ml_RX6_100, im_yX6_readOneField, se_yX6_readOneField, in_RX6, cd_X6_readOneField⟩
theorem k_RX6_90 : Cond.methodLink RX6 90 yX6_figure ∈ wds ∧ Cond.instanceMethod yX6_figure ∈ wds ∧ Cond.selects RX6 yX6_figure yX6_figure ∈ wds ∧ Cond.initialized RX6 ∈ wds ∧ Cond.code yX6_figure cX6_figure 3 (some .int) ∈ wds := ⟨ml_RX6_90, im_yX6_figure, se_yX6_figure, in_RX6, cd_X6_figure⟩
theorem k_RX6_104 : Cond.methodLink RX6 104 yX6_readOneEater ∈ wds ∧ Cond.instanceMethod yX6_readOneEater ∈ wds ∧ Cond.selects RX6 yX6_readOneEater yX6_readOneEater ∈ wds ∧ Cond.initialized RX6 ∈ wds ∧ Cond.code yX6_readOneEater cX6_readOneEater 4 (some .boolean) ∈ wds := ⟨ml_RX6_104, im_yX6_readOneEater, se_yX6_readOneEater, in_RX6, cd_X6_readOneEater⟩
theorem k_RL_30 : Cond.methodLink RL 30 yX6_country ∈ wds ∧ Cond.instanceMethod yX6_country ∈ wds ∧ Cond.selects RX6 yX6_country yX6_country ∈ wds ∧ Cond.initialized RX6 ∈ wds ∧ Cond.code yX6_country cX6_country 2 (some .int) ∈ wds := ⟨ml_RL_30, im_yX6_country, se_yX6_country, in_RX6, cd_X6_country⟩
theorem k_RL_34 : Cond.methodLink RL 34 yX6_about ∈ wds ∧ Cond.instanceMethod yX6_about ∈ wds ∧ Cond.selects RX6 yX6_about yX6_about ∈ wds ∧ Cond.initialized RX6 ∈ wds ∧ Cond.code yX6_about cX6_about 2 (some .int) ∈ wds := ⟨ml_RL_34, im_yX6_about, se_yX6_about, in_RX6, cd_X6_about⟩
theorem k_RX6_145 : Cond.methodLink RX6 145 yX6_loaves ∈ wds ∧ Cond.static yX6_loaves ∈ wds ∧ Cond.initialized yX6_loaves.cls ∈ wds ∧ Cond.code yX6_loaves cX6_loaves 1 (some .int) ∈ wds := ⟨ml_RX6_145, sm_yX6_loaves, in_RX6, cd_X6_loaves⟩
theorem k_RX6_158 : Cond.methodLink RX6 158 yX6_owedTogether ∈ wds ∧ Cond.instanceMethod yX6_owedTogether ∈ wds ∧ Cond.selects RX6 yX6_owedTogether yX6_owedTogether ∈ wds ∧ Cond.initialized RX6 ∈ wds ∧ Cond.code yX6_owedTogether cX6_owedTogether 3 (some .int) ∈ wds := ⟨ml_RX6_158, im_yX6_owedTogether, se_yX6_owedTogether, in_RX6, cd_X6_owedTogether⟩
theorem k_RX6_148 : Cond.methodLink RX6 148 yX6_owesAll ∈ wds ∧ Cond.static yX6_owesAll ∈ wds ∧ Cond.initialized yX6_owesAll.cls ∈ wds ∧ Cond.code yX6_owesAll cX6_owesAll 2 (some .int) ∈ wds := ⟨ml_RX6_148, sm_yX6_owesAll, in_RX6, cd_X6_owesAll⟩
theorem k_RX6_117 : Cond.methodLink RX6 117 yX6_owed ∈ wds ∧ Cond.static yX6_owed ∈ wds ∧ Cond.initialized yX6_owed.cls ∈ wds ∧ Cond.code yX6_owed cX6_owed 3 (some .int) ∈ wds := ⟨ml_RX6_117, sm_yX6_owed, in_RX6, cd_X6_owed⟩
theorem k_RX6_141 : Cond.methodLink RX6 141 yX6_sown ∈ wds ∧ Cond.instanceMethod yX6_sown ∈ wds ∧ Cond.selects RX6 yX6_sown yX6_sown ∈ wds ∧ Cond.initialized RX6 ∈ wds ∧ Cond.code yX6_sown cX6_sown 4 (some .int) ∈ wds := ⟨ml_RX6_141, im_yX6_sown, se_yX6_sown, in_RX6, cd_X6_sown⟩
theorem k_RX6_161 : Cond.methodLink RX6 161 yX6_marched ∈ wds ∧ Cond.instanceMethod yX6_marched ∈ wds ∧ Cond.selects RX6 yX6_marched yX6_marched ∈ wds ∧ Cond.initialized RX6 ∈ wds ∧ Cond.code yX6_marched cX6_marched 2 (some .int) ∈ wds := ⟨ml_RX6_161, im_yX6_marched, se_yX6_marched, in_RX6, cd_X6_marched⟩
theorem k_RX6_152 : Cond.methodLink RX6 152 yX6_begin ∈ wds ∧ Cond.instanceMethod yX6_begin ∈ wds ∧ Cond.selects RX6 yX6_begin yX6_begin ∈ wds ∧ Cond.initialized RX6 ∈ wds ∧ Cond.code yX6_begin cX6_begin 2 none ∈ wds := ⟨ml_RX6_152, im_yX6_begin, se_yX6_begin, in_RX6, cd_X6_begin⟩
theorem k_RX6_155 : Cond.methodLink RX6 155 yX6_goMarch ∈ wds ∧ Cond.instanceMethod yX6_goMarch ∈ wds ∧ Cond.selects RX6 yX6_goMarch yX6_goMarch ∈ wds ∧ Cond.initialized RX6 ∈ wds ∧ Cond.code yX6_goMarch cX6_goMarch 4 (some .int) ∈ wds := ⟨ml_RX6_155, im_yX6_goMarch, se_yX6_goMarch, in_RX6, cd_X6_goMarch⟩
theorem k_RX6_134 : Cond.methodLink RX6 134 yX6_has ∈ wds ∧ Cond.static yX6_has ∈ wds ∧ Cond.initialized yX6_has.cls ∈ wds ∧ Cond.code yX6_has cX6_has 2 (some .boolean) ∈ wds := ⟨ml_RX6_134, sm_yX6_has, in_RX6, cd_X6_has⟩
theorem k_RX6_138 : Cond.methodLink RX6 138 yX6_goes ∈ wds ∧ Cond.instanceMethod yX6_goes ∈ wds ∧ Cond.selects RX6 yX6_goes yX6_goes ∈ wds ∧ Cond.initialized RX6 ∈ wds ∧ Cond.code yX6_goes cX6_goes 9 (some .int) ∈ wds := ⟨ml_RX6_138, im_yX6_goes, se_yX6_goes, in_RX6, cd_X6_goes⟩
theorem k_RX6_127 : Cond.methodLink RX6 127 yX6_nearest ∈ wds ∧ Cond.instanceMethod yX6_nearest ∈ wds ∧ Cond.selects RX6 yX6_nearest yX6_nearest ∈ wds ∧ Cond.initialized RX6 ∈ wds ∧ Cond.code yX6_nearest cX6_nearest 7 (some .int) ∈ wds := ⟨ml_RX6_127, im_yX6_nearest, se_yX6_nearest, in_RX6, cd_X6_nearest⟩
theorem k_RX6_121 : Cond.methodLink RX6 121 yX6_apart ∈ wds ∧ Cond.static yX6_apart ∈ wds ∧ Cond.initialized yX6_apart.cls ∈ wds ∧ Cond.code yX6_apart cX6_apart 2 (some .int) ∈ wds := ⟨ml_RX6_121, sm_yX6_apart, in_RX6, cd_X6_apart⟩
theorem k_RX6_130 : Cond.methodLink RX6 130 yX6_capped ∈ wds ∧ Cond.static yX6_capped ∈ wds ∧ Cond.initialized yX6_capped.cls ∈ wds ∧ Cond.code yX6_capped cX6_capped 1 (some .int) ∈ wds := ⟨ml_RX6_130, sm_yX6_capped, in_RX6, cd_X6_capped⟩
theorem k_RL_39 : Cond.methodLink RL 39 yX6_field ∈ wds ∧ Cond.instanceMethod yX6_field ∈ wds ∧ Cond.selects RX6 yX6_field yX6_field ∈ wds ∧ Cond.initialized RX6 ∈ wds ∧ Cond.code yX6_field cX6_field 3 (some .int) ∈ wds := ⟨ml_RL_39, im_yX6_field, se_yX6_field, in_RX6, cd_X6_field⟩
theorem k_RX6_167 : Cond.methodLink RX6 167 yX6_noField ∈ wds ∧ Cond.instanceMethod yX6_noField ∈ wds ∧ Cond.selects RX6 yX6_noField yX6_noField ∈ wds ∧ Cond.initialized RX6 ∈ wds ∧ Cond.code yX6_noField cX6_noField 2 (some .boolean) ∈ wds := ⟨ml_RX6_167, im_yX6_noField, se_yX6_noField, in_RX6, cd_X6_noField⟩
theorem k_RX6_171 : Cond.methodLink RX6 171 yX6_owing ∈ wds ∧ Cond.instanceMethod yX6_owing ∈ wds ∧ Cond.selects RX6 yX6_owing yX6_owing ∈ wds ∧ Cond.initialized RX6 ∈ wds ∧ Cond.code yX6_owing cX6_owing 4 (some .int) ∈ wds := ⟨ml_RX6_171, im_yX6_owing, se_yX6_owing, in_RX6, cd_X6_owing⟩
theorem k_RL_43 : Cond.methodLink RL 43 yX6_eater ∈ wds ∧ Cond.instanceMethod yX6_eater ∈ wds ∧ Cond.selects RX6 yX6_eater yX6_eater ∈ wds ∧ Cond.initialized RX6 ∈ wds ∧ Cond.code yX6_eater cX6_eater 4 (some .int) ∈ wds := ⟨ml_RL_43, im_yX6_eater, se_yX6_eater, in_RX6, cd_X6_eater⟩
theorem k_RX6_174 : Cond.methodLink RX6 174 yX6_noEater ∈ wds ∧ Cond.instanceMethod yX6_noEater ∈ wds ∧ Cond.selects RX6 yX6_noEater yX6_noEater ∈ wds ∧ Cond.initialized RX6 ∈ wds ∧ Cond.code yX6_noEater cX6_noEater 2 (some .boolean) ∈ wds := ⟨ml_RX6_174, im_yX6_noEater, se_yX6_noEater, in_RX6, cd_X6_noEater⟩
theorem k_RL_47 : Cond.methodLink RL 47 yX6_owes ∈ wds ∧ Cond.instanceMethod yX6_owes ∈ wds ∧ Cond.selects RX6 yX6_owes yX6_owes ∈ wds ∧ Cond.initialized RX6 ∈ wds ∧ Cond.code yX6_owes cX6_owes 3 (some .int) ∈ wds := ⟨ml_RL_47, im_yX6_owes, se_yX6_owes, in_RX6, cd_X6_owes⟩
theorem k_RL_51 : Cond.methodLink RL 51 yX6_eat ∈ wds ∧ Cond.instanceMethod yX6_eat ∈ wds ∧ Cond.selects RX6 yX6_eat yX6_eat ∈ wds ∧ Cond.initialized RX6 ∈ wds ∧ Cond.code yX6_eat cX6_eat 3 (some .int) ∈ wds := ⟨ml_RL_51, im_yX6_eat, se_yX6_eat, in_RX6, cd_X6_eat⟩
theorem k_RX6_180 : Cond.methodLink RX6 180 yX6_canEat ∈ wds ∧ Cond.instanceMethod yX6_canEat ∈ wds ∧ Cond.selects RX6 yX6_canEat yX6_canEat ∈ wds ∧ Cond.initialized RX6 ∈ wds ∧ Cond.code yX6_canEat cX6_canEat 4 (some .boolean) ∈ wds := ⟨ml_RX6_180, im_yX6_canEat, se_yX6_canEat, in_RX6, cd_X6_canEat⟩
theorem k_RX6_177 : Cond.methodLink RX6 177 yX6_bite ∈ wds ∧ Cond.instanceMethod yX6_bite ∈ wds ∧ Cond.selects RX6 yX6_bite yX6_bite ∈ wds ∧ Cond.initialized RX6 ∈ wds ∧ Cond.code yX6_bite cX6_bite 2 (some .int) ∈ wds := ⟨ml_RX6_177, im_yX6_bite, se_yX6_bite, in_RX6, cd_X6_bite⟩
theorem k_RX6_184 : Cond.methodLink RX6 184 yX6_note ∈ wds ∧ Cond.instanceMethod yX6_note ∈ wds ∧ Cond.selects RX6 yX6_note yX6_note ∈ wds ∧ Cond.initialized RX6 ∈ wds ∧ Cond.code yX6_note cX6_note 2 none ∈ wds := ⟨ml_RX6_184, im_yX6_note, se_yX6_note, in_RX6, cd_X6_note⟩
theorem k_RX6_187 : Cond.methodLink RX6 187 yX6_goEat ∈ wds ∧ Cond.instanceMethod yX6_goEat ∈ wds ∧ Cond.selects RX6 yX6_goEat yX6_goEat ∈ wds ∧ Cond.initialized RX6 ∈ wds ∧ Cond.code yX6_goEat cX6_goEat 4 none ∈ wds := ⟨ml_RX6_187, im_yX6_goEat, se_yX6_goEat, in_RX6, cd_X6_goEat⟩
theorem k_RL_56 : Cond.methodLink RL 56 yX6_cake ∈ wds ∧ Cond.instanceMethod yX6_cake ∈ wds ∧ Cond.selects RX6 yX6_cake yX6_cake ∈ wds ∧ Cond.initialized RX6 ∈ wds ∧ Cond.code yX6_cake cX6_cake 4 (some .int) ∈ wds := ⟨ml_RL_56, im_yX6_cake, se_yX6_cake, in_RX6, cd_X6_cake⟩
theorem k_RL_60 : Cond.methodLink RL 60 yX6_march ∈ wds ∧ Cond.instanceMethod yX6_march ∈ wds ∧ Cond.selects RX6 yX6_march yX6_march ∈ wds ∧ Cond.initialized RX6 ∈ wds ∧ Cond.code yX6_march cX6_march 1 (some .int) ∈ wds := ⟨ml_RL_60, im_yX6_march, se_yX6_march, in_RX6, cd_X6_march⟩
theorem k_RL_64 : Cond.methodLink RL 64 yX6_harvest ∈ wds ∧ Cond.instanceMethod yX6_harvest ∈ wds ∧ Cond.selects RX6 yX6_harvest yX6_harvest ∈ wds ∧ Cond.initialized RX6 ∈ wds ∧ Cond.code yX6_harvest cX6_harvest 1 (some .int) ∈ wds := ⟨ml_RL_64, im_yX6_harvest, se_yX6_harvest, in_RX6, cd_X6_harvest⟩
theorem k_RX6_191 : Cond.methodLink RX6 191 yX6_goHarvest ∈ wds ∧ Cond.instanceMethod yX6_goHarvest ∈ wds ∧ Cond.selects RX6 yX6_goHarvest yX6_goHarvest ∈ wds ∧ Cond.initialized RX6 ∈ wds ∧ Cond.code yX6_goHarvest cX6_goHarvest 4 (some .int) ∈ wds := ⟨ml_RX6_191, im_yX6_goHarvest, se_yX6_goHarvest, in_RX6, cd_X6_goHarvest⟩
theorem k_RL_68 : Cond.methodLink RL 68 yX6_undo ∈ wds ∧ Cond.instanceMethod yX6_undo ∈ wds ∧ Cond.selects RX6 yX6_undo yX6_undo ∈ wds ∧ Cond.initialized RX6 ∈ wds ∧ Cond.code yX6_undo cX6_undo 2 (some .int) ∈ wds := ⟨ml_RL_68, im_yX6_undo, se_yX6_undo, in_RX6, cd_X6_undo⟩
theorem k_RL_72 : Cond.methodLink RL 72 yX6_ahead ∈ wds ∧ Cond.instanceMethod yX6_ahead ∈ wds ∧ Cond.selects RX6 yX6_ahead yX6_ahead ∈ wds ∧ Cond.initialized RX6 ∈ wds ∧ Cond.code yX6_ahead cX6_ahead 4 (some .int) ∈ wds := ⟨ml_RL_72, im_yX6_ahead, se_yX6_ahead, in_RX6, cd_X6_ahead⟩
theorem k_RL_76 : Cond.methodLink RL 76 yX6_wants ∈ wds ∧ Cond.instanceMethod yX6_wants ∈ wds ∧ Cond.selects RX6 yX6_wants yX6_wants ∈ wds ∧ Cond.initialized RX6 ∈ wds ∧ Cond.code yX6_wants cX6_wants 5 (some .int) ∈ wds := ⟨ml_RL_76, im_yX6_wants, se_yX6_wants, in_RX6, cd_X6_wants⟩
theorem k_RX6_196 : Cond.methodLink RX6 196 yX6_many ∈ wds ∧ Cond.static yX6_many ∈ wds ∧ Cond.initialized yX6_many.cls ∈ wds ∧ Cond.code yX6_many cX6_many 3 (some .int) ∈ wds := ⟨ml_RX6_196, sm_yX6_many, in_RX6, cd_X6_many⟩
theorem k_RX6_199 : Cond.methodLink RX6 199 yX6_isSownBy ∈ wds ∧ Cond.instanceMethod yX6_isSownBy ∈ wds ∧ Cond.selects RX6 yX6_isSownBy yX6_isSownBy ∈ wds ∧ Cond.initialized RX6 ∈ wds ∧ Cond.code yX6_isSownBy cX6_isSownBy 4 (some .boolean) ∈ wds := ⟨ml_RX6_199, im_yX6_isSownBy, se_yX6_isSownBy, in_RX6, cd_X6_isSownBy⟩
theorem k_RL_80 : Cond.methodLink RL 80 yX6_rid ∈ wds ∧ Cond.instanceMethod yX6_rid ∈ wds ∧ Cond.selects RX6 yX6_rid yX6_rid ∈ wds ∧ Cond.initialized RX6 ∈ wds ∧ Cond.code yX6_rid cX6_rid 2 (some .int) ∈ wds := ⟨ml_RL_80, im_yX6_rid, se_yX6_rid, in_RX6, cd_X6_rid⟩
theorem k_RL_87 : Cond.methodLink RL 87 yX6_judge ∈ wds ∧ Cond.instanceMethod yX6_judge ∈ wds ∧ Cond.selects RX6 yX6_judge yX6_judge ∈ wds ∧ Cond.initialized RX6 ∈ wds ∧ Cond.code yX6_judge cX6_judge 5 (some .int) ∈ wds := ⟨ml_RL_87, im_yX6_judge, se_yX6_judge, in_RX6, cd_X6_judge⟩
theorem k_RX6_209 : Cond.methodLink RX6 209 yX6_longPower ∈ wds ∧ Cond.static yX6_longPower ∈ wds ∧ Cond.initialized yX6_longPower.cls ∈ wds ∧ Cond.code yX6_longPower cX6_longPower 6 (some .long) ∈ wds := ⟨ml_RX6_209, sm_yX6_longPower, in_RX6, cd_X6_longPower⟩
theorem k_RX6_213 : Cond.methodLink RX6 213 yX6_does ∈ wds ∧ Cond.instanceMethod yX6_does ∈ wds ∧ Cond.selects RX6 yX6_does yX6_does ∈ wds ∧ Cond.initialized RX6 ∈ wds ∧ Cond.code yX6_does cX6_does 5 (some .boolean) ∈ wds := ⟨ml_RX6_213, im_yX6_does, se_yX6_does, in_RX6, cd_X6_does⟩
theorem k_RX6_202 : Cond.methodLink RX6 202 yX6_eats ∈ wds ∧ Cond.instanceMethod yX6_eats ∈ wds ∧ Cond.selects RX6 yX6_eats yX6_eats ∈ wds ∧ Cond.initialized RX6 ∈ wds ∧ Cond.code yX6_eats cX6_eats 4 (some .boolean) ∈ wds := ⟨ml_RX6_202, im_yX6_eats, se_yX6_eats, in_RX6, cd_X6_eats⟩
theorem k_RL_92 : Cond.methodLink RL 92 yX6_share ∈ wds ∧ Cond.instanceMethod yX6_share ∈ wds ∧ Cond.selects RX6 yX6_share yX6_share ∈ wds ∧ Cond.initialized RX6 ∈ wds ∧ Cond.code yX6_share cX6_share 6 (some .int) ∈ wds := ⟨ml_RL_92, im_yX6_share, se_yX6_share, in_RX6, cd_X6_share⟩
theorem k_RX6_219 : Cond.methodLink RX6 219 yX6_ways ∈ wds ∧ Cond.static yX6_ways ∈ wds ∧ Cond.initialized yX6_ways.cls ∈ wds ∧ Cond.code yX6_ways cX6_ways 3 (some .int) ∈ wds := ⟨ml_RX6_219, sm_yX6_ways, in_RX6, cd_X6_ways⟩
theorem k_RX6_222 : Cond.methodLink RX6 222 yX6_fraction ∈ wds ∧ Cond.static yX6_fraction ∈ wds ∧ Cond.initialized yX6_fraction.cls ∈ wds ∧ Cond.code yX6_fraction cX6_fraction 4 (some .int) ∈ wds := ⟨ml_RX6_222, sm_yX6_fraction, in_RX6, cd_X6_fraction⟩
theorem k_RX6_216 : Cond.methodLink RX6 216 yX6_divisor ∈ wds ∧ Cond.static yX6_divisor ∈ wds ∧ Cond.initialized yX6_divisor.cls ∈ wds ∧ Cond.code yX6_divisor cX6_divisor 5 (some .int) ∈ wds := ⟨ml_RX6_216, sm_yX6_divisor, in_RX6, cd_X6_divisor⟩
theorem k_RL_96 : Cond.methodLink RL 96 yX6_came ∈ wds ∧ Cond.instanceMethod yX6_came ∈ wds ∧ Cond.selects RX6 yX6_came yX6_came ∈ wds ∧ Cond.initialized RX6 ∈ wds ∧ Cond.code yX6_came cX6_came 3 (some .int) ∈ wds := ⟨ml_RL_96, im_yX6_came, se_yX6_came, in_RX6, cd_X6_came⟩
theorem k_RL_100 : Cond.methodLink RL 100 yX6_forget ∈ wds ∧ Cond.instanceMethod yX6_forget ∈ wds ∧ Cond.selects RX6 yX6_forget yX6_forget ∈ wds ∧ Cond.initialized RX6 ∈ wds ∧ Cond.code yX6_forget cX6_forget 2 (some .int) ∈ wds := ⟨ml_RL_100, im_yX6_forget, se_yX6_forget, in_RX6, cd_X6_forget⟩
theorem k_RL_104 : Cond.methodLink RL 104 yX6_strangers ∈ wds ∧ Cond.instanceMethod yX6_strangers ∈ wds ∧ Cond.selects RX6 yX6_strangers yX6_strangers ∈ wds ∧ Cond.initialized RX6 ∈ wds ∧ Cond.code yX6_strangers cX6_strangers 5 (some .int) ∈ wds := ⟨ml_RL_104, im_yX6_strangers, se_yX6_strangers, in_RX6, cd_X6_strangers⟩
theorem k_RL_109 : Cond.methodLink RL 109 yX6_rests ∈ wds ∧ Cond.instanceMethod yX6_rests ∈ wds ∧ Cond.selects RX6 yX6_rests yX6_rests ∈ wds ∧ Cond.initialized RX6 ∈ wds ∧ Cond.code yX6_rests cX6_rests 9 (some .int) ∈ wds := ⟨ml_RL_109, im_yX6_rests, se_yX6_rests, in_RX6, cd_X6_rests⟩
theorem k_RL_114 : Cond.methodLink RL 114 yX6_home ∈ wds ∧ Cond.instanceMethod yX6_home ∈ wds ∧ Cond.selects RX6 yX6_home yX6_home ∈ wds ∧ Cond.initialized RX6 ∈ wds ∧ Cond.code yX6_home cX6_home 7 (some .int) ∈ wds := ⟨ml_RL_114, im_yX6_home, se_yX6_home, in_RX6, cd_X6_home⟩
theorem k_RX6_240 : Cond.methodLink RX6 240 yX6_power ∈ wds ∧ Cond.static yX6_power ∈ wds ∧ Cond.initialized yX6_power.cls ∈ wds ∧ Cond.code yX6_power cX6_power 4 (some .int) ∈ wds := ⟨ml_RX6_240, sm_yX6_power, in_RX6, cd_X6_power⟩
theorem k_RL_119 : Cond.methodLink RL 119 yX6_seed ∈ wds ∧ Cond.instanceMethod yX6_seed ∈ wds ∧ Cond.selects RX6 yX6_seed yX6_seed ∈ wds ∧ Cond.initialized RX6 ∈ wds ∧ Cond.code yX6_seed cX6_seed 5 (some .long) ∈ wds := ⟨ml_RL_119, im_yX6_seed, se_yX6_seed, in_RX6, cd_X6_seed⟩
theorem k_RL_123 : Cond.methodLink RL 123 yX6_years ∈ wds ∧ Cond.instanceMethod yX6_years ∈ wds ∧ Cond.selects RX6 yX6_years yX6_years ∈ wds ∧ Cond.initialized RX6 ∈ wds ∧ Cond.code yX6_years cX6_years 5 (some .int) ∈ wds := ⟨ml_RL_123, im_yX6_years, se_yX6_years, in_RX6, cd_X6_years⟩
theorem k_RL_127 : Cond.methodLink RL 127 yX6_keep ∈ wds ∧ Cond.instanceMethod yX6_keep ∈ wds ∧ Cond.selects RX6 yX6_keep yX6_keep ∈ wds ∧ Cond.initialized RX6 ∈ wds ∧ Cond.code yX6_keep cX6_keep 3 (some .int) ∈ wds := ⟨ml_RL_127, im_yX6_keep, se_yX6_keep, in_RX6, cd_X6_keep⟩
theorem k_RL_131 : Cond.methodLink RL 131 yX6_again ∈ wds ∧ Cond.instanceMethod yX6_again ∈ wds ∧ Cond.selects RX6 yX6_again yX6_again ∈ wds ∧ Cond.initialized RX6 ∈ wds ∧ Cond.code yX6_again cX6_again 3 (some .int) ∈ wds := ⟨ml_RL_131, im_yX6_again, se_yX6_again, in_RX6, cd_X6_again⟩
