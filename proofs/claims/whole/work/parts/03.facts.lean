def LG : List KD := [.inr (1, [none, some 1, some 4, some 12, some 18, some 21, none]), .inr (5, [none, none, some 2, some 3]), .inl 12, .inl 4, .inr (2, [none, some 5, some 6, some 7, some 8, some 9, some 10, some 11]), .inl 12, .inl 12, .inl 12, .inl 12, .inl 12, .inl 12, .inl 12, .inr (6, [none, some 13, some 14, some 15, some 16, some 17]), .inl 8, .inl 8, .inl 8, .inl 8, .inl 8, .inr (0, [none, some 19, some 20]), .inl 6, .inl 6, .inl 12]
def LO : List KD := [.inr (4, [none, none, none, none, none, none, some 1, some 2]), .inl 60, .inl 4]
def LM : List KD := [.inr (8, [some 1, some 2, some 3, some 4, none, none, some 5, none, some 6, none, none, none, none, none, none, none, some 7]), .inl 164, .inl 656, .inl 164, .inl 164, .inl 60, .inl 12, .inl 4]
def LX : List KD := [.inr (7, [some 1, some 23, some 45, some 135])]
def LH : List KD := [.inr (3, [none, some 1])]
set_option maxRecDepth 20000 in
theorem inB0 : ∀ w ∈ u_ws RX0 TX0 3, w ∈ BIG := fun w hw => big_of (List.mem_append_right _ (List.elem_iff.mp (List.all_eq_true.mp (show (u_ws RX0 TX0 3).all (fun w => tables_1.elem w) = true by decide +kernel) w hw))) (List.all_eq_true.mp (show (u_ws RX0 TX0 3).all goodWord = true by decide +kernel) w hw)
theorem fp_X0_0 : FP 0 0 .int := ⟨RX0, TX0, 3, tyX0, rfl, tyX0_ok, nmX0, by decide, rfl, by decide +kernel⟩
set_option maxRecDepth 20000 in
theorem inB1 : ∀ w ∈ u_ws RX1 TX1 7, w ∈ BIG := fun w hw => big_of (List.mem_append_right _ (List.elem_iff.mp (List.all_eq_true.mp (show (u_ws RX1 TX1 7).all (fun w => tables_1.elem w) = true by decide +kernel) w hw))) (List.all_eq_true.mp (show (u_ws RX1 TX1 7).all goodWord = true by decide +kernel) w hw)
theorem fp_X1_0 : FP 1 0 .int := ⟨RX1, TX1, 7, tyX1, rfl, tyX1_ok, nmX1, by decide, rfl, by decide +kernel⟩
theorem fp_X1_6 : FP 1 6 .int := ⟨RX1, TX1, 7, tyX1, rfl, tyX1_ok, nmX1, by decide, rfl, by decide +kernel⟩
set_option maxRecDepth 20000 in
theorem inB2 : ∀ w ∈ u_ws RX2 TX2 8, w ∈ BIG := fun w hw => big_of (List.mem_append_right _ (List.elem_iff.mp (List.all_eq_true.mp (show (u_ws RX2 TX2 8).all (fun w => tables_1.elem w) = true by decide +kernel) w hw))) (List.all_eq_true.mp (show (u_ws RX2 TX2 8).all goodWord = true by decide +kernel) w hw)
theorem fp_X2_0 : FP 2 0 .int := ⟨RX2, TX2, 8, tyX2, rfl, tyX2_ok, nmX2, by decide, rfl, by decide +kernel⟩
set_option maxRecDepth 20000 in
theorem inB3 : ∀ w ∈ u_ws RX3 TX3 2, w ∈ BIG := fun w hw => big_of (List.mem_append_right _ (List.elem_iff.mp (List.all_eq_true.mp (show (u_ws RX3 TX3 2).all (fun w => tables_1.elem w) = true by decide +kernel) w hw))) (List.all_eq_true.mp (show (u_ws RX3 TX3 2).all goodWord = true by decide +kernel) w hw)
theorem fp_X3_0 : FP 3 0 .int := ⟨RX3, TX3, 2, tyX3, rfl, tyX3_ok, nmX3, by decide, rfl, by decide +kernel⟩
set_option maxRecDepth 20000 in
theorem inB4 : ∀ w ∈ u_ws RX4 TX4 8, w ∈ BIG := fun w hw => big_of (List.mem_append_right _ (List.elem_iff.mp (List.all_eq_true.mp (show (u_ws RX4 TX4 8).all (fun w => tables_1.elem w) = true by decide +kernel) w hw))) (List.all_eq_true.mp (show (u_ws RX4 TX4 8).all goodWord = true by decide +kernel) w hw)
theorem fp_X4_0 : FP 4 0 .int := ⟨RX4, TX4, 8, tyX4, rfl, tyX4_ok, nmX4, by decide, rfl, by decide +kernel⟩
theorem fp_X4_1 : FP 4 1 .int := ⟨RX4, TX4, 8, tyX4, rfl, tyX4_ok, nmX4, by decide, rfl, by decide +kernel⟩
theorem fp_X4_2 : FP 4 2 .int := ⟨RX4, TX4, 8, tyX4, rfl, tyX4_ok, nmX4, by decide, rfl, by decide +kernel⟩
theorem fp_X4_3 : FP 4 3 .int := ⟨RX4, TX4, 8, tyX4, rfl, tyX4_ok, nmX4, by decide, rfl, by decide +kernel⟩
theorem fp_X4_4 : FP 4 4 .int := ⟨RX4, TX4, 8, tyX4, rfl, tyX4_ok, nmX4, by decide, rfl, by decide +kernel⟩
theorem fp_X4_5 : FP 4 5 .int := ⟨RX4, TX4, 8, tyX4, rfl, tyX4_ok, nmX4, by decide, rfl, by decide +kernel⟩
set_option maxRecDepth 20000 in
theorem inB5 : ∀ w ∈ u_ws RX5 TX5 4, w ∈ BIG := fun w hw => big_of (List.mem_append_right _ (List.elem_iff.mp (List.all_eq_true.mp (show (u_ws RX5 TX5 4).all (fun w => tables_1.elem w) = true by decide +kernel) w hw))) (List.all_eq_true.mp (show (u_ws RX5 TX5 4).all goodWord = true by decide +kernel) w hw)
theorem fp_X5_0 : FP 5 0 .int := ⟨RX5, TX5, 4, tyX5, rfl, tyX5_ok, nmX5, by decide, rfl, by decide +kernel⟩
theorem fp_X5_1 : FP 5 1 .int := ⟨RX5, TX5, 4, tyX5, rfl, tyX5_ok, nmX5, by decide, rfl, by decide +kernel⟩
set_option maxRecDepth 20000 in
theorem inB6 : ∀ w ∈ u_ws RX6 TX6 6, w ∈ BIG := fun w hw => big_of (List.mem_append_right _ (List.elem_iff.mp (List.all_eq_true.mp (show (u_ws RX6 TX6 6).all (fun w => tables_1.elem w) = true by decide +kernel) w hw))) (List.all_eq_true.mp (show (u_ws RX6 TX6 6).all goodWord = true by decide +kernel) w hw)
theorem fp_X6_0 : FP 6 0 .int := ⟨RX6, TX6, 6, tyX6, rfl, tyX6_ok, nmX6, by decide, rfl, by decide +kernel⟩
set_option maxRecDepth 20000 in
theorem inB7 : ∀ w ∈ u_ws RX7 TX7 4, w ∈ BIG := fun w hw => big_of (List.mem_append_right _ (List.elem_iff.mp (List.all_eq_true.mp (show (u_ws RX7 TX7 4).all (fun w => tables_1.elem w) = true by decide +kernel) w hw))) (List.all_eq_true.mp (show (u_ws RX7 TX7 4).all goodWord = true by decide +kernel) w hw)
set_option maxRecDepth 20000 in
theorem inB8 : ∀ w ∈ u_ws RX8 TX8 17, w ∈ BIG := fun w hw => big_of (List.mem_append_right _ (List.elem_iff.mp (List.all_eq_true.mp (show (u_ws RX8 TX8 17).all (fun w => tables_1.elem w) = true by decide +kernel) w hw))) (List.all_eq_true.mp (show (u_ws RX8 TX8 17).all goodWord = true by decide +kernel) w hw)
theorem fp_X8_4 : FP 8 4 .int := ⟨RX8, TX8, 17, tyX8, rfl, tyX8_ok, nmX8, by decide, rfl, by decide +kernel⟩
theorem fp_X8_5 : FP 8 5 .boolean := ⟨RX8, TX8, 17, tyX8, rfl, tyX8_ok, nmX8, by decide, rfl, by decide +kernel⟩
theorem fp_X8_7 : FP 8 7 .int := ⟨RX8, TX8, 17, tyX8, rfl, tyX8_ok, nmX8, by decide, rfl, by decide +kernel⟩
theorem fp_X8_9 : FP 8 9 .int := ⟨RX8, TX8, 17, tyX8, rfl, tyX8_ok, nmX8, by decide, rfl, by decide +kernel⟩
theorem fp_X8_10 : FP 8 10 .int := ⟨RX8, TX8, 17, tyX8, rfl, tyX8_ok, nmX8, by decide, rfl, by decide +kernel⟩
theorem fp_X8_11 : FP 8 11 .int := ⟨RX8, TX8, 17, tyX8, rfl, tyX8_ok, nmX8, by decide, rfl, by decide +kernel⟩
theorem fp_X8_12 : FP 8 12 .int := ⟨RX8, TX8, 17, tyX8, rfl, tyX8_ok, nmX8, by decide, rfl, by decide +kernel⟩
theorem fp_X8_13 : FP 8 13 .int := ⟨RX8, TX8, 17, tyX8, rfl, tyX8_ok, nmX8, by decide, rfl, by decide +kernel⟩
theorem fp_X8_14 : FP 8 14 .int := ⟨RX8, TX8, 17, tyX8, rfl, tyX8_ok, nmX8, by decide, rfl, by decide +kernel⟩
theorem fp_X8_15 : FP 8 15 .int := ⟨RX8, TX8, 17, tyX8, rfl, tyX8_ok, nmX8, by decide, rfl, by decide +kernel⟩
theorem fl_X7_12 : FL RX7 12 7 0 := ⟨RX7, TX7, 4, rfl, inB7, by decide, big_1 (i := 233) (by rfl) rfl, rfl⟩
theorem fl_X7_16 : FL RX7 16 7 1 := ⟨RX7, TX7, 4, rfl, inB7, by decide, big_1 (i := 234) (by rfl) rfl, rfl⟩
theorem fl_X7_22 : FL RX7 22 7 2 := ⟨RX7, TX7, 4, rfl, inB7, by decide, big_1 (i := 235) (by rfl) rfl, rfl⟩
theorem fl_X7_29 : FL RX7 29 7 3 := ⟨RX7, TX7, 4, rfl, inB7, by decide, big_1 (i := 236) (by rfl) rfl, rfl⟩
theorem fl_X7_80 : FL RX7 80 1 1 := ⟨RX1, TX1, 7, rfl, inB1, by decide, big_1 (i := 156) (by rfl) rfl, rfl⟩
theorem fl_X7_84 : FL RX7 84 5 3 := ⟨RX5, TX5, 4, rfl, inB5, by decide, big_1 (i := 40) (by rfl) rfl, rfl⟩
theorem fl_X7_90 : FL RX7 90 1 2 := ⟨RX1, TX1, 7, rfl, inB1, by decide, big_1 (i := 158) (by rfl) rfl, rfl⟩
theorem fl_X7_118 : FL RX7 118 2 1 := ⟨RX2, TX2, 8, rfl, inB2, by decide, big_1 (i := 61) (by rfl) rfl, rfl⟩
theorem fl_X7_121 : FL RX7 121 2 2 := ⟨RX2, TX2, 8, rfl, inB2, by decide, big_1 (i := 64) (by rfl) rfl, rfl⟩
theorem fl_X7_125 : FL RX7 125 2 3 := ⟨RX2, TX2, 8, rfl, inB2, by decide, big_1 (i := 66) (by rfl) rfl, rfl⟩
theorem fl_X7_128 : FL RX7 128 2 5 := ⟨RX2, TX2, 8, rfl, inB2, by decide, big_1 (i := 70) (by rfl) rfl, rfl⟩
theorem fl_X7_131 : FL RX7 131 2 6 := ⟨RX2, TX2, 8, rfl, inB2, by decide, big_1 (i := 73) (by rfl) rfl, rfl⟩
theorem fl_X7_134 : FL RX7 134 2 7 := ⟨RX2, TX2, 8, rfl, inB2, by decide, big_1 (i := 76) (by rfl) rfl, rfl⟩
theorem fl_X7_140 : FL RX7 140 1 3 := ⟨RX1, TX1, 7, rfl, inB1, by decide, big_1 (i := 160) (by rfl) rfl, rfl⟩
theorem fl_X7_144 : FL RX7 144 6 1 := ⟨RX6, TX6, 6, rfl, inB6, by decide, big_1 (i := 105) (by rfl) rfl, rfl⟩
theorem fl_X7_149 : FL RX7 149 6 2 := ⟨RX6, TX6, 6, rfl, inB6, by decide, big_1 (i := 108) (by rfl) rfl, rfl⟩
theorem fl_X7_152 : FL RX7 152 6 3 := ⟨RX6, TX6, 6, rfl, inB6, by decide, big_1 (i := 111) (by rfl) rfl, rfl⟩
theorem fl_X7_155 : FL RX7 155 6 4 := ⟨RX6, TX6, 6, rfl, inB6, by decide, big_1 (i := 114) (by rfl) rfl, rfl⟩
theorem fl_X7_161 : FL RX7 161 6 5 := ⟨RX6, TX6, 6, rfl, inB6, by decide, big_1 (i := 116) (by rfl) rfl, rfl⟩
theorem fl_X7_171 : FL RX7 171 1 4 := ⟨RX1, TX1, 7, rfl, inB1, by decide, big_1 (i := 162) (by rfl) rfl, rfl⟩
theorem fl_X7_175 : FL RX7 175 0 1 := ⟨RX0, TX0, 3, rfl, inB0, by decide, big_1 (i := 142) (by rfl) rfl, rfl⟩
theorem fl_X7_180 : FL RX7 180 0 2 := ⟨RX0, TX0, 3, rfl, inB0, by decide, big_1 (i := 145) (by rfl) rfl, rfl⟩
theorem fl_X7_203 : FL RX7 203 1 0 := ⟨RX1, TX1, 7, rfl, inB1, by decide, big_1 (i := 154) (by rfl) rfl, rfl⟩
theorem fl_X7_211 : FL RX7 211 5 0 := ⟨RX5, TX5, 4, rfl, inB5, by decide, big_1 (i := 35) (by rfl) rfl, rfl⟩
theorem fl_X7_214 : FL RX7 214 6 0 := ⟨RX6, TX6, 6, rfl, inB6, by decide, big_1 (i := 102) (by rfl) rfl, rfl⟩
theorem fl_X7_215 : FL RX7 215 0 0 := ⟨RX0, TX0, 3, rfl, inB0, by decide, big_1 (i := 139) (by rfl) rfl, rfl⟩
theorem fl_X7_225 : FL RX7 225 5 1 := ⟨RX5, TX5, 4, rfl, inB5, by decide, big_1 (i := 37) (by rfl) rfl, rfl⟩
theorem fl_X7_228 : FL RX7 228 3 0 := ⟨RX3, TX3, 2, rfl, inB3, by decide, big_1 (i := 190) (by rfl) rfl, rfl⟩
theorem fl_X7_229 : FL RX7 229 4 0 := ⟨RX4, TX4, 8, rfl, inB4, by decide, big_1 (i := 204) (by rfl) rfl, rfl⟩
theorem fl_X7_246 : FL RX7 246 4 2 := ⟨RX4, TX4, 8, rfl, inB4, by decide, big_1 (i := 208) (by rfl) rfl, rfl⟩
theorem fl_X7_249 : FL RX7 249 4 3 := ⟨RX4, TX4, 8, rfl, inB4, by decide, big_1 (i := 210) (by rfl) rfl, rfl⟩
theorem fl_X7_252 : FL RX7 252 4 4 := ⟨RX4, TX4, 8, rfl, inB4, by decide, big_1 (i := 212) (by rfl) rfl, rfl⟩
theorem fl_X7_255 : FL RX7 255 4 1 := ⟨RX4, TX4, 8, rfl, inB4, by decide, big_1 (i := 206) (by rfl) rfl, rfl⟩
theorem fl_X0_9 : FL RX0 9 0 1 := ⟨RX0, TX0, 3, rfl, inB0, by decide, big_1 (i := 140) (by rfl) rfl, rfl⟩
theorem fl_X0_15 : FL RX0 15 0 2 := ⟨RX0, TX0, 3, rfl, inB0, by decide, big_1 (i := 143) (by rfl) rfl, rfl⟩
theorem fl_X0_18 : FL RX0 18 0 0 := ⟨RX0, TX0, 3, rfl, inB0, by decide, big_1 (i := 137) (by rfl) rfl, rfl⟩
theorem fl_X1_12 : FL RX1 12 1 1 := ⟨RX1, TX1, 7, rfl, inB1, by decide, big_1 (i := 155) (by rfl) rfl, rfl⟩
theorem fl_X1_21 : FL RX1 21 1 2 := ⟨RX1, TX1, 7, rfl, inB1, by decide, big_1 (i := 157) (by rfl) rfl, rfl⟩
theorem fl_X1_28 : FL RX1 28 1 3 := ⟨RX1, TX1, 7, rfl, inB1, by decide, big_1 (i := 159) (by rfl) rfl, rfl⟩
theorem fl_X1_35 : FL RX1 35 1 4 := ⟨RX1, TX1, 7, rfl, inB1, by decide, big_1 (i := 161) (by rfl) rfl, rfl⟩
theorem fl_X1_39 : FL RX1 39 1 5 := ⟨RX1, TX1, 7, rfl, inB1, by decide, big_1 (i := 163) (by rfl) rfl, rfl⟩
theorem fl_X1_43 : FL RX1 43 1 0 := ⟨RX1, TX1, 7, rfl, inB1, by decide, big_1 (i := 153) (by rfl) rfl, rfl⟩
theorem fl_X1_60 : FL RX1 60 5 0 := ⟨RX5, TX5, 4, rfl, inB5, by decide, big_1 (i := 34) (by rfl) rfl, rfl⟩
theorem fl_X1_71 : FL RX1 71 6 0 := ⟨RX6, TX6, 6, rfl, inB6, by decide, big_1 (i := 101) (by rfl) rfl, rfl⟩
theorem fl_X1_72 : FL RX1 72 0 0 := ⟨RX0, TX0, 3, rfl, inB0, by decide, big_1 (i := 138) (by rfl) rfl, rfl⟩
theorem fl_X1_87 : FL RX1 87 2 1 := ⟨RX2, TX2, 8, rfl, inB2, by decide, big_1 (i := 60) (by rfl) rfl, rfl⟩
theorem fl_X1_90 : FL RX1 90 6 1 := ⟨RX6, TX6, 6, rfl, inB6, by decide, big_1 (i := 104) (by rfl) rfl, rfl⟩
theorem fl_X1_93 : FL RX1 93 6 2 := ⟨RX6, TX6, 6, rfl, inB6, by decide, big_1 (i := 107) (by rfl) rfl, rfl⟩
theorem fl_X1_96 : FL RX1 96 6 3 := ⟨RX6, TX6, 6, rfl, inB6, by decide, big_1 (i := 110) (by rfl) rfl, rfl⟩
theorem fl_X1_99 : FL RX1 99 6 4 := ⟨RX6, TX6, 6, rfl, inB6, by decide, big_1 (i := 113) (by rfl) rfl, rfl⟩
theorem fl_X1_102 : FL RX1 102 0 1 := ⟨RX0, TX0, 3, rfl, inB0, by decide, big_1 (i := 141) (by rfl) rfl, rfl⟩
theorem fl_X1_105 : FL RX1 105 0 2 := ⟨RX0, TX0, 3, rfl, inB0, by decide, big_1 (i := 144) (by rfl) rfl, rfl⟩
theorem fl_X1_112 : FL RX1 112 2 2 := ⟨RX2, TX2, 8, rfl, inB2, by decide, big_1 (i := 63) (by rfl) rfl, rfl⟩
theorem fl_X1_148 : FL RX1 148 2 3 := ⟨RX2, TX2, 8, rfl, inB2, by decide, big_1 (i := 67) (by rfl) rfl, rfl⟩
theorem fl_X1_154 : FL RX1 154 5 3 := ⟨RX5, TX5, 4, rfl, inB5, by decide, big_1 (i := 41) (by rfl) rfl, rfl⟩
theorem fl_X1_172 : FL RX1 172 2 6 := ⟨RX2, TX2, 8, rfl, inB2, by decide, big_1 (i := 74) (by rfl) rfl, rfl⟩
theorem fl_X1_175 : FL RX1 175 1 6 := ⟨RX1, TX1, 7, rfl, inB1, by decide, big_1 (i := 164) (by rfl) rfl, rfl⟩
theorem fl_X1_178 : FL RX1 178 2 5 := ⟨RX2, TX2, 8, rfl, inB2, by decide, big_1 (i := 71) (by rfl) rfl, rfl⟩
theorem fl_X1_181 : FL RX1 181 6 5 := ⟨RX6, TX6, 6, rfl, inB6, by decide, big_1 (i := 117) (by rfl) rfl, rfl⟩
theorem fl_X2_9 : FL RX2 9 2 1 := ⟨RX2, TX2, 8, rfl, inB2, by decide, big_1 (i := 59) (by rfl) rfl, rfl⟩
theorem fl_X2_15 : FL RX2 15 2 2 := ⟨RX2, TX2, 8, rfl, inB2, by decide, big_1 (i := 62) (by rfl) rfl, rfl⟩
theorem fl_X2_18 : FL RX2 18 2 3 := ⟨RX2, TX2, 8, rfl, inB2, by decide, big_1 (i := 65) (by rfl) rfl, rfl⟩
theorem fl_X2_21 : FL RX2 21 2 4 := ⟨RX2, TX2, 8, rfl, inB2, by decide, big_1 (i := 68) (by rfl) rfl, rfl⟩
theorem fl_X2_24 : FL RX2 24 2 5 := ⟨RX2, TX2, 8, rfl, inB2, by decide, big_1 (i := 69) (by rfl) rfl, rfl⟩
theorem fl_X2_27 : FL RX2 27 2 6 := ⟨RX2, TX2, 8, rfl, inB2, by decide, big_1 (i := 72) (by rfl) rfl, rfl⟩
theorem fl_X2_30 : FL RX2 30 2 7 := ⟨RX2, TX2, 8, rfl, inB2, by decide, big_1 (i := 75) (by rfl) rfl, rfl⟩
theorem fl_X2_33 : FL RX2 33 2 0 := ⟨RX2, TX2, 8, rfl, inB2, by decide, big_1 (i := 58) (by rfl) rfl, rfl⟩
theorem fl_X3_11 : FL RX3 11 3 1 := ⟨RX3, TX3, 2, rfl, inB3, by decide, big_1 (i := 191) (by rfl) rfl, rfl⟩
theorem fl_X3_18 : FL RX3 18 3 0 := ⟨RX3, TX3, 2, rfl, inB3, by decide, big_1 (i := 189) (by rfl) rfl, rfl⟩
theorem fl_X4_9 : FL RX4 9 4 6 := ⟨RX4, TX4, 8, rfl, inB4, by decide, big_1 (i := 214) (by rfl) rfl, rfl⟩
theorem fl_X4_15 : FL RX4 15 4 7 := ⟨RX4, TX4, 8, rfl, inB4, by decide, big_1 (i := 215) (by rfl) rfl, rfl⟩
theorem fl_X4_18 : FL RX4 18 4 0 := ⟨RX4, TX4, 8, rfl, inB4, by decide, big_1 (i := 203) (by rfl) rfl, rfl⟩
theorem fl_X4_23 : FL RX4 23 4 1 := ⟨RX4, TX4, 8, rfl, inB4, by decide, big_1 (i := 205) (by rfl) rfl, rfl⟩
theorem fl_X4_26 : FL RX4 26 4 5 := ⟨RX4, TX4, 8, rfl, inB4, by decide, big_1 (i := 213) (by rfl) rfl, rfl⟩
theorem fl_X4_29 : FL RX4 29 4 2 := ⟨RX4, TX4, 8, rfl, inB4, by decide, big_1 (i := 207) (by rfl) rfl, rfl⟩
theorem fl_X4_36 : FL RX4 36 4 3 := ⟨RX4, TX4, 8, rfl, inB4, by decide, big_1 (i := 209) (by rfl) rfl, rfl⟩
theorem fl_X4_39 : FL RX4 39 4 4 := ⟨RX4, TX4, 8, rfl, inB4, by decide, big_1 (i := 211) (by rfl) rfl, rfl⟩
theorem fl_X5_9 : FL RX5 9 5 2 := ⟨RX5, TX5, 4, rfl, inB5, by decide, big_1 (i := 38) (by rfl) rfl, rfl⟩
theorem fl_X5_15 : FL RX5 15 5 3 := ⟨RX5, TX5, 4, rfl, inB5, by decide, big_1 (i := 39) (by rfl) rfl, rfl⟩
theorem fl_X5_18 : FL RX5 18 5 0 := ⟨RX5, TX5, 4, rfl, inB5, by decide, big_1 (i := 33) (by rfl) rfl, rfl⟩
theorem fl_X5_22 : FL RX5 22 5 1 := ⟨RX5, TX5, 4, rfl, inB5, by decide, big_1 (i := 36) (by rfl) rfl, rfl⟩
theorem fl_X6_9 : FL RX6 9 6 1 := ⟨RX6, TX6, 6, rfl, inB6, by decide, big_1 (i := 103) (by rfl) rfl, rfl⟩
theorem fl_X6_15 : FL RX6 15 6 2 := ⟨RX6, TX6, 6, rfl, inB6, by decide, big_1 (i := 106) (by rfl) rfl, rfl⟩
theorem fl_X6_18 : FL RX6 18 6 3 := ⟨RX6, TX6, 6, rfl, inB6, by decide, big_1 (i := 109) (by rfl) rfl, rfl⟩
theorem fl_X6_21 : FL RX6 21 6 4 := ⟨RX6, TX6, 6, rfl, inB6, by decide, big_1 (i := 112) (by rfl) rfl, rfl⟩
theorem fl_X6_24 : FL RX6 24 6 5 := ⟨RX6, TX6, 6, rfl, inB6, by decide, big_1 (i := 115) (by rfl) rfl, rfl⟩
theorem fl_X6_27 : FL RX6 27 6 0 := ⟨RX6, TX6, 6, rfl, inB6, by decide, big_1 (i := 100) (by rfl) rfl, rfl⟩
theorem fl_X8_7 : FL RX8 7 8 0 := ⟨RX8, TX8, 17, rfl, inB8, by decide, big_3 (i := 212) (by rfl) rfl, rfl⟩
theorem fl_X8_13 : FL RX8 13 8 1 := ⟨RX8, TX8, 17, rfl, inB8, by decide, big_3 (i := 213) (by rfl) rfl, rfl⟩
theorem fl_X8_16 : FL RX8 16 8 2 := ⟨RX8, TX8, 17, rfl, inB8, by decide, big_3 (i := 214) (by rfl) rfl, rfl⟩
theorem fl_X8_19 : FL RX8 19 8 3 := ⟨RX8, TX8, 17, rfl, inB8, by decide, big_3 (i := 215) (by rfl) rfl, rfl⟩
theorem fl_X8_22 : FL RX8 22 8 6 := ⟨RX8, TX8, 17, rfl, inB8, by decide, big_3 (i := 218) (by rfl) rfl, rfl⟩
theorem fl_X8_25 : FL RX8 25 8 8 := ⟨RX8, TX8, 17, rfl, inB8, by decide, big_3 (i := 220) (by rfl) rfl, rfl⟩
theorem fl_X8_28 : FL RX8 28 8 16 := ⟨RX8, TX8, 17, rfl, inB8, by decide, big_3 (i := 228) (by rfl) rfl, rfl⟩
theorem fl_X8_31 : FL RX8 31 8 4 := ⟨RX8, TX8, 17, rfl, inB8, by decide, big_3 (i := 216) (by rfl) rfl, rfl⟩
theorem fl_X8_35 : FL RX8 35 8 5 := ⟨RX8, TX8, 17, rfl, inB8, by decide, big_3 (i := 217) (by rfl) rfl, rfl⟩
theorem fl_X8_91 : FL RX8 91 8 9 := ⟨RX8, TX8, 17, rfl, inB8, by decide, big_3 (i := 221) (by rfl) rfl, rfl⟩
theorem fl_X8_146 : FL RX8 146 8 7 := ⟨RX8, TX8, 17, rfl, inB8, by decide, big_3 (i := 219) (by rfl) rfl, rfl⟩
theorem fl_X8_149 : FL RX8 149 8 10 := ⟨RX8, TX8, 17, rfl, inB8, by decide, big_3 (i := 222) (by rfl) rfl, rfl⟩
theorem fl_X8_155 : FL RX8 155 8 15 := ⟨RX8, TX8, 17, rfl, inB8, by decide, big_3 (i := 227) (by rfl) rfl, rfl⟩
theorem fl_X8_187 : FL RX8 187 8 11 := ⟨RX8, TX8, 17, rfl, inB8, by decide, big_3 (i := 223) (by rfl) rfl, rfl⟩
theorem fl_X8_190 : FL RX8 190 8 14 := ⟨RX8, TX8, 17, rfl, inB8, by decide, big_3 (i := 226) (by rfl) rfl, rfl⟩
theorem fl_X8_199 : FL RX8 199 8 12 := ⟨RX8, TX8, 17, rfl, inB8, by decide, big_3 (i := 224) (by rfl) rfl, rfl⟩
theorem fl_X8_202 : FL RX8 202 8 13 := ⟨RX8, TX8, 17, rfl, inB8, by decide, big_3 (i := 225) (by rfl) rfl, rfl⟩
theorem ml_X7_11 : Cond.methodLink RX7 11 yX1_init ∈ BIG := big_1 (i := 23) (by rfl) rfl
theorem ml_X7_21 : Cond.methodLink RX7 21 yX3_init ∈ BIG := big_1 (i := 182) (by rfl) rfl
theorem ml_X7_28 : Cond.methodLink RX7 28 yX4_init ∈ BIG := big_1 (i := 199) (by rfl) rfl
theorem ml_X7_33 : Cond.methodLink RX7 33 yX7_startTrial ∈ BIG := big_2 (i := 10) (by rfl) rfl
theorem ml_X7_36 : Cond.methodLink RX7 36 yX1_addPlayer ∈ BIG := big_2 (i := 46) (by rfl) rfl
theorem ml_X7_40 : Cond.methodLink RX7 40 yX7_keepTrial ∈ BIG := big_2 (i := 51) (by rfl) rfl
theorem ml_X7_44 : Cond.methodLink RX7 44 yX1_setSize ∈ BIG := big_2 (i := 68) (by rfl) rfl
theorem ml_X7_48 : Cond.methodLink RX7 48 yX1_addTask ∈ BIG := big_2 (i := 96) (by rfl) rfl
theorem ml_X7_52 : Cond.methodLink RX7 52 yX1_layContract ∈ BIG := big_2 (i := 104) (by rfl) rfl
theorem ml_X7_56 : Cond.methodLink RX7 56 yX1_putWorker ∈ BIG := big_2 (i := 112) (by rfl) rfl
theorem ml_X7_59 : Cond.methodLink RX7 59 yX1_takeHome ∈ BIG := big_2 (i := 158) (by rfl) rfl
theorem ml_X7_62 : Cond.methodLink RX7 62 yX1_flipByHand ∈ BIG := big_2 (i := 166) (by rfl) rfl
theorem ml_X7_65 : Cond.methodLink RX7 65 yX1_buyContract ∈ BIG := big_2 (i := 195) (by rfl) rfl
theorem ml_X7_68 : Cond.methodLink RX7 68 yX1_letPass ∈ BIG := big_2 (i := 211) (by rfl) rfl
theorem ml_X7_71 : Cond.methodLink RX7 71 yX1_hasPlayer ∈ BIG := big_2 (i := 237) (by rfl) rfl
theorem ml_X7_75 : Cond.methodLink RX7 75 yX7_within ∈ BIG := big_2 (i := 238) (by rfl) rfl
theorem ml_X7_94 : Cond.methodLink RX7 94 yX2_worksOf ∈ BIG := big_3 (i := 0) (by rfl) rfl
theorem ml_X7_99 : Cond.methodLink RX7 99 yX2_outOf ∈ BIG := big_3 (i := 8) (by rfl) rfl
theorem ml_X7_102 : Cond.methodLink RX7 102 yX2_waitingOf ∈ BIG := big_3 (i := 12) (by rfl) rfl
theorem ml_X7_105 : Cond.methodLink RX7 105 yX1_untilOneIsOut ∈ BIG := big_3 (i := 16) (by rfl) rfl
theorem ml_X7_108 : Cond.methodLink RX7 108 yX5_amountOf ∈ BIG := big_3 (i := 23) (by rfl) rfl
theorem ml_X7_111 : Cond.methodLink RX7 111 yX1_hasWorker ∈ BIG := big_3 (i := 28) (by rfl) rfl
theorem ml_X7_115 : Cond.methodLink RX7 115 yX7_glassOf ∈ BIG := big_3 (i := 29) (by rfl) rfl
theorem ml_X7_137 : Cond.methodLink RX7 137 yX1_hasTask ∈ BIG := big_3 (i := 35) (by rfl) rfl
theorem ml_X7_158 : Cond.methodLink RX7 158 yX1_placesLeft ∈ BIG := big_3 (i := 36) (by rfl) rfl
theorem ml_X7_162 : Cond.methodLink RX7 162 yX2_atPlace ∈ BIG := big_3 (i := 41) (by rfl) rfl
theorem ml_X7_165 : Cond.methodLink RX7 165 yX7_toldOf ∈ BIG := big_3 (i := 49) (by rfl) rfl
theorem ml_X7_168 : Cond.methodLink RX7 168 yX1_hasContract ∈ BIG := big_3 (i := 57) (by rfl) rfl
theorem ml_X7_181 : Cond.methodLink RX7 181 yX5_allWhoHave ∈ BIG := big_3 (i := 58) (by rfl) rfl
theorem ml_X7_184 : Cond.methodLink RX7 184 yX2_nextOut ∈ BIG := big_3 (i := 67) (by rfl) rfl
theorem ml_X7_187 : Cond.methodLink RX7 187 yX1_advance ∈ BIG := big_3 (i := 72) (by rfl) rfl
theorem ml_X7_190 : Cond.methodLink RX7 190 yX2_isOut ∈ BIG := big_3 (i := 77) (by rfl) rfl
theorem ml_X7_194 : Cond.methodLink RX7 194 yX1_bestTask ∈ BIG := big_3 (i := 79) (by rfl) rfl
theorem ml_X7_197 : Cond.methodLink RX7 197 yX6_differenceOf ∈ BIG := big_3 (i := 91) (by rfl) rfl
theorem ml_X7_200 : Cond.methodLink RX7 200 yX1_untilAffordable ∈ BIG := big_3 (i := 96) (by rfl) rfl
theorem ml_X7_207 : Cond.methodLink RX7 207 yX7_bitsOfShare ∈ BIG := big_3 (i := 105) (by rfl) rfl
theorem ml_X7_216 : Cond.methodLink RX7 216 yX2_allWorks ∈ BIG := big_3 (i := 114) (by rfl) rfl
theorem ml_X7_219 : Cond.methodLink RX7 219 yX2_allFlips ∈ BIG := big_3 (i := 121) (by rfl) rfl
theorem ml_X7_222 : Cond.methodLink RX7 222 yX5_ahead ∈ BIG := big_3 (i := 125) (by rfl) rfl
theorem ml_X7_232 : Cond.methodLink RX7 232 yX3_restore ∈ BIG := big_3 (i := 142) (by rfl) rfl
theorem ml_X7_236 : Cond.methodLink RX7 236 yX4_append ∈ BIG := big_3 (i := 151) (by rfl) rfl
theorem ml_X7_239 : Cond.methodLink RX7 239 yX4_clear ∈ BIG := big_3 (i := 160) (by rfl) rfl
theorem ml_X7_242 : Cond.methodLink RX7 242 yX4_obeyAll ∈ BIG := big_3 (i := 168) (by rfl) rfl
theorem ml_X7_258 : Cond.methodLink RX7 258 yX1_copyFrom ∈ BIG := big_2 (i := 14) (by rfl) rfl
theorem ml_X7_262 : Cond.methodLink RX7 262 yX3_record ∈ BIG := big_2 (i := 55) (by rfl) rfl
theorem ml_X7_265 : Cond.methodLink RX7 265 yX7_amountIn ∈ BIG := big_3 (i := 90) (by rfl) rfl
theorem ml_X7_268 : Cond.methodLink RX7 268 yX7_playerWith ∈ BIG := big_3 (i := 52) (by rfl) rfl
theorem ml_X1_11 : Cond.methodLink RX1 11 yX5_init ∈ BIG := big_1 (i := 29) (by rfl) rfl
theorem ml_X1_20 : Cond.methodLink RX1 20 yX2_init ∈ BIG := big_1 (i := 54) (by rfl) rfl
theorem ml_X1_27 : Cond.methodLink RX1 27 yX6_init ∈ BIG := big_1 (i := 96) (by rfl) rfl
theorem ml_X1_34 : Cond.methodLink RX1 34 yX0_init ∈ BIG := big_1 (i := 133) (by rfl) rfl
theorem ml_X1_47 : Cond.methodLink RX1 47 yX5_copyFrom ∈ BIG := big_2 (i := 18) (by rfl) rfl
theorem ml_X1_51 : Cond.methodLink RX1 51 yX2_copyFrom ∈ BIG := big_2 (i := 31) (by rfl) rfl
theorem ml_X1_54 : Cond.methodLink RX1 54 yX6_copyFrom ∈ BIG := big_2 (i := 36) (by rfl) rfl
theorem ml_X1_57 : Cond.methodLink RX1 57 yX0_copyFrom ∈ BIG := big_2 (i := 41) (by rfl) rfl
theorem ml_X1_67 : Cond.methodLink RX1 67 yX1_hasPlayer ∈ BIG := big_2 (i := 76) (by rfl) rfl
theorem ml_X1_74 : Cond.methodLink RX1 74 yX1_hasWorker ∈ BIG := big_2 (i := 72) (by rfl) rfl
theorem ml_X1_83 : Cond.methodLink RX1 83 yX2_isOut ∈ BIG := big_2 (i := 87) (by rfl) rfl
theorem ml_X1_108 : Cond.methodLink RX1 108 yX2_numberOn ∈ BIG := big_2 (i := 128) (by rfl) rfl
theorem ml_X1_115 : Cond.methodLink RX1 115 yX1_placesLeft ∈ BIG := big_2 (i := 124) (by rfl) rfl
theorem ml_X1_121 : Cond.methodLink RX1 121 yX5_have ∈ BIG := big_2 (i := 135) (by rfl) rfl
theorem ml_X1_124 : Cond.methodLink RX1 124 yX1_hasTask ∈ BIG := big_2 (i := 116) (by rfl) rfl
theorem ml_X1_127 : Cond.methodLink RX1 127 yX1_canBePut ∈ BIG := big_2 (i := 120) (by rfl) rfl
theorem ml_X1_130 : Cond.methodLink RX1 130 yX5_pay ∈ BIG := big_2 (i := 146) (by rfl) rfl
theorem ml_X1_134 : Cond.methodLink RX1 134 yX2_start ∈ BIG := big_2 (i := 150) (by rfl) rfl
theorem ml_X1_137 : Cond.methodLink RX1 137 yX2_flipOne ∈ BIG := big_2 (i := 170) (by rfl) rfl
theorem ml_X1_141 : Cond.methodLink RX1 141 yX1_addIfDue ∈ BIG := big_2 (i := 174) (by rfl) rfl
theorem ml_X1_144 : Cond.methodLink RX1 144 yX1_finishDue ∈ BIG := big_2 (i := 178) (by rfl) rfl
theorem ml_X1_151 : Cond.methodLink RX1 151 yX1_hasContract ∈ BIG := big_2 (i := 199) (by rfl) rfl
theorem ml_X1_155 : Cond.methodLink RX1 155 yX0_remove ∈ BIG := big_2 (i := 203) (by rfl) rfl
theorem ml_X1_158 : Cond.methodLink RX1 158 yX1_advance ∈ BIG := big_2 (i := 215) (by rfl) rfl
theorem ml_X1_161 : Cond.methodLink RX1 161 yX2_untilNextOut ∈ BIG := big_2 (i := 219) (by rfl) rfl
theorem ml_X1_182 : Cond.methodLink RX1 182 yX5_gain ∈ BIG := big_2 (i := 182) (by rfl) rfl
theorem ml_X1_184 : Cond.methodLink RX1 184 yX1_takeEffect ∈ BIG := big_2 (i := 187) (by rfl) rfl
theorem ml_X1_187 : Cond.methodLink RX1 187 yX2_outOf ∈ BIG := big_3 (i := 20) (by rfl) rfl
theorem ml_X1_191 : Cond.methodLink RX1 191 yX2_worksOf ∈ BIG := big_3 (i := 22) (by rfl) rfl
theorem ml_X1_194 : Cond.methodLink RX1 194 yX6_differenceOf ∈ BIG := big_3 (i := 83) (by rfl) rfl
theorem ml_X1_197 : Cond.methodLink RX1 197 yX1_putWorker ∈ BIG := big_3 (i := 100) (by rfl) rfl
theorem ml_X2_41 : Cond.methodLink RX2 41 yX2_aheadOnTask ∈ BIG := big_3 (i := 45) (by rfl) rfl
theorem ml_X2_45 : Cond.methodLink RX2 45 yX2_isOut ∈ BIG := big_2 (i := 227) (by rfl) rfl
theorem ml_X2_49 : Cond.methodLink RX2 49 yX2_nextOut ∈ BIG := big_2 (i := 223) (by rfl) rfl
theorem ml_X2_58 : Cond.methodLink RX2 58 yX2_sumOf ∈ BIG := big_3 (i := 4) (by rfl) rfl
theorem ml_X2_62 : Cond.methodLink RX2 62 yX2_sumOfAll ∈ BIG := big_3 (i := 118) (by rfl) rfl
theorem ml_X3_17 : Cond.methodLink RX3 17 yX1_init ∈ BIG := big_1 (i := 188) (by rfl) rfl
theorem ml_X3_22 : Cond.methodLink RX3 22 yX3_dropOldest ∈ BIG := big_2 (i := 59) (by rfl) rfl
theorem ml_X3_25 : Cond.methodLink RX3 25 yX1_copyFrom ∈ BIG := big_2 (i := 63) (by rfl) rfl
theorem ml_X4_32 : Cond.methodLink RX4 32 yX4_readOrder ∈ BIG := big_3 (i := 172) (by rfl) rfl
theorem ml_X4_42 : Cond.methodLink RX4 42 yX4_signAt ∈ BIG := big_3 (i := 176) (by rfl) rfl
theorem ml_X4_46 : Cond.methodLink RX4 46 yX4_obey ∈ BIG := big_3 (i := 192) (by rfl) rfl
theorem ml_X4_50 : Cond.methodLink RX4 50 yX4_numbersOf ∈ BIG := big_3 (i := 181) (by rfl) rfl
theorem ml_X4_53 : Cond.methodLink RX4 53 yX4_readNumber ∈ BIG := big_3 (i := 184) (by rfl) rfl
theorem ml_X4_57 : Cond.methodLink RX4 57 yX4_readSign ∈ BIG := big_3 (i := 188) (by rfl) rfl
theorem ml_X4_64 : Cond.methodLink RX4 64 yX1_addTask ∈ BIG := big_3 (i := 196) (by rfl) rfl
theorem ml_X4_70 : Cond.methodLink RX4 70 yX1_putWorker ∈ BIG := big_3 (i := 197) (by rfl) rfl
theorem ml_X4_74 : Cond.methodLink RX4 74 yX1_takeHome ∈ BIG := big_3 (i := 198) (by rfl) rfl
theorem ml_X4_78 : Cond.methodLink RX4 78 yX1_layContract ∈ BIG := big_3 (i := 199) (by rfl) rfl
theorem ml_X4_81 : Cond.methodLink RX4 81 yX1_buyContract ∈ BIG := big_3 (i := 200) (by rfl) rfl
theorem ml_X4_84 : Cond.methodLink RX4 84 yX1_letPass ∈ BIG := big_3 (i := 201) (by rfl) rfl
theorem ml_X5_29 : Cond.methodLink RX5 29 yX5_amountOf ∈ BIG := big_2 (i := 139) (by rfl) rfl
theorem ml_X5_36 : Cond.methodLink RX5 36 yX5_have ∈ BIG := big_3 (i := 62) (by rfl) rfl
theorem ml_X5_45 : Cond.methodLink RX5 45 yX5_allGoodsOf ∈ BIG := big_3 (i := 134) (by rfl) rfl
theorem ml_X5_50 : Cond.methodLink RX5 50 yX5_isAheadOf ∈ BIG := big_3 (i := 130) (by rfl) rfl
theorem ml_L_9 : Cond.methodLink RL 9 yX7_init ∈ BIG := big_1 (i := 15) (by rfl) rfl
theorem ml_L_12 : Cond.methodLink RL 12 yX8_init ∈ BIG := big_3 (i := 208) (by rfl) rfl
theorem ml_L_13 : Cond.methodLink RL 13 yX7_player ∈ BIG := big_2 (i := 6) (by rfl) rfl
theorem ml_L_17 : Cond.methodLink RL 17 yX8_player ∈ BIG := big_4 (i := 24) (by rfl) rfl
theorem ml_L_18 : Cond.methodLink RL 18 yX7_size ∈ BIG := big_2 (i := 64) (by rfl) rfl
theorem ml_L_22 : Cond.methodLink RL 22 yX8_size ∈ BIG := big_4 (i := 33) (by rfl) rfl
theorem ml_L_23 : Cond.methodLink RL 23 yX7_task ∈ BIG := big_2 (i := 92) (by rfl) rfl
theorem ml_L_27 : Cond.methodLink RL 27 yX8_task ∈ BIG := big_4 (i := 54) (by rfl) rfl
theorem ml_L_28 : Cond.methodLink RL 28 yX7_contract ∈ BIG := big_2 (i := 100) (by rfl) rfl
theorem ml_L_32 : Cond.methodLink RL 32 yX8_contract ∈ BIG := big_4 (i := 58) (by rfl) rfl
theorem ml_L_33 : Cond.methodLink RL 33 yX7_put ∈ BIG := big_2 (i := 108) (by rfl) rfl
theorem ml_L_36 : Cond.methodLink RL 36 yX8_put ∈ BIG := big_4 (i := 62) (by rfl) rfl
theorem ml_L_37 : Cond.methodLink RL 37 yX7_home ∈ BIG := big_2 (i := 154) (by rfl) rfl
theorem ml_L_40 : Cond.methodLink RL 40 yX8_home ∈ BIG := big_4 (i := 101) (by rfl) rfl
theorem ml_L_41 : Cond.methodLink RL 41 yX7_flip ∈ BIG := big_2 (i := 162) (by rfl) rfl
theorem ml_L_44 : Cond.methodLink RL 44 yX8_flip ∈ BIG := big_4 (i := 105) (by rfl) rfl
theorem ml_L_45 : Cond.methodLink RL 45 yX7_buy ∈ BIG := big_2 (i := 191) (by rfl) rfl
theorem ml_L_48 : Cond.methodLink RL 48 yX8_buy ∈ BIG := big_4 (i := 121) (by rfl) rfl
theorem ml_L_49 : Cond.methodLink RL 49 yX7_pass ∈ BIG := big_2 (i := 207) (by rfl) rfl
theorem ml_L_53 : Cond.methodLink RL 53 yX8_pass ∈ BIG := big_4 (i := 129) (by rfl) rfl
theorem ml_L_54 : Cond.methodLink RL 54 yX7_playerOf ∈ BIG := big_2 (i := 233) (by rfl) rfl
theorem ml_L_57 : Cond.methodLink RL 57 yX8_playerOf ∈ BIG := big_4 (i := 137) (by rfl) rfl
theorem ml_L_58 : Cond.methodLink RL 58 yX7_workerOf ∈ BIG := big_3 (i := 24) (by rfl) rfl
theorem ml_L_61 : Cond.methodLink RL 61 yX8_workerOf ∈ BIG := big_4 (i := 157) (by rfl) rfl
theorem ml_L_62 : Cond.methodLink RL 62 yX7_taskOf ∈ BIG := big_3 (i := 31) (by rfl) rfl
theorem ml_L_65 : Cond.methodLink RL 65 yX8_taskOf ∈ BIG := big_4 (i := 161) (by rfl) rfl
theorem ml_L_66 : Cond.methodLink RL 66 yX7_on ∈ BIG := big_3 (i := 37) (by rfl) rfl
theorem ml_L_69 : Cond.methodLink RL 69 yX8_on ∈ BIG := big_4 (i := 165) (by rfl) rfl
theorem ml_L_70 : Cond.methodLink RL 70 yX7_contractOf ∈ BIG := big_3 (i := 53) (by rfl) rfl
theorem ml_L_73 : Cond.methodLink RL 73 yX8_contractOf ∈ BIG := big_4 (i := 172) (by rfl) rfl
theorem ml_L_74 : Cond.methodLink RL 74 yX7_next ∈ BIG := big_3 (i := 63) (by rfl) rfl
theorem ml_L_77 : Cond.methodLink RL 77 yX8_next ∈ BIG := big_4 (i := 176) (by rfl) rfl
theorem ml_L_78 : Cond.methodLink RL 78 yX7_would ∈ BIG := big_3 (i := 68) (by rfl) rfl
theorem ml_L_81 : Cond.methodLink RL 81 yX8_would ∈ BIG := big_4 (i := 184) (by rfl) rfl
theorem ml_L_82 : Cond.methodLink RL 82 yX7_best ∈ BIG := big_3 (i := 73) (by rfl) rfl
theorem ml_L_85 : Cond.methodLink RL 85 yX8_best ∈ BIG := big_4 (i := 188) (by rfl) rfl
theorem ml_L_86 : Cond.methodLink RL 86 yX7_earns ∈ BIG := big_3 (i := 92) (by rfl) rfl
theorem ml_L_89 : Cond.methodLink RL 89 yX8_earns ∈ BIG := big_4 (i := 196) (by rfl) rfl
theorem ml_L_90 : Cond.methodLink RL 90 yX7_busy ∈ BIG := big_3 (i := 101) (by rfl) rfl
theorem ml_L_93 : Cond.methodLink RL 93 yX8_busy ∈ BIG := big_4 (i := 200) (by rfl) rfl
theorem ml_L_94 : Cond.methodLink RL 94 yX7_count ∈ BIG := big_3 (i := 110) (by rfl) rfl
theorem ml_L_97 : Cond.methodLink RL 97 yX8_count ∈ BIG := big_4 (i := 214) (by rfl) rfl
theorem ml_L_98 : Cond.methodLink RL 98 yX7_undo ∈ BIG := big_3 (i := 138) (by rfl) rfl
theorem ml_L_101 : Cond.methodLink RL 101 yX8_undo ∈ BIG := big_4 (i := 226) (by rfl) rfl
theorem ml_L_102 : Cond.methodLink RL 102 yX7_type ∈ BIG := big_3 (i := 147) (by rfl) rfl
theorem ml_L_105 : Cond.methodLink RL 105 yX8_type ∈ BIG := big_4 (i := 230) (by rfl) rfl
theorem ml_L_106 : Cond.methodLink RL 106 yX7_clearText ∈ BIG := big_3 (i := 156) (by rfl) rfl
theorem ml_L_109 : Cond.methodLink RL 109 yX8_clearText ∈ BIG := big_4 (i := 234) (by rfl) rfl
theorem ml_L_110 : Cond.methodLink RL 110 yX7_fault ∈ BIG := big_3 (i := 164) (by rfl) rfl
theorem ml_L_113 : Cond.methodLink RL 113 yX8_fault ∈ BIG := big_4 (i := 238) (by rfl) rfl
theorem ml_L_114 : Cond.methodLink RL 114 yX7_play ∈ BIG := big_3 (i := 202) (by rfl) rfl
theorem ml_L_117 : Cond.methodLink RL 117 yX8_play ∈ BIG := big_5 (i := 35) (by rfl) rfl
theorem ml_X8_39 : Cond.methodLink RX8 39 yX8_isPlayer ∈ BIG := big_4 (i := 41) (by rfl) rfl
theorem ml_X8_43 : Cond.methodLink RX8 43 yX8_in ∈ BIG := big_4 (i := 45) (by rfl) rfl
theorem ml_X8_47 : Cond.methodLink RX8 47 yX8_amount ∈ BIG := big_4 (i := 90) (by rfl) rfl
theorem ml_X8_52 : Cond.methodLink RX8 52 yX8_changes ∈ BIG := big_4 (i := 29) (by rfl) rfl
theorem ml_X8_55 : Cond.methodLink RX8 55 yX8_isWorker ∈ BIG := big_4 (i := 37) (by rfl) rfl
theorem ml_X8_60 : Cond.methodLink RX8 60 yX8_of ∈ BIG := big_4 (i := 49) (by rfl) rfl
theorem ml_X8_64 : Cond.methodLink RX8 64 yX8_ofTask ∈ BIG := big_4 (i := 78) (by rfl) rfl
theorem ml_X8_67 : Cond.methodLink RX8 67 yX8_workers ∈ BIG := big_4 (i := 82) (by rfl) rfl
theorem ml_X8_71 : Cond.methodLink RX8 71 yX8_left ∈ BIG := big_4 (i := 74) (by rfl) rfl
theorem ml_X8_75 : Cond.methodLink RX8 75 yX8_has ∈ BIG := big_4 (i := 86) (by rfl) rfl
theorem ml_X8_78 : Cond.methodLink RX8 78 yX8_pays ∈ BIG := big_4 (i := 97) (by rfl) rfl
theorem ml_X8_82 : Cond.methodLink RX8 82 yX8_isTask ∈ BIG := big_4 (i := 66) (by rfl) rfl
theorem ml_X8_85 : Cond.methodLink RX8 85 yX8_canPut ∈ BIG := big_4 (i := 70) (by rfl) rfl
theorem ml_X8_88 : Cond.methodLink RX8 88 yX8_puts ∈ BIG := big_4 (i := 93) (by rfl) rfl
theorem ml_X8_94 : Cond.methodLink RX8 94 yX8_gains ∈ BIG := big_4 (i := 117) (by rfl) rfl
theorem ml_X8_97 : Cond.methodLink RX8 97 yX8_flips ∈ BIG := big_4 (i := 109) (by rfl) rfl
theorem ml_X8_101 : Cond.methodLink RX8 101 yX8_works ∈ BIG := big_4 (i := 113) (by rfl) rfl
theorem ml_X8_104 : Cond.methodLink RX8 104 yX8_isContract ∈ BIG := big_4 (i := 125) (by rfl) rfl
theorem ml_X8_107 : Cond.methodLink RX8 107 yX8_goes ∈ BIG := big_4 (i := 133) (by rfl) rfl
theorem ml_X8_110 : Cond.methodLink RX8 110 yX8_outs ∈ BIG := big_4 (i := 141) (by rfl) rfl
theorem ml_X8_114 : Cond.methodLink RX8 114 yX8_copies ∈ BIG := big_4 (i := 154) (by rfl) rfl
theorem ml_X8_118 : Cond.methodLink RX8 118 yX8_waited ∈ BIG := big_4 (i := 145) (by rfl) rfl
theorem ml_X8_121 : Cond.methodLink RX8 121 yX8_nextOut ∈ BIG := big_4 (i := 149) (by rfl) rfl
theorem ml_X8_124 : Cond.methodLink RX8 124 yX8_told ∈ BIG := big_4 (i := 169) (by rfl) rfl
theorem ml_X8_127 : Cond.methodLink RX8 127 yX8_anySand ∈ BIG := big_4 (i := 180) (by rfl) rfl
theorem ml_X8_131 : Cond.methodLink RX8 131 yX8_sum ∈ BIG := big_4 (i := 192) (by rfl) rfl
theorem ml_X8_134 : Cond.methodLink RX8 134 yJxf58ca_floatToIntBits_5c35a ∈ BIG := big_4 (i := 204) (by rfl) rfl
theorem ml_X8_140 : Cond.methodLink RX8 140 yX8_goods ∈ BIG := big_4 (i := 222) (by rfl) rfl
theorem ml_X8_143 : Cond.methodLink RX8 143 yX8_ahead ∈ BIG := big_4 (i := 218) (by rfl) rfl
theorem ml_X8_152 : Cond.methodLink RX8 152 yX8_isAt ∈ BIG := big_5 (i := 10) (by rfl) rfl
theorem ml_X8_158 : Cond.methodLink RX8 158 yX8_numbersOf ∈ BIG := big_5 (i := 14) (by rfl) rfl
theorem ml_X8_161 : Cond.methodLink RX8 161 yX8_number ∈ BIG := big_5 (i := 17) (by rfl) rfl
theorem ml_X8_164 : Cond.methodLink RX8 164 yX8_sign ∈ BIG := big_5 (i := 21) (by rfl) rfl
theorem ml_X8_167 : Cond.methodLink RX8 167 yX8_task ∈ BIG := big_5 (i := 29) (by rfl) rfl
theorem ml_X8_171 : Cond.methodLink RX8 171 yX8_put ∈ BIG := big_5 (i := 30) (by rfl) rfl
theorem ml_X8_175 : Cond.methodLink RX8 175 yX8_home ∈ BIG := big_5 (i := 31) (by rfl) rfl
theorem ml_X8_178 : Cond.methodLink RX8 178 yX8_contract ∈ BIG := big_5 (i := 32) (by rfl) rfl
theorem ml_X8_181 : Cond.methodLink RX8 181 yX8_buy ∈ BIG := big_5 (i := 33) (by rfl) rfl
theorem ml_X8_184 : Cond.methodLink RX8 184 yX8_pass ∈ BIG := big_5 (i := 34) (by rfl) rfl
theorem ml_X8_193 : Cond.methodLink RX8 193 yX8_reads ∈ BIG := big_5 (i := 6) (by rfl) rfl
theorem ml_X8_196 : Cond.methodLink RX8 196 yX8_calls ∈ BIG := big_5 (i := 25) (by rfl) rfl
theorem ml_X8_205 : Cond.methodLink RX8 205 yX8_plays ∈ BIG := big_5 (i := 2) (by rfl) rfl
theorem ml_Jxf58ca_59 : Cond.methodLink RJxf58ca 59 yJxf58ca_isNaN_12338 ∈ BIG := big_4 (i := 207) (by rfl) rfl
theorem kc_X7_79 : Cond.constant RX7 79 (-1000001) ∈ BIG := big_2 (i := 239) (by rfl) rfl
theorem kc_X7_124 : Cond.constant RX7 124 (-1000004) ∈ BIG := big_3 (i := 30) (by rfl) rfl
theorem kc_X7_193 : Cond.constant RX7 193 (-1000002) ∈ BIG := big_3 (i := 78) (by rfl) rfl
theorem kc_X7_272 : Cond.constant RX7 272 (8388608) ∈ BIG := big_3 (i := 109) (by rfl) rfl
theorem kc_X1_73 : Cond.constant RX1 73 (-1000003) ∈ BIG := big_2 (i := 50) (by rfl) rfl
theorem kc_X1_78 : Cond.constant RX1 78 (-1000001) ∈ BIG := big_2 (i := 83) (by rfl) rfl
theorem kc_X1_86 : Cond.constant RX1 86 (-1000002) ∈ BIG := big_2 (i := 91) (by rfl) rfl
theorem kc_X1_190 : Cond.constant RX1 190 (-1000004) ∈ BIG := big_3 (i := 21) (by rfl) rfl
theorem kc_X2_53 : Cond.constant RX2 53 (1000000) ∈ BIG := big_2 (i := 228) (by rfl) rfl
theorem kc_X3_29 : Cond.constant RX3 29 (-1000002) ∈ BIG := big_3 (i := 146) (by rfl) rfl
theorem kc_X4_22 : Cond.constant RX4 22 (-1000003) ∈ BIG := big_3 (i := 155) (by rfl) rfl
theorem kc_X5_49 : Cond.constant RX5 49 (-1000004) ∈ BIG := big_3 (i := 129) (by rfl) rfl
theorem kc_X8_51 : Cond.constant RX8 51 (-1000003) ∈ BIG := big_4 (i := 28) (by rfl) rfl
theorem kc_X8_59 : Cond.constant RX8 59 (-1000001) ∈ BIG := big_4 (i := 48) (by rfl) rfl
theorem kc_X8_63 : Cond.constant RX8 63 (-1000002) ∈ BIG := big_4 (i := 53) (by rfl) rfl
theorem kc_X8_113 : Cond.constant RX8 113 (-1000004) ∈ BIG := big_4 (i := 153) (by rfl) rfl
theorem kc_Jxf58ca_77 : Cond.constant RJxf58ca 77 (2143289344) ∈ BIG := big_4 (i := 213) (by rfl) rfl
theorem mw_X0_init : MW yX0_init cX0_init 1 none 0 := ⟨big_1 (i := 135) (by rfl) rfl, big_1 (i := 6) (by rfl) rfl, by decide +kernel⟩
theorem mj_X0_init : Cond.instanceMethod yX0_init ∈ BIG := big_1 (i := 134) (by rfl) rfl
theorem mw_X0_copyFrom : MW yX0_copyFrom cX0_copyFrom 2 none 1 := ⟨big_2 (i := 44) (by rfl) rfl, big_1 (i := 6) (by rfl) rfl, by decide +kernel⟩
theorem mi_X0_copyFrom : MI yX0_copyFrom := ⟨big_2 (i := 42) (by rfl) rfl, big_2 (i := 43) (by rfl) rfl⟩
theorem mw_X0_remove : MW yX0_remove cX0_remove 3 none 1 := ⟨big_2 (i := 206) (by rfl) rfl, big_1 (i := 6) (by rfl) rfl, by decide +kernel⟩
theorem mi_X0_remove : MI yX0_remove := ⟨big_2 (i := 204) (by rfl) rfl, big_2 (i := 205) (by rfl) rfl⟩
theorem mw_X1_init : MW yX1_init cX1_init 1 none 0 := ⟨big_1 (i := 25) (by rfl) rfl, big_1 (i := 2) (by rfl) rfl, by decide +kernel⟩
theorem mj_X1_init : Cond.instanceMethod yX1_init ∈ BIG := big_1 (i := 24) (by rfl) rfl
theorem mw_X1_copyFrom : MW yX1_copyFrom cX1_copyFrom 2 none 1 := ⟨big_2 (i := 17) (by rfl) rfl, big_1 (i := 2) (by rfl) rfl, by decide +kernel⟩
theorem mi_X1_copyFrom : MI yX1_copyFrom := ⟨big_2 (i := 15) (by rfl) rfl, big_2 (i := 16) (by rfl) rfl⟩
theorem mw_X1_hasPlayer : MW yX1_hasPlayer cX1_hasPlayer 2 (some .boolean) 1 := ⟨big_2 (i := 79) (by rfl) rfl, big_1 (i := 2) (by rfl) rfl, by decide +kernel⟩
theorem mi_X1_hasPlayer : MI yX1_hasPlayer := ⟨big_2 (i := 77) (by rfl) rfl, big_2 (i := 78) (by rfl) rfl⟩
theorem mw_X1_hasWorker : MW yX1_hasWorker cX1_hasWorker 3 (some .boolean) 2 := ⟨big_2 (i := 75) (by rfl) rfl, big_1 (i := 2) (by rfl) rfl, by decide +kernel⟩
theorem mi_X1_hasWorker : MI yX1_hasWorker := ⟨big_2 (i := 73) (by rfl) rfl, big_2 (i := 74) (by rfl) rfl⟩
theorem mw_X1_hasTask : MW yX1_hasTask cX1_hasTask 2 (some .boolean) 1 := ⟨big_2 (i := 119) (by rfl) rfl, big_1 (i := 2) (by rfl) rfl, by decide +kernel⟩
theorem mi_X1_hasTask : MI yX1_hasTask := ⟨big_2 (i := 117) (by rfl) rfl, big_2 (i := 118) (by rfl) rfl⟩
theorem mw_X1_hasContract : MW yX1_hasContract cX1_hasContract 2 (some .boolean) 1 := ⟨big_2 (i := 202) (by rfl) rfl, big_1 (i := 2) (by rfl) rfl, by decide +kernel⟩
theorem mi_X1_hasContract : MI yX1_hasContract := ⟨big_2 (i := 200) (by rfl) rfl, big_2 (i := 201) (by rfl) rfl⟩
theorem mw_X1_addPlayer : MW yX1_addPlayer cX1_addPlayer 2 (some .int) 0 := ⟨big_2 (i := 49) (by rfl) rfl, big_1 (i := 2) (by rfl) rfl, by decide +kernel⟩
theorem mi_X1_addPlayer : MI yX1_addPlayer := ⟨big_2 (i := 47) (by rfl) rfl, big_2 (i := 48) (by rfl) rfl⟩
theorem mw_X1_setSize : MW yX1_setSize cX1_setSize 6 (some .int) 3 := ⟨big_2 (i := 71) (by rfl) rfl, big_1 (i := 2) (by rfl) rfl, by decide +kernel⟩
theorem mi_X1_setSize : MI yX1_setSize := ⟨big_2 (i := 69) (by rfl) rfl, big_2 (i := 70) (by rfl) rfl⟩
theorem mw_X1_addTask : MW yX1_addTask cX1_addTask 6 (some .int) 4 := ⟨big_2 (i := 99) (by rfl) rfl, big_1 (i := 2) (by rfl) rfl, by decide +kernel⟩
theorem mi_X1_addTask : MI yX1_addTask := ⟨big_2 (i := 97) (by rfl) rfl, big_2 (i := 98) (by rfl) rfl⟩
theorem mw_X1_layContract : MW yX1_layContract cX1_layContract 4 (some .int) 2 := ⟨big_2 (i := 107) (by rfl) rfl, big_1 (i := 2) (by rfl) rfl, by decide +kernel⟩
theorem mi_X1_layContract : MI yX1_layContract := ⟨big_2 (i := 105) (by rfl) rfl, big_2 (i := 106) (by rfl) rfl⟩
theorem mw_X1_placesLeft : MW yX1_placesLeft cX1_placesLeft 2 (some .int) 1 := ⟨big_2 (i := 127) (by rfl) rfl, big_1 (i := 2) (by rfl) rfl, by decide +kernel⟩
theorem mi_X1_placesLeft : MI yX1_placesLeft := ⟨big_2 (i := 125) (by rfl) rfl, big_2 (i := 126) (by rfl) rfl⟩
theorem mw_X1_canBePut : MW yX1_canBePut cX1_canBePut 4 (some .boolean) 2 := ⟨big_2 (i := 123) (by rfl) rfl, big_1 (i := 2) (by rfl) rfl, by decide +kernel⟩
theorem mi_X1_canBePut : MI yX1_canBePut := ⟨big_2 (i := 121) (by rfl) rfl, big_2 (i := 122) (by rfl) rfl⟩
theorem mw_X1_putWorker : MW yX1_putWorker cX1_putWorker 5 (some .int) 3 := ⟨big_2 (i := 115) (by rfl) rfl, big_1 (i := 2) (by rfl) rfl, by decide +kernel⟩
theorem mi_X1_putWorker : MI yX1_putWorker := ⟨big_2 (i := 113) (by rfl) rfl, big_2 (i := 114) (by rfl) rfl⟩
theorem mw_X1_takeHome : MW yX1_takeHome cX1_takeHome 5 (some .int) 2 := ⟨big_2 (i := 161) (by rfl) rfl, big_1 (i := 2) (by rfl) rfl, by decide +kernel⟩
theorem mi_X1_takeHome : MI yX1_takeHome := ⟨big_2 (i := 159) (by rfl) rfl, big_2 (i := 160) (by rfl) rfl⟩
theorem mw_X1_flipByHand : MW yX1_flipByHand cX1_flipByHand 4 (some .int) 2 := ⟨big_2 (i := 169) (by rfl) rfl, big_1 (i := 2) (by rfl) rfl, by decide +kernel⟩
theorem mi_X1_flipByHand : MI yX1_flipByHand := ⟨big_2 (i := 167) (by rfl) rfl, big_2 (i := 168) (by rfl) rfl⟩
theorem mw_X1_buyContract : MW yX1_buyContract cX1_buyContract 4 (some .int) 2 := ⟨big_2 (i := 198) (by rfl) rfl, big_1 (i := 2) (by rfl) rfl, by decide +kernel⟩
theorem mi_X1_buyContract : MI yX1_buyContract := ⟨big_2 (i := 196) (by rfl) rfl, big_2 (i := 197) (by rfl) rfl⟩
theorem mw_X1_letPass : MW yX1_letPass cX1_letPass 2 (some .int) 1 := ⟨big_2 (i := 214) (by rfl) rfl, big_1 (i := 2) (by rfl) rfl, by decide +kernel⟩
theorem mi_X1_letPass : MI yX1_letPass := ⟨big_2 (i := 212) (by rfl) rfl, big_2 (i := 213) (by rfl) rfl⟩
theorem mw_X1_advance : MW yX1_advance cX1_advance 6 (some .int) 1 := ⟨big_2 (i := 218) (by rfl) rfl, big_1 (i := 2) (by rfl) rfl, by decide +kernel⟩
theorem mi_X1_advance : MI yX1_advance := ⟨big_2 (i := 216) (by rfl) rfl, big_2 (i := 217) (by rfl) rfl⟩
theorem mw_X1_addIfDue : MW yX1_addIfDue cX1_addIfDue 2 none 1 := ⟨big_2 (i := 177) (by rfl) rfl, big_1 (i := 2) (by rfl) rfl, by decide +kernel⟩
theorem mi_X1_addIfDue : MI yX1_addIfDue := ⟨big_2 (i := 176) (by rfl) rfl, big_p (i := 3) (q := (yX1_addIfDue, _)) (by rfl)⟩
theorem mw_X1_finishDue : MW yX1_finishDue cX1_finishDue 4 (some .int) 0 := ⟨big_2 (i := 181) (by rfl) rfl, big_1 (i := 2) (by rfl) rfl, by decide +kernel⟩
theorem mi_X1_finishDue : MI yX1_finishDue := ⟨big_2 (i := 180) (by rfl) rfl, big_p (i := 4) (q := (yX1_finishDue, _)) (by rfl)⟩
theorem mw_X1_takeEffect : MW yX1_takeEffect cX1_takeEffect 4 none 2 := ⟨big_2 (i := 190) (by rfl) rfl, big_1 (i := 2) (by rfl) rfl, by decide +kernel⟩
theorem mi_X1_takeEffect : MI yX1_takeEffect := ⟨big_2 (i := 189) (by rfl) rfl, big_p (i := 5) (q := (yX1_takeEffect, _)) (by rfl)⟩
theorem mw_X1_untilOneIsOut : MW yX1_untilOneIsOut cX1_untilOneIsOut 6 (some .int) 1 := ⟨big_3 (i := 19) (by rfl) rfl, big_1 (i := 2) (by rfl) rfl, by decide +kernel⟩
theorem mi_X1_untilOneIsOut : MI yX1_untilOneIsOut := ⟨big_3 (i := 17) (by rfl) rfl, big_3 (i := 18) (by rfl) rfl⟩
theorem mw_X1_bestTask : MW yX1_bestTask cX1_bestTask 4 (some .int) 1 := ⟨big_3 (i := 82) (by rfl) rfl, big_1 (i := 2) (by rfl) rfl, by decide +kernel⟩
theorem mi_X1_bestTask : MI yX1_bestTask := ⟨big_3 (i := 80) (by rfl) rfl, big_3 (i := 81) (by rfl) rfl⟩
theorem mw_X1_untilAffordable : MW yX1_untilAffordable cX1_untilAffordable 7 (some .int) 3 := ⟨big_3 (i := 99) (by rfl) rfl, big_1 (i := 2) (by rfl) rfl, by decide +kernel⟩
theorem mi_X1_untilAffordable : MI yX1_untilAffordable := ⟨big_3 (i := 97) (by rfl) rfl, big_3 (i := 98) (by rfl) rfl⟩
theorem mw_X2_init : MW yX2_init cX2_init 2 none 0 := ⟨big_1 (i := 56) (by rfl) rfl, big_1 (i := 4) (by rfl) rfl, by decide +kernel⟩
theorem mj_X2_init : Cond.instanceMethod yX2_init ∈ BIG := big_1 (i := 55) (by rfl) rfl
theorem mw_X2_copyFrom : MW yX2_copyFrom cX2_copyFrom 2 none 1 := ⟨big_2 (i := 34) (by rfl) rfl, big_1 (i := 4) (by rfl) rfl, by decide +kernel⟩
theorem mi_X2_copyFrom : MI yX2_copyFrom := ⟨big_2 (i := 32) (by rfl) rfl, big_2 (i := 33) (by rfl) rfl⟩
theorem mw_X2_isOut : MW yX2_isOut cX2_isOut 2 (some .boolean) 1 := ⟨big_2 (i := 90) (by rfl) rfl, big_1 (i := 4) (by rfl) rfl, by decide +kernel⟩
theorem mi_X2_isOut : MI yX2_isOut := ⟨big_2 (i := 88) (by rfl) rfl, big_2 (i := 89) (by rfl) rfl⟩
theorem mw_X2_start : MW yX2_start cX2_start 3 none 2 := ⟨big_2 (i := 153) (by rfl) rfl, big_1 (i := 4) (by rfl) rfl, by decide +kernel⟩
theorem mi_X2_start : MI yX2_start := ⟨big_2 (i := 151) (by rfl) rfl, big_2 (i := 152) (by rfl) rfl⟩
theorem mw_X2_flipOne : MW yX2_flipOne cX2_flipOne 2 none 1 := ⟨big_2 (i := 173) (by rfl) rfl, big_1 (i := 4) (by rfl) rfl, by decide +kernel⟩
theorem mi_X2_flipOne : MI yX2_flipOne := ⟨big_2 (i := 171) (by rfl) rfl, big_2 (i := 172) (by rfl) rfl⟩
theorem mw_X2_numberOn : MW yX2_numberOn cX2_numberOn 4 (some .int) 1 := ⟨big_2 (i := 131) (by rfl) rfl, big_1 (i := 4) (by rfl) rfl, by decide +kernel⟩
theorem mi_X2_numberOn : MI yX2_numberOn := ⟨big_2 (i := 129) (by rfl) rfl, big_2 (i := 130) (by rfl) rfl⟩
theorem mw_X2_aheadOnTask : MW yX2_aheadOnTask cX2_aheadOnTask 4 (some .int) 1 := ⟨big_3 (i := 48) (by rfl) rfl, big_1 (i := 4) (by rfl) rfl, by decide +kernel⟩
theorem mi_X2_aheadOnTask : MI yX2_aheadOnTask := ⟨big_3 (i := 47) (by rfl) rfl, big_p (i := 6) (q := (yX2_aheadOnTask, _)) (by rfl)⟩
theorem mw_X2_atPlace : MW yX2_atPlace cX2_atPlace 4 (some .int) 2 := ⟨big_3 (i := 44) (by rfl) rfl, big_1 (i := 4) (by rfl) rfl, by decide +kernel⟩
theorem mi_X2_atPlace : MI yX2_atPlace := ⟨big_3 (i := 42) (by rfl) rfl, big_3 (i := 43) (by rfl) rfl⟩
theorem mw_X2_nextOut : MW yX2_nextOut cX2_nextOut 3 (some .int) 0 := ⟨big_2 (i := 226) (by rfl) rfl, big_1 (i := 4) (by rfl) rfl, by decide +kernel⟩
theorem mi_X2_nextOut : MI yX2_nextOut := ⟨big_2 (i := 224) (by rfl) rfl, big_2 (i := 225) (by rfl) rfl⟩
theorem mw_X2_untilNextOut : MW yX2_untilNextOut cX2_untilNextOut 2 (some .int) 0 := ⟨big_2 (i := 222) (by rfl) rfl, big_1 (i := 4) (by rfl) rfl, by decide +kernel⟩
theorem mi_X2_untilNextOut : MI yX2_untilNextOut := ⟨big_2 (i := 220) (by rfl) rfl, big_2 (i := 221) (by rfl) rfl⟩
theorem mw_X2_outOf : MW yX2_outOf cX2_outOf 4 (some .int) 1 := ⟨big_3 (i := 11) (by rfl) rfl, big_1 (i := 4) (by rfl) rfl, by decide +kernel⟩
theorem mi_X2_outOf : MI yX2_outOf := ⟨big_3 (i := 9) (by rfl) rfl, big_3 (i := 10) (by rfl) rfl⟩
theorem mw_X2_worksOf : MW yX2_worksOf cX2_worksOf 2 (some .int) 1 := ⟨big_3 (i := 3) (by rfl) rfl, big_1 (i := 4) (by rfl) rfl, by decide +kernel⟩
theorem mi_X2_worksOf : MI yX2_worksOf := ⟨big_3 (i := 1) (by rfl) rfl, big_3 (i := 2) (by rfl) rfl⟩
theorem mw_X2_waitingOf : MW yX2_waitingOf cX2_waitingOf 2 (some .int) 1 := ⟨big_3 (i := 15) (by rfl) rfl, big_1 (i := 4) (by rfl) rfl, by decide +kernel⟩
theorem mi_X2_waitingOf : MI yX2_waitingOf := ⟨big_3 (i := 13) (by rfl) rfl, big_3 (i := 14) (by rfl) rfl⟩
theorem mw_X2_allWorks : MW yX2_allWorks cX2_allWorks 1 (some .int) 0 := ⟨big_3 (i := 117) (by rfl) rfl, big_1 (i := 4) (by rfl) rfl, by decide +kernel⟩
theorem mi_X2_allWorks : MI yX2_allWorks := ⟨big_3 (i := 115) (by rfl) rfl, big_3 (i := 116) (by rfl) rfl⟩
theorem mw_X2_allFlips : MW yX2_allFlips cX2_allFlips 1 (some .int) 0 := ⟨big_3 (i := 124) (by rfl) rfl, big_1 (i := 4) (by rfl) rfl, by decide +kernel⟩
theorem mi_X2_allFlips : MI yX2_allFlips := ⟨big_3 (i := 122) (by rfl) rfl, big_3 (i := 123) (by rfl) rfl⟩
theorem mw_X2_sumOf : MW yX2_sumOf cX2_sumOf 4 (some .int) 2 := ⟨big_3 (i := 6) (by rfl) rfl, big_1 (i := 4) (by rfl) rfl, by decide +kernel⟩
theorem ms_X2_sumOf : Cond.static yX2_sumOf ∈ BIG := big_3 (i := 5) (by rfl) rfl
theorem mw_X2_sumOfAll : MW yX2_sumOfAll cX2_sumOfAll 3 (some .int) 1 := ⟨big_3 (i := 120) (by rfl) rfl, big_1 (i := 4) (by rfl) rfl, by decide +kernel⟩
theorem ms_X2_sumOfAll : Cond.static yX2_sumOfAll ∈ BIG := big_3 (i := 119) (by rfl) rfl
theorem mw_X3_init : MW yX3_init cX3_init 2 none 0 := ⟨big_1 (i := 184) (by rfl) rfl, big_1 (i := 7) (by rfl) rfl, by decide +kernel⟩
theorem mj_X3_init : Cond.instanceMethod yX3_init ∈ BIG := big_1 (i := 183) (by rfl) rfl
theorem mw_X3_record : MW yX3_record cX3_record 2 none 1 := ⟨big_2 (i := 58) (by rfl) rfl, big_1 (i := 7) (by rfl) rfl, by decide +kernel⟩
theorem mi_X3_record : MI yX3_record := ⟨big_2 (i := 56) (by rfl) rfl, big_2 (i := 57) (by rfl) rfl⟩
theorem mw_X3_dropOldest : MW yX3_dropOldest cX3_dropOldest 3 none 0 := ⟨big_2 (i := 62) (by rfl) rfl, big_1 (i := 7) (by rfl) rfl, by decide +kernel⟩
theorem mi_X3_dropOldest : MI yX3_dropOldest := ⟨big_2 (i := 61) (by rfl) rfl, big_p (i := 2) (q := (yX3_dropOldest, _)) (by rfl)⟩
theorem mw_X3_restore : MW yX3_restore cX3_restore 2 (some .int) 1 := ⟨big_3 (i := 145) (by rfl) rfl, big_1 (i := 7) (by rfl) rfl, by decide +kernel⟩
theorem mi_X3_restore : MI yX3_restore := ⟨big_3 (i := 143) (by rfl) rfl, big_3 (i := 144) (by rfl) rfl⟩
theorem mw_X4_init : MW yX4_init cX4_init 1 none 0 := ⟨big_1 (i := 201) (by rfl) rfl, big_1 (i := 8) (by rfl) rfl, by decide +kernel⟩
theorem mj_X4_init : Cond.instanceMethod yX4_init ∈ BIG := big_1 (i := 200) (by rfl) rfl
theorem mw_X4_append : MW yX4_append cX4_append 2 (some .int) 1 := ⟨big_3 (i := 154) (by rfl) rfl, big_1 (i := 8) (by rfl) rfl, by decide +kernel⟩
theorem mi_X4_append : MI yX4_append := ⟨big_3 (i := 152) (by rfl) rfl, big_3 (i := 153) (by rfl) rfl⟩
theorem mw_X4_clear : MW yX4_clear cX4_clear 2 (some .int) 0 := ⟨big_3 (i := 163) (by rfl) rfl, big_1 (i := 8) (by rfl) rfl, by decide +kernel⟩
theorem mi_X4_clear : MI yX4_clear := ⟨big_3 (i := 161) (by rfl) rfl, big_3 (i := 162) (by rfl) rfl⟩
theorem mw_X4_obeyAll : MW yX4_obeyAll cX4_obeyAll 3 (some .boolean) 1 := ⟨big_3 (i := 171) (by rfl) rfl, big_1 (i := 8) (by rfl) rfl, by decide +kernel⟩
theorem mi_X4_obeyAll : MI yX4_obeyAll := ⟨big_3 (i := 169) (by rfl) rfl, big_3 (i := 170) (by rfl) rfl⟩
theorem mw_X4_readOrder : MW yX4_readOrder cX4_readOrder 3 (some .boolean) 0 := ⟨big_3 (i := 175) (by rfl) rfl, big_1 (i := 8) (by rfl) rfl, by decide +kernel⟩
theorem mi_X4_readOrder : MI yX4_readOrder := ⟨big_3 (i := 174) (by rfl) rfl, big_p (i := 7) (q := (yX4_readOrder, _)) (by rfl)⟩
theorem mw_X4_readNumber : MW yX4_readNumber cX4_readNumber 4 (some .boolean) 1 := ⟨big_3 (i := 187) (by rfl) rfl, big_1 (i := 8) (by rfl) rfl, by decide +kernel⟩
theorem mi_X4_readNumber : MI yX4_readNumber := ⟨big_3 (i := 186) (by rfl) rfl, big_p (i := 9) (q := (yX4_readNumber, _)) (by rfl)⟩
theorem mw_X4_readSign : MW yX4_readSign cX4_readSign 2 (some .boolean) 1 := ⟨big_3 (i := 191) (by rfl) rfl, big_1 (i := 8) (by rfl) rfl, by decide +kernel⟩
theorem mi_X4_readSign : MI yX4_readSign := ⟨big_3 (i := 190) (by rfl) rfl, big_p (i := 10) (q := (yX4_readSign, _)) (by rfl)⟩
theorem mw_X4_signAt : MW yX4_signAt cX4_signAt 2 (some .int) 1 := ⟨big_3 (i := 179) (by rfl) rfl, big_1 (i := 8) (by rfl) rfl, by decide +kernel⟩
theorem mi_X4_signAt : MI yX4_signAt := ⟨big_3 (i := 178) (by rfl) rfl, big_p (i := 8) (q := (yX4_signAt, _)) (by rfl)⟩
theorem mw_X4_numbersOf : MW yX4_numbersOf cX4_numbersOf 1 (some .int) 1 := ⟨big_3 (i := 183) (by rfl) rfl, big_1 (i := 8) (by rfl) rfl, by decide +kernel⟩
theorem ms_X4_numbersOf : Cond.static yX4_numbersOf ∈ BIG := big_3 (i := 182) (by rfl) rfl
theorem mw_X4_obey : MW yX4_obey cX4_obey 3 (some .int) 2 := ⟨big_3 (i := 195) (by rfl) rfl, big_1 (i := 8) (by rfl) rfl, by decide +kernel⟩
theorem mi_X4_obey : MI yX4_obey := ⟨big_3 (i := 194) (by rfl) rfl, big_p (i := 11) (q := (yX4_obey, _)) (by rfl)⟩
theorem mw_X5_init : MW yX5_init cX5_init 2 none 0 := ⟨big_1 (i := 31) (by rfl) rfl, big_1 (i := 3) (by rfl) rfl, by decide +kernel⟩
theorem mj_X5_init : Cond.instanceMethod yX5_init ∈ BIG := big_1 (i := 30) (by rfl) rfl
theorem mw_X5_copyFrom : MW yX5_copyFrom cX5_copyFrom 2 none 1 := ⟨big_2 (i := 21) (by rfl) rfl, big_1 (i := 3) (by rfl) rfl, by decide +kernel⟩
theorem mi_X5_copyFrom : MI yX5_copyFrom := ⟨big_2 (i := 19) (by rfl) rfl, big_2 (i := 20) (by rfl) rfl⟩
theorem mw_X5_amountOf : MW yX5_amountOf cX5_amountOf 3 (some .int) 2 := ⟨big_2 (i := 142) (by rfl) rfl, big_1 (i := 3) (by rfl) rfl, by decide +kernel⟩
theorem mi_X5_amountOf : MI yX5_amountOf := ⟨big_2 (i := 140) (by rfl) rfl, big_2 (i := 141) (by rfl) rfl⟩
theorem mw_X5_have : MW yX5_have cX5_have 4 (some .boolean) 2 := ⟨big_2 (i := 138) (by rfl) rfl, big_1 (i := 3) (by rfl) rfl, by decide +kernel⟩
theorem mi_X5_have : MI yX5_have := ⟨big_2 (i := 136) (by rfl) rfl, big_2 (i := 137) (by rfl) rfl⟩
theorem mw_X5_allWhoHave : MW yX5_allWhoHave cX5_allWhoHave 4 (some .int) 1 := ⟨big_3 (i := 61) (by rfl) rfl, big_1 (i := 3) (by rfl) rfl, by decide +kernel⟩
theorem mi_X5_allWhoHave : MI yX5_allWhoHave := ⟨big_3 (i := 59) (by rfl) rfl, big_3 (i := 60) (by rfl) rfl⟩
theorem mw_X5_pay : MW yX5_pay cX5_pay 4 none 2 := ⟨big_2 (i := 149) (by rfl) rfl, big_1 (i := 3) (by rfl) rfl, by decide +kernel⟩
theorem mi_X5_pay : MI yX5_pay := ⟨big_2 (i := 147) (by rfl) rfl, big_2 (i := 148) (by rfl) rfl⟩
theorem mw_X5_gain : MW yX5_gain cX5_gain 6 none 2 := ⟨big_2 (i := 185) (by rfl) rfl, big_1 (i := 3) (by rfl) rfl, by decide +kernel⟩
theorem mi_X5_gain : MI yX5_gain := ⟨big_2 (i := 183) (by rfl) rfl, big_2 (i := 184) (by rfl) rfl⟩
theorem mw_X5_allGoodsOf : MW yX5_allGoodsOf cX5_allGoodsOf 2 (some .int) 1 := ⟨big_3 (i := 137) (by rfl) rfl, big_1 (i := 3) (by rfl) rfl, by decide +kernel⟩
theorem mi_X5_allGoodsOf : MI yX5_allGoodsOf := ⟨big_3 (i := 135) (by rfl) rfl, big_3 (i := 136) (by rfl) rfl⟩
theorem mw_X5_isAheadOf : MW yX5_isAheadOf cX5_isAheadOf 3 (some .boolean) 2 := ⟨big_3 (i := 133) (by rfl) rfl, big_1 (i := 3) (by rfl) rfl, by decide +kernel⟩
theorem mi_X5_isAheadOf : MI yX5_isAheadOf := ⟨big_3 (i := 131) (by rfl) rfl, big_3 (i := 132) (by rfl) rfl⟩
theorem mw_X5_ahead : MW yX5_ahead cX5_ahead 3 (some .int) 0 := ⟨big_3 (i := 128) (by rfl) rfl, big_1 (i := 3) (by rfl) rfl, by decide +kernel⟩
theorem mi_X5_ahead : MI yX5_ahead := ⟨big_3 (i := 126) (by rfl) rfl, big_3 (i := 127) (by rfl) rfl⟩
theorem mw_X6_init : MW yX6_init cX6_init 1 none 0 := ⟨big_1 (i := 98) (by rfl) rfl, big_1 (i := 5) (by rfl) rfl, by decide +kernel⟩
theorem mj_X6_init : Cond.instanceMethod yX6_init ∈ BIG := big_1 (i := 97) (by rfl) rfl
theorem mw_X6_copyFrom : MW yX6_copyFrom cX6_copyFrom 2 none 1 := ⟨big_2 (i := 39) (by rfl) rfl, big_1 (i := 5) (by rfl) rfl, by decide +kernel⟩
theorem mi_X6_copyFrom : MI yX6_copyFrom := ⟨big_2 (i := 37) (by rfl) rfl, big_2 (i := 38) (by rfl) rfl⟩
theorem mw_X6_differenceOf : MW yX6_differenceOf cX6_differenceOf 2 (some .int) 1 := ⟨big_3 (i := 86) (by rfl) rfl, big_1 (i := 5) (by rfl) rfl, by decide +kernel⟩
theorem mi_X6_differenceOf : MI yX6_differenceOf := ⟨big_3 (i := 84) (by rfl) rfl, big_3 (i := 85) (by rfl) rfl⟩
theorem mw_X7_init : MW yX7_init cX7_init 1 none 0 := ⟨big_1 (i := 17) (by rfl) rfl, big_1 (i := 1) (by rfl) rfl, by decide +kernel⟩
theorem mj_X7_init : Cond.instanceMethod yX7_init ∈ BIG := big_1 (i := 16) (by rfl) rfl
theorem mw_X7_player : MW yX7_player cX7_player 1 (some .int) 0 := ⟨big_2 (i := 9) (by rfl) rfl, big_1 (i := 1) (by rfl) rfl, by decide +kernel⟩
theorem mi_X7_player : MI yX7_player := ⟨big_2 (i := 7) (by rfl) rfl, big_2 (i := 8) (by rfl) rfl⟩
theorem mw_X7_size : MW yX7_size cX7_size 4 (some .int) 3 := ⟨big_2 (i := 67) (by rfl) rfl, big_1 (i := 1) (by rfl) rfl, by decide +kernel⟩
theorem mi_X7_size : MI yX7_size := ⟨big_2 (i := 65) (by rfl) rfl, big_2 (i := 66) (by rfl) rfl⟩
theorem mw_X7_task : MW yX7_task cX7_task 5 (some .int) 4 := ⟨big_2 (i := 95) (by rfl) rfl, big_1 (i := 1) (by rfl) rfl, by decide +kernel⟩
theorem mi_X7_task : MI yX7_task := ⟨big_2 (i := 93) (by rfl) rfl, big_2 (i := 94) (by rfl) rfl⟩
theorem mw_X7_contract : MW yX7_contract cX7_contract 3 (some .int) 2 := ⟨big_2 (i := 103) (by rfl) rfl, big_1 (i := 1) (by rfl) rfl, by decide +kernel⟩
theorem mi_X7_contract : MI yX7_contract := ⟨big_2 (i := 101) (by rfl) rfl, big_2 (i := 102) (by rfl) rfl⟩
theorem mw_X7_put : MW yX7_put cX7_put 4 (some .int) 3 := ⟨big_2 (i := 111) (by rfl) rfl, big_1 (i := 1) (by rfl) rfl, by decide +kernel⟩
theorem mi_X7_put : MI yX7_put := ⟨big_2 (i := 109) (by rfl) rfl, big_2 (i := 110) (by rfl) rfl⟩
theorem mw_X7_home : MW yX7_home cX7_home 3 (some .int) 2 := ⟨big_2 (i := 157) (by rfl) rfl, big_1 (i := 1) (by rfl) rfl, by decide +kernel⟩
theorem mi_X7_home : MI yX7_home := ⟨big_2 (i := 155) (by rfl) rfl, big_2 (i := 156) (by rfl) rfl⟩
theorem mw_X7_flip : MW yX7_flip cX7_flip 3 (some .int) 2 := ⟨big_2 (i := 165) (by rfl) rfl, big_1 (i := 1) (by rfl) rfl, by decide +kernel⟩
theorem mi_X7_flip : MI yX7_flip := ⟨big_2 (i := 163) (by rfl) rfl, big_2 (i := 164) (by rfl) rfl⟩
theorem mw_X7_buy : MW yX7_buy cX7_buy 3 (some .int) 2 := ⟨big_2 (i := 194) (by rfl) rfl, big_1 (i := 1) (by rfl) rfl, by decide +kernel⟩
theorem mi_X7_buy : MI yX7_buy := ⟨big_2 (i := 192) (by rfl) rfl, big_2 (i := 193) (by rfl) rfl⟩
theorem mw_X7_pass : MW yX7_pass cX7_pass 2 (some .int) 1 := ⟨big_2 (i := 210) (by rfl) rfl, big_1 (i := 1) (by rfl) rfl, by decide +kernel⟩
theorem mi_X7_pass : MI yX7_pass := ⟨big_2 (i := 208) (by rfl) rfl, big_2 (i := 209) (by rfl) rfl⟩
theorem mw_X7_playerOf : MW yX7_playerOf cX7_playerOf 3 (some .int) 2 := ⟨big_2 (i := 236) (by rfl) rfl, big_1 (i := 1) (by rfl) rfl, by decide +kernel⟩
theorem mi_X7_playerOf : MI yX7_playerOf := ⟨big_2 (i := 234) (by rfl) rfl, big_2 (i := 235) (by rfl) rfl⟩
theorem mw_X7_workerOf : MW yX7_workerOf cX7_workerOf 6 (some .int) 3 := ⟨big_3 (i := 27) (by rfl) rfl, big_1 (i := 1) (by rfl) rfl, by decide +kernel⟩
theorem mi_X7_workerOf : MI yX7_workerOf := ⟨big_3 (i := 25) (by rfl) rfl, big_3 (i := 26) (by rfl) rfl⟩
theorem mw_X7_taskOf : MW yX7_taskOf cX7_taskOf 3 (some .int) 2 := ⟨big_3 (i := 34) (by rfl) rfl, big_1 (i := 1) (by rfl) rfl, by decide +kernel⟩
theorem mi_X7_taskOf : MI yX7_taskOf := ⟨big_3 (i := 32) (by rfl) rfl, big_3 (i := 33) (by rfl) rfl⟩
theorem mw_X7_on : MW yX7_on cX7_on 4 (some .int) 2 := ⟨big_3 (i := 40) (by rfl) rfl, big_1 (i := 1) (by rfl) rfl, by decide +kernel⟩
theorem mi_X7_on : MI yX7_on := ⟨big_3 (i := 38) (by rfl) rfl, big_3 (i := 39) (by rfl) rfl⟩
theorem mw_X7_contractOf : MW yX7_contractOf cX7_contractOf 4 (some .int) 2 := ⟨big_3 (i := 56) (by rfl) rfl, big_1 (i := 1) (by rfl) rfl, by decide +kernel⟩
theorem mi_X7_contractOf : MI yX7_contractOf := ⟨big_3 (i := 54) (by rfl) rfl, big_3 (i := 55) (by rfl) rfl⟩
theorem mw_X7_next : MW yX7_next cX7_next 3 (some .int) 1 := ⟨big_3 (i := 66) (by rfl) rfl, big_1 (i := 1) (by rfl) rfl, by decide +kernel⟩
theorem mi_X7_next : MI yX7_next := ⟨big_3 (i := 64) (by rfl) rfl, big_3 (i := 65) (by rfl) rfl⟩
theorem mw_X7_would : MW yX7_would cX7_would 4 (some .int) 3 := ⟨big_3 (i := 71) (by rfl) rfl, big_1 (i := 1) (by rfl) rfl, by decide +kernel⟩
theorem mi_X7_would : MI yX7_would := ⟨big_3 (i := 69) (by rfl) rfl, big_3 (i := 70) (by rfl) rfl⟩
theorem mw_X7_best : MW yX7_best cX7_best 6 (some .int) 3 := ⟨big_3 (i := 76) (by rfl) rfl, big_1 (i := 1) (by rfl) rfl, by decide +kernel⟩
theorem mi_X7_best : MI yX7_best := ⟨big_3 (i := 74) (by rfl) rfl, big_3 (i := 75) (by rfl) rfl⟩
theorem mw_X7_earns : MW yX7_earns cX7_earns 4 (some .int) 3 := ⟨big_3 (i := 95) (by rfl) rfl, big_1 (i := 1) (by rfl) rfl, by decide +kernel⟩
theorem mi_X7_earns : MI yX7_earns := ⟨big_3 (i := 93) (by rfl) rfl, big_3 (i := 94) (by rfl) rfl⟩
theorem mw_X7_busy : MW yX7_busy cX7_busy 5 (some .int) 2 := ⟨big_3 (i := 104) (by rfl) rfl, big_1 (i := 1) (by rfl) rfl, by decide +kernel⟩
theorem mi_X7_busy : MI yX7_busy := ⟨big_3 (i := 102) (by rfl) rfl, big_3 (i := 103) (by rfl) rfl⟩
theorem mw_X7_count : MW yX7_count cX7_count 2 (some .int) 1 := ⟨big_3 (i := 113) (by rfl) rfl, big_1 (i := 1) (by rfl) rfl, by decide +kernel⟩
theorem mi_X7_count : MI yX7_count := ⟨big_3 (i := 111) (by rfl) rfl, big_3 (i := 112) (by rfl) rfl⟩
theorem mw_X7_undo : MW yX7_undo cX7_undo 1 (some .int) 0 := ⟨big_3 (i := 141) (by rfl) rfl, big_1 (i := 1) (by rfl) rfl, by decide +kernel⟩
theorem mi_X7_undo : MI yX7_undo := ⟨big_3 (i := 139) (by rfl) rfl, big_3 (i := 140) (by rfl) rfl⟩
theorem mw_X7_type : MW yX7_type cX7_type 2 (some .int) 1 := ⟨big_3 (i := 150) (by rfl) rfl, big_1 (i := 1) (by rfl) rfl, by decide +kernel⟩
theorem mi_X7_type : MI yX7_type := ⟨big_3 (i := 148) (by rfl) rfl, big_3 (i := 149) (by rfl) rfl⟩
theorem mw_X7_clearText : MW yX7_clearText cX7_clearText 1 (some .int) 0 := ⟨big_3 (i := 159) (by rfl) rfl, big_1 (i := 1) (by rfl) rfl, by decide +kernel⟩
theorem mi_X7_clearText : MI yX7_clearText := ⟨big_3 (i := 157) (by rfl) rfl, big_3 (i := 158) (by rfl) rfl⟩
theorem mw_X7_fault : MW yX7_fault cX7_fault 2 (some .int) 1 := ⟨big_3 (i := 167) (by rfl) rfl, big_1 (i := 1) (by rfl) rfl, by decide +kernel⟩
theorem mi_X7_fault : MI yX7_fault := ⟨big_3 (i := 165) (by rfl) rfl, big_3 (i := 166) (by rfl) rfl⟩
theorem mw_X7_play : MW yX7_play cX7_play 1 (some .int) 0 := ⟨big_3 (i := 205) (by rfl) rfl, big_1 (i := 1) (by rfl) rfl, by decide +kernel⟩
theorem mi_X7_play : MI yX7_play := ⟨big_3 (i := 203) (by rfl) rfl, big_3 (i := 204) (by rfl) rfl⟩
theorem mw_X7_startTrial : MW yX7_startTrial cX7_startTrial 1 none 0 := ⟨big_2 (i := 13) (by rfl) rfl, big_1 (i := 1) (by rfl) rfl, by decide +kernel⟩
theorem mi_X7_startTrial : MI yX7_startTrial := ⟨big_2 (i := 12) (by rfl) rfl, big_p (i := 0) (q := (yX7_startTrial, _)) (by rfl)⟩
theorem mw_X7_keepTrial : MW yX7_keepTrial cX7_keepTrial 2 (some .int) 1 := ⟨big_2 (i := 54) (by rfl) rfl, big_1 (i := 1) (by rfl) rfl, by decide +kernel⟩
theorem mi_X7_keepTrial : MI yX7_keepTrial := ⟨big_2 (i := 53) (by rfl) rfl, big_p (i := 1) (q := (yX7_keepTrial, _)) (by rfl)⟩
theorem mw_X7_within : MW yX7_within cX7_within 3 (some .boolean) 3 := ⟨big_2 (i := 82) (by rfl) rfl, big_1 (i := 1) (by rfl) rfl, by decide +kernel⟩
theorem ms_X7_within : Cond.static yX7_within ∈ BIG := big_2 (i := 81) (by rfl) rfl
theorem mw_X7_amountIn : MW yX7_amountIn cX7_amountIn 2 (some .int) 2 := ⟨big_2 (i := 145) (by rfl) rfl, big_1 (i := 1) (by rfl) rfl, by decide +kernel⟩
theorem ms_X7_amountIn : Cond.static yX7_amountIn ∈ BIG := big_2 (i := 144) (by rfl) rfl
theorem mw_X7_allAmountsIn : MW yX7_allAmountsIn cX7_allAmountsIn 1 (some .int) 1 := ⟨big_3 (i := 89) (by rfl) rfl, big_1 (i := 1) (by rfl) rfl, by decide +kernel⟩
theorem ms_X7_allAmountsIn : Cond.static yX7_allAmountsIn ∈ BIG := big_3 (i := 88) (by rfl) rfl
theorem mw_X7_glassOf : MW yX7_glassOf cX7_glassOf 2 (some .int) 2 := ⟨big_2 (i := 86) (by rfl) rfl, big_1 (i := 1) (by rfl) rfl, by decide +kernel⟩
theorem ms_X7_glassOf : Cond.static yX7_glassOf ∈ BIG := big_2 (i := 85) (by rfl) rfl
theorem mw_X7_playerWith : MW yX7_playerWith cX7_playerWith 1 (some .int) 1 := ⟨big_2 (i := 134) (by rfl) rfl, big_1 (i := 1) (by rfl) rfl, by decide +kernel⟩
theorem ms_X7_playerWith : Cond.static yX7_playerWith ∈ BIG := big_2 (i := 133) (by rfl) rfl
theorem mw_X7_toldOf : MW yX7_toldOf cX7_toldOf 1 (some .int) 1 := ⟨big_3 (i := 51) (by rfl) rfl, big_1 (i := 1) (by rfl) rfl, by decide +kernel⟩
theorem ms_X7_toldOf : Cond.static yX7_toldOf ∈ BIG := big_3 (i := 50) (by rfl) rfl
theorem mw_X7_bitsOfShare : MW yX7_bitsOfShare cX7_bitsOfShare 4 (some .int) 1 := ⟨big_3 (i := 107) (by rfl) rfl, big_1 (i := 1) (by rfl) rfl, by decide +kernel⟩
theorem ms_X7_bitsOfShare : Cond.static yX7_bitsOfShare ∈ BIG := big_3 (i := 106) (by rfl) rfl
theorem mw_X7_copyRow : MW yX7_copyRow cX7_copyRow 2 none 2 := ⟨big_2 (i := 24) (by rfl) rfl, big_1 (i := 1) (by rfl) rfl, by decide +kernel⟩
theorem ms_X7_copyRow : Cond.static yX7_copyRow ∈ BIG := big_2 (i := 23) (by rfl) rfl
theorem mw_X8_init : MW yX8_init cX8_init 1 none 0 := ⟨big_3 (i := 210) (by rfl) rfl, big_1 (i := 9) (by rfl) rfl, by decide +kernel⟩
theorem mj_X8_init : Cond.instanceMethod yX8_init ∈ BIG := big_3 (i := 209) (by rfl) rfl
theorem mw_X8_in : MW yX8_in cX8_in 3 (some .boolean) 3 := ⟨big_4 (i := 47) (by rfl) rfl, big_1 (i := 9) (by rfl) rfl, by decide +kernel⟩
theorem ms_X8_in : Cond.static yX8_in ∈ BIG := big_4 (i := 46) (by rfl) rfl
theorem mw_X8_copies : MW yX8_copies cX8_copies 3 none 2 := ⟨big_4 (i := 156) (by rfl) rfl, big_1 (i := 9) (by rfl) rfl, by decide +kernel⟩
theorem ms_X8_copies : Cond.static yX8_copies ∈ BIG := big_4 (i := 155) (by rfl) rfl
theorem mw_X8_changes : MW yX8_changes cX8_changes 2 none 0 := ⟨big_4 (i := 32) (by rfl) rfl, big_1 (i := 9) (by rfl) rfl, by decide +kernel⟩
theorem mi_X8_changes : MI yX8_changes := ⟨big_4 (i := 31) (by rfl) rfl, big_p (i := 12) (q := (yX8_changes, _)) (by rfl)⟩
theorem mw_X8_isPlayer : MW yX8_isPlayer cX8_isPlayer 2 (some .boolean) 1 := ⟨big_4 (i := 44) (by rfl) rfl, big_1 (i := 9) (by rfl) rfl, by decide +kernel⟩
theorem mi_X8_isPlayer : MI yX8_isPlayer := ⟨big_4 (i := 43) (by rfl) rfl, big_p (i := 14) (q := (yX8_isPlayer, _)) (by rfl)⟩
theorem mw_X8_isWorker : MW yX8_isWorker cX8_isWorker 3 (some .boolean) 2 := ⟨big_4 (i := 40) (by rfl) rfl, big_1 (i := 9) (by rfl) rfl, by decide +kernel⟩
theorem mi_X8_isWorker : MI yX8_isWorker := ⟨big_4 (i := 39) (by rfl) rfl, big_p (i := 13) (q := (yX8_isWorker, _)) (by rfl)⟩
theorem mw_X8_isTask : MW yX8_isTask cX8_isTask 2 (some .boolean) 1 := ⟨big_4 (i := 69) (by rfl) rfl, big_1 (i := 9) (by rfl) rfl, by decide +kernel⟩
theorem mi_X8_isTask : MI yX8_isTask := ⟨big_4 (i := 68) (by rfl) rfl, big_p (i := 16) (q := (yX8_isTask, _)) (by rfl)⟩
theorem mw_X8_isContract : MW yX8_isContract cX8_isContract 2 (some .boolean) 1 := ⟨big_4 (i := 128) (by rfl) rfl, big_1 (i := 9) (by rfl) rfl, by decide +kernel⟩
theorem mi_X8_isContract : MI yX8_isContract := ⟨big_4 (i := 127) (by rfl) rfl, big_p (i := 27) (q := (yX8_isContract, _)) (by rfl)⟩
theorem mw_X8_of : MW yX8_of cX8_of 3 (some .int) 2 := ⟨big_4 (i := 52) (by rfl) rfl, big_1 (i := 9) (by rfl) rfl, by decide +kernel⟩
theorem mi_X8_of : MI yX8_of := ⟨big_4 (i := 51) (by rfl) rfl, big_p (i := 15) (q := (yX8_of, _)) (by rfl)⟩
theorem mw_X8_ofTask : MW yX8_ofTask cX8_ofTask 3 (some .int) 2 := ⟨big_4 (i := 81) (by rfl) rfl, big_1 (i := 9) (by rfl) rfl, by decide +kernel⟩
theorem mi_X8_ofTask : MI yX8_ofTask := ⟨big_4 (i := 80) (by rfl) rfl, big_p (i := 19) (q := (yX8_ofTask, _)) (by rfl)⟩
theorem mw_X8_workers : MW yX8_workers cX8_workers 1 (some .int) 0 := ⟨big_4 (i := 85) (by rfl) rfl, big_1 (i := 9) (by rfl) rfl, by decide +kernel⟩
theorem mi_X8_workers : MI yX8_workers := ⟨big_4 (i := 84) (by rfl) rfl, big_p (i := 20) (q := (yX8_workers, _)) (by rfl)⟩
theorem mw_X8_amount : MW yX8_amount cX8_amount 2 (some .int) 2 := ⟨big_4 (i := 92) (by rfl) rfl, big_1 (i := 9) (by rfl) rfl, by decide +kernel⟩
theorem ms_X8_amount : Cond.static yX8_amount ∈ BIG := big_4 (i := 91) (by rfl) rfl
theorem mw_X8_has : MW yX8_has cX8_has 5 (some .boolean) 2 := ⟨big_4 (i := 89) (by rfl) rfl, big_1 (i := 9) (by rfl) rfl, by decide +kernel⟩
theorem mi_X8_has : MI yX8_has := ⟨big_4 (i := 88) (by rfl) rfl, big_p (i := 21) (q := (yX8_has, _)) (by rfl)⟩
theorem mw_X8_pays : MW yX8_pays cX8_pays 4 none 2 := ⟨big_4 (i := 100) (by rfl) rfl, big_1 (i := 9) (by rfl) rfl, by decide +kernel⟩
theorem mi_X8_pays : MI yX8_pays := ⟨big_4 (i := 99) (by rfl) rfl, big_p (i := 23) (q := (yX8_pays, _)) (by rfl)⟩
theorem mw_X8_player : MW yX8_player cX8_player 3 (some .int) 0 := ⟨big_4 (i := 27) (by rfl) rfl, big_1 (i := 9) (by rfl) rfl, by decide +kernel⟩
theorem mi_X8_player : MI yX8_player := ⟨big_4 (i := 25) (by rfl) rfl, big_4 (i := 26) (by rfl) rfl⟩
theorem mw_X8_size : MW yX8_size cX8_size 6 (some .int) 3 := ⟨big_4 (i := 36) (by rfl) rfl, big_1 (i := 9) (by rfl) rfl, by decide +kernel⟩
theorem mi_X8_size : MI yX8_size := ⟨big_4 (i := 34) (by rfl) rfl, big_4 (i := 35) (by rfl) rfl⟩
theorem mw_X8_task : MW yX8_task cX8_task 6 (some .int) 4 := ⟨big_4 (i := 57) (by rfl) rfl, big_1 (i := 9) (by rfl) rfl, by decide +kernel⟩
theorem mi_X8_task : MI yX8_task := ⟨big_4 (i := 55) (by rfl) rfl, big_4 (i := 56) (by rfl) rfl⟩
theorem mw_X8_contract : MW yX8_contract cX8_contract 4 (some .int) 2 := ⟨big_4 (i := 61) (by rfl) rfl, big_1 (i := 9) (by rfl) rfl, by decide +kernel⟩
theorem mi_X8_contract : MI yX8_contract := ⟨big_4 (i := 59) (by rfl) rfl, big_4 (i := 60) (by rfl) rfl⟩
theorem mw_X8_left : MW yX8_left cX8_left 4 (some .int) 1 := ⟨big_4 (i := 77) (by rfl) rfl, big_1 (i := 9) (by rfl) rfl, by decide +kernel⟩
theorem mi_X8_left : MI yX8_left := ⟨big_4 (i := 76) (by rfl) rfl, big_p (i := 18) (q := (yX8_left, _)) (by rfl)⟩
theorem mw_X8_canPut : MW yX8_canPut cX8_canPut 3 (some .boolean) 2 := ⟨big_4 (i := 73) (by rfl) rfl, big_1 (i := 9) (by rfl) rfl, by decide +kernel⟩
theorem mi_X8_canPut : MI yX8_canPut := ⟨big_4 (i := 72) (by rfl) rfl, big_p (i := 17) (q := (yX8_canPut, _)) (by rfl)⟩
theorem mw_X8_puts : MW yX8_puts cX8_puts 3 none 2 := ⟨big_4 (i := 96) (by rfl) rfl, big_1 (i := 9) (by rfl) rfl, by decide +kernel⟩
theorem mi_X8_puts : MI yX8_puts := ⟨big_4 (i := 95) (by rfl) rfl, big_p (i := 22) (q := (yX8_puts, _)) (by rfl)⟩
theorem mw_X8_put : MW yX8_put cX8_put 4 (some .int) 3 := ⟨big_4 (i := 65) (by rfl) rfl, big_1 (i := 9) (by rfl) rfl, by decide +kernel⟩
theorem mi_X8_put : MI yX8_put := ⟨big_4 (i := 63) (by rfl) rfl, big_4 (i := 64) (by rfl) rfl⟩
theorem mw_X8_home : MW yX8_home cX8_home 5 (some .int) 2 := ⟨big_4 (i := 104) (by rfl) rfl, big_1 (i := 9) (by rfl) rfl, by decide +kernel⟩
theorem mi_X8_home : MI yX8_home := ⟨big_4 (i := 102) (by rfl) rfl, big_4 (i := 103) (by rfl) rfl⟩
theorem mw_X8_flips : MW yX8_flips cX8_flips 2 none 1 := ⟨big_4 (i := 112) (by rfl) rfl, big_1 (i := 9) (by rfl) rfl, by decide +kernel⟩
theorem mi_X8_flips : MI yX8_flips := ⟨big_4 (i := 111) (by rfl) rfl, big_p (i := 24) (q := (yX8_flips, _)) (by rfl)⟩
theorem mw_X8_gains : MW yX8_gains cX8_gains 5 none 2 := ⟨big_4 (i := 120) (by rfl) rfl, big_1 (i := 9) (by rfl) rfl, by decide +kernel⟩
theorem mi_X8_gains : MI yX8_gains := ⟨big_4 (i := 119) (by rfl) rfl, big_p (i := 26) (q := (yX8_gains, _)) (by rfl)⟩
theorem mw_X8_works : MW yX8_works cX8_works 5 none 0 := ⟨big_4 (i := 116) (by rfl) rfl, big_1 (i := 9) (by rfl) rfl, by decide +kernel⟩
theorem mi_X8_works : MI yX8_works := ⟨big_4 (i := 115) (by rfl) rfl, big_p (i := 25) (q := (yX8_works, _)) (by rfl)⟩
theorem mw_X8_flip : MW yX8_flip cX8_flip 5 (some .int) 2 := ⟨big_4 (i := 108) (by rfl) rfl, big_1 (i := 9) (by rfl) rfl, by decide +kernel⟩
theorem mi_X8_flip : MI yX8_flip := ⟨big_4 (i := 106) (by rfl) rfl, big_4 (i := 107) (by rfl) rfl⟩
theorem mw_X8_buy : MW yX8_buy cX8_buy 5 (some .int) 2 := ⟨big_4 (i := 124) (by rfl) rfl, big_1 (i := 9) (by rfl) rfl, by decide +kernel⟩
theorem mi_X8_buy : MI yX8_buy := ⟨big_4 (i := 122) (by rfl) rfl, big_4 (i := 123) (by rfl) rfl⟩
theorem mw_X8_goes : MW yX8_goes cX8_goes 2 none 0 := ⟨big_4 (i := 136) (by rfl) rfl, big_1 (i := 9) (by rfl) rfl, by decide +kernel⟩
theorem mi_X8_goes : MI yX8_goes := ⟨big_4 (i := 135) (by rfl) rfl, big_p (i := 28) (q := (yX8_goes, _)) (by rfl)⟩
theorem mw_X8_pass : MW yX8_pass cX8_pass 4 (some .int) 1 := ⟨big_4 (i := 132) (by rfl) rfl, big_1 (i := 9) (by rfl) rfl, by decide +kernel⟩
theorem mi_X8_pass : MI yX8_pass := ⟨big_4 (i := 130) (by rfl) rfl, big_4 (i := 131) (by rfl) rfl⟩
theorem mw_X8_outs : MW yX8_outs cX8_outs 4 (some .int) 1 := ⟨big_4 (i := 144) (by rfl) rfl, big_1 (i := 9) (by rfl) rfl, by decide +kernel⟩
theorem mi_X8_outs : MI yX8_outs := ⟨big_4 (i := 143) (by rfl) rfl, big_p (i := 29) (q := (yX8_outs, _)) (by rfl)⟩
theorem mw_X8_waited : MW yX8_waited cX8_waited 2 (some .int) 1 := ⟨big_4 (i := 148) (by rfl) rfl, big_1 (i := 9) (by rfl) rfl, by decide +kernel⟩
theorem mi_X8_waited : MI yX8_waited := ⟨big_4 (i := 147) (by rfl) rfl, big_p (i := 30) (q := (yX8_waited, _)) (by rfl)⟩
theorem mw_X8_nextOut : MW yX8_nextOut cX8_nextOut 4 (some .int) 1 := ⟨big_4 (i := 152) (by rfl) rfl, big_1 (i := 9) (by rfl) rfl, by decide +kernel⟩
theorem mi_X8_nextOut : MI yX8_nextOut := ⟨big_4 (i := 151) (by rfl) rfl, big_p (i := 31) (q := (yX8_nextOut, _)) (by rfl)⟩
theorem mw_X8_playerOf : MW yX8_playerOf cX8_playerOf 3 (some .int) 2 := ⟨big_4 (i := 140) (by rfl) rfl, big_1 (i := 9) (by rfl) rfl, by decide +kernel⟩
theorem mi_X8_playerOf : MI yX8_playerOf := ⟨big_4 (i := 138) (by rfl) rfl, big_4 (i := 139) (by rfl) rfl⟩
theorem mw_X8_workerOf : MW yX8_workerOf cX8_workerOf 5 (some .int) 3 := ⟨big_4 (i := 160) (by rfl) rfl, big_1 (i := 9) (by rfl) rfl, by decide +kernel⟩
theorem mi_X8_workerOf : MI yX8_workerOf := ⟨big_4 (i := 158) (by rfl) rfl, big_4 (i := 159) (by rfl) rfl⟩
theorem mw_X8_taskOf : MW yX8_taskOf cX8_taskOf 3 (some .int) 2 := ⟨big_4 (i := 164) (by rfl) rfl, big_1 (i := 9) (by rfl) rfl, by decide +kernel⟩
theorem mi_X8_taskOf : MI yX8_taskOf := ⟨big_4 (i := 162) (by rfl) rfl, big_4 (i := 163) (by rfl) rfl⟩
theorem mw_X8_told : MW yX8_told cX8_told 1 (some .int) 1 := ⟨big_4 (i := 171) (by rfl) rfl, big_1 (i := 9) (by rfl) rfl, by decide +kernel⟩
theorem ms_X8_told : Cond.static yX8_told ∈ BIG := big_4 (i := 170) (by rfl) rfl
theorem mw_X8_on : MW yX8_on cX8_on 6 (some .int) 2 := ⟨big_4 (i := 168) (by rfl) rfl, big_1 (i := 9) (by rfl) rfl, by decide +kernel⟩
theorem mi_X8_on : MI yX8_on := ⟨big_4 (i := 166) (by rfl) rfl, big_4 (i := 167) (by rfl) rfl⟩
theorem mw_X8_contractOf : MW yX8_contractOf cX8_contractOf 5 (some .int) 2 := ⟨big_4 (i := 175) (by rfl) rfl, big_1 (i := 9) (by rfl) rfl, by decide +kernel⟩
theorem mi_X8_contractOf : MI yX8_contractOf := ⟨big_4 (i := 173) (by rfl) rfl, big_4 (i := 174) (by rfl) rfl⟩
theorem mw_X8_anySand : MW yX8_anySand cX8_anySand 3 (some .boolean) 0 := ⟨big_4 (i := 183) (by rfl) rfl, big_1 (i := 9) (by rfl) rfl, by decide +kernel⟩
theorem mi_X8_anySand : MI yX8_anySand := ⟨big_4 (i := 182) (by rfl) rfl, big_p (i := 32) (q := (yX8_anySand, _)) (by rfl)⟩
theorem mw_X8_next : MW yX8_next cX8_next 3 (some .int) 1 := ⟨big_4 (i := 179) (by rfl) rfl, big_1 (i := 9) (by rfl) rfl, by decide +kernel⟩
theorem mi_X8_next : MI yX8_next := ⟨big_4 (i := 177) (by rfl) rfl, big_4 (i := 178) (by rfl) rfl⟩
theorem mw_X8_would : MW yX8_would cX8_would 5 (some .int) 3 := ⟨big_4 (i := 187) (by rfl) rfl, big_1 (i := 9) (by rfl) rfl, by decide +kernel⟩
theorem mi_X8_would : MI yX8_would := ⟨big_4 (i := 185) (by rfl) rfl, big_4 (i := 186) (by rfl) rfl⟩
theorem mw_X8_sum : MW yX8_sum cX8_sum 2 (some .int) 1 := ⟨big_4 (i := 195) (by rfl) rfl, big_1 (i := 9) (by rfl) rfl, by decide +kernel⟩
theorem mi_X8_sum : MI yX8_sum := ⟨big_4 (i := 194) (by rfl) rfl, big_p (i := 33) (q := (yX8_sum, _)) (by rfl)⟩
theorem mw_X8_best : MW yX8_best cX8_best 9 (some .int) 3 := ⟨big_4 (i := 191) (by rfl) rfl, big_1 (i := 9) (by rfl) rfl, by decide +kernel⟩
theorem mi_X8_best : MI yX8_best := ⟨big_4 (i := 189) (by rfl) rfl, big_4 (i := 190) (by rfl) rfl⟩
theorem mw_X8_earns : MW yX8_earns cX8_earns 7 (some .int) 3 := ⟨big_4 (i := 199) (by rfl) rfl, big_1 (i := 9) (by rfl) rfl, by decide +kernel⟩
theorem mi_X8_earns : MI yX8_earns := ⟨big_4 (i := 197) (by rfl) rfl, big_4 (i := 198) (by rfl) rfl⟩
theorem mw_X8_busy : MW yX8_busy cX8_busy 5 (some .int) 2 := ⟨big_4 (i := 203) (by rfl) rfl, big_1 (i := 9) (by rfl) rfl, by decide +kernel⟩
theorem mi_X8_busy : MI yX8_busy := ⟨big_4 (i := 201) (by rfl) rfl, big_4 (i := 202) (by rfl) rfl⟩
theorem mw_X8_goods : MW yX8_goods cX8_goods 2 (some .int) 1 := ⟨big_4 (i := 225) (by rfl) rfl, big_1 (i := 9) (by rfl) rfl, by decide +kernel⟩
theorem mi_X8_goods : MI yX8_goods := ⟨big_4 (i := 224) (by rfl) rfl, big_p (i := 35) (q := (yX8_goods, _)) (by rfl)⟩
theorem mw_X8_ahead : MW yX8_ahead cX8_ahead 4 (some .int) 0 := ⟨big_4 (i := 221) (by rfl) rfl, big_1 (i := 9) (by rfl) rfl, by decide +kernel⟩
theorem mi_X8_ahead : MI yX8_ahead := ⟨big_4 (i := 220) (by rfl) rfl, big_p (i := 34) (q := (yX8_ahead, _)) (by rfl)⟩
theorem mw_X8_count : MW yX8_count cX8_count 2 (some .int) 1 := ⟨big_4 (i := 217) (by rfl) rfl, big_1 (i := 9) (by rfl) rfl, by decide +kernel⟩
theorem mi_X8_count : MI yX8_count := ⟨big_4 (i := 215) (by rfl) rfl, big_4 (i := 216) (by rfl) rfl⟩
theorem mw_X8_undo : MW yX8_undo cX8_undo 2 (some .int) 0 := ⟨big_4 (i := 229) (by rfl) rfl, big_1 (i := 9) (by rfl) rfl, by decide +kernel⟩
theorem mi_X8_undo : MI yX8_undo := ⟨big_4 (i := 227) (by rfl) rfl, big_4 (i := 228) (by rfl) rfl⟩
theorem mw_X8_type : MW yX8_type cX8_type 2 (some .int) 1 := ⟨big_4 (i := 233) (by rfl) rfl, big_1 (i := 9) (by rfl) rfl, by decide +kernel⟩
theorem mi_X8_type : MI yX8_type := ⟨big_4 (i := 231) (by rfl) rfl, big_4 (i := 232) (by rfl) rfl⟩
theorem mw_X8_clearText : MW yX8_clearText cX8_clearText 2 (some .int) 0 := ⟨big_4 (i := 237) (by rfl) rfl, big_1 (i := 9) (by rfl) rfl, by decide +kernel⟩
theorem mi_X8_clearText : MI yX8_clearText := ⟨big_4 (i := 235) (by rfl) rfl, big_4 (i := 236) (by rfl) rfl⟩
theorem mw_X8_isAt : MW yX8_isAt cX8_isAt 3 (some .boolean) 2 := ⟨big_5 (i := 13) (by rfl) rfl, big_1 (i := 9) (by rfl) rfl, by decide +kernel⟩
theorem mi_X8_isAt : MI yX8_isAt := ⟨big_5 (i := 12) (by rfl) rfl, big_p (i := 38) (q := (yX8_isAt, _)) (by rfl)⟩
theorem mw_X8_sign : MW yX8_sign cX8_sign 3 (some .boolean) 1 := ⟨big_5 (i := 24) (by rfl) rfl, big_1 (i := 9) (by rfl) rfl, by decide +kernel⟩
theorem mi_X8_sign : MI yX8_sign := ⟨big_5 (i := 23) (by rfl) rfl, big_p (i := 40) (q := (yX8_sign, _)) (by rfl)⟩
theorem mw_X8_number : MW yX8_number cX8_number 3 (some .boolean) 1 := ⟨big_5 (i := 20) (by rfl) rfl, big_1 (i := 9) (by rfl) rfl, by decide +kernel⟩
theorem mi_X8_number : MI yX8_number := ⟨big_5 (i := 19) (by rfl) rfl, big_p (i := 39) (q := (yX8_number, _)) (by rfl)⟩
theorem mw_X8_numbersOf : MW yX8_numbersOf cX8_numbersOf 1 (some .int) 1 := ⟨big_5 (i := 16) (by rfl) rfl, big_1 (i := 9) (by rfl) rfl, by decide +kernel⟩
theorem ms_X8_numbersOf : Cond.static yX8_numbersOf ∈ BIG := big_5 (i := 15) (by rfl) rfl
theorem mw_X8_reads : MW yX8_reads cX8_reads 4 (some .boolean) 0 := ⟨big_5 (i := 9) (by rfl) rfl, big_1 (i := 9) (by rfl) rfl, by decide +kernel⟩
theorem mi_X8_reads : MI yX8_reads := ⟨big_5 (i := 8) (by rfl) rfl, big_p (i := 37) (q := (yX8_reads, _)) (by rfl)⟩
theorem mw_X8_calls : MW yX8_calls cX8_calls 1 (some .int) 0 := ⟨big_5 (i := 28) (by rfl) rfl, big_1 (i := 9) (by rfl) rfl, by decide +kernel⟩
theorem mi_X8_calls : MI yX8_calls := ⟨big_5 (i := 27) (by rfl) rfl, big_p (i := 41) (q := (yX8_calls, _)) (by rfl)⟩
theorem mw_X8_plays : MW yX8_plays cX8_plays 4 (some .boolean) 0 := ⟨big_5 (i := 5) (by rfl) rfl, big_1 (i := 9) (by rfl) rfl, by decide +kernel⟩
theorem mi_X8_plays : MI yX8_plays := ⟨big_5 (i := 4) (by rfl) rfl, big_p (i := 36) (q := (yX8_plays, _)) (by rfl)⟩
theorem mw_X8_fault : MW yX8_fault cX8_fault 3 (some .int) 1 := ⟨big_5 (i := 1) (by rfl) rfl, big_1 (i := 9) (by rfl) rfl, by decide +kernel⟩
theorem mi_X8_fault : MI yX8_fault := ⟨big_4 (i := 239) (by rfl) rfl, big_5 (i := 0) (by rfl) rfl⟩
theorem mw_X8_play : MW yX8_play cX8_play 2 (some .int) 0 := ⟨big_5 (i := 38) (by rfl) rfl, big_1 (i := 9) (by rfl) rfl, by decide +kernel⟩
theorem mi_X8_play : MI yX8_play := ⟨big_5 (i := 36) (by rfl) rfl, big_5 (i := 37) (by rfl) rfl⟩
theorem mw_Jxf58ca_isNaN_12338 : MW yJxf58ca_isNaN_12338 cJxf58ca_isNaN_12338 1 (some .boolean) 1 := ⟨big_4 (i := 209) (by rfl) rfl, big_1 (i := 12) (by rfl) rfl, by decide +kernel⟩
theorem ms_Jxf58ca_isNaN_12338 : Cond.static yJxf58ca_isNaN_12338 ∈ BIG := big_4 (i := 208) (by rfl) rfl
theorem mw_Jxf58ca_floatToIntBits_5c35a : MW yJxf58ca_floatToIntBits_5c35a cJxf58ca_floatToIntBits_5c35a 1 (some .int) 1 := ⟨big_4 (i := 206) (by rfl) rfl, big_1 (i := 12) (by rfl) rfl, by decide +kernel⟩
theorem ms_Jxf58ca_floatToIntBits_5c35a : Cond.static yJxf58ca_floatToIntBits_5c35a ∈ BIG := big_4 (i := 205) (by rfl) rfl
theorem math_max_s : Cond.static Lib.Math.max.name ∈ BIG := big_2 (i := 231) (by rfl) rfl
theorem math_max_c : Cond.code Lib.Math.max.name Lib.Math.max.code 2 (some .int) ∈ BIG := big_2 (i := 232) (by decide +kernel) rfl
theorem math_min_s : Cond.static Lib.Math.min.name ∈ BIG := big_2 (i := 26) (by rfl) rfl
theorem math_min_c : Cond.code Lib.Math.min.name Lib.Math.min.code 2 (some .int) ∈ BIG := big_2 (i := 27) (by decide +kernel) rfl
theorem math_i : Cond.initialized "java/lang/Math" ∈ BIG := big_1 (i := 10) (by rfl) rfl
theorem nl_X0_22 : (RX0, 22, yX7_copyRow, RX7) ∈ nwl := by simp [nwl]
theorem nl_X1_63 : (RX1, 63, yX7_within, RX7) ∈ nwl := by simp [nwl]
theorem nl_X1_79 : (RX1, 79, yX7_glassOf, RX7) ∈ nwl := by simp [nwl]
theorem nl_X1_118 : (RX1, 118, yX7_playerWith, RX7) ∈ nwl := by simp [nwl]
theorem nl_X2_37 : (RX2, 37, yX7_copyRow, RX7) ∈ nwl := by simp [nwl]
theorem nl_X2_54 : (RX2, 54, yX7_glassOf, RX7) ∈ nwl := by simp [nwl]
theorem nl_X4_60 : (RX4, 60, yX7_within, RX7) ∈ nwl := by simp [nwl]
theorem nl_X5_25 : (RX5, 25, yX7_copyRow, RX7) ∈ nwl := by simp [nwl]
theorem nl_X5_33 : (RX5, 33, yX7_amountIn, RX7) ∈ nwl := by simp [nwl]
theorem nl_X6_31 : (RX6, 31, yX7_copyRow, RX7) ∈ nwl := by simp [nwl]
theorem nl_X6_35 : (RX6, 35, yX7_allAmountsIn, RX7) ∈ nwl := by simp [nwl]
theorem ml_X7_273 : Cond.methodLink RX7 273 Lib.Math.min.name ∈ BIG := big_2 (i := 25) (by rfl) rfl
theorem ml_X1_164 : Cond.methodLink RX1 164 Lib.Math.min.name ∈ BIG := big_2 (i := 229) (by rfl) rfl
theorem ml_X1_169 : Cond.methodLink RX1 169 Lib.Math.max.name ∈ BIG := big_2 (i := 230) (by rfl) rfl
theorem ml_X5_40 : Cond.methodLink RX5 40 Lib.Math.min.name ∈ BIG := big_2 (i := 186) (by rfl) rfl
