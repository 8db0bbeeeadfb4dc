theorem df_X0 : ∀ k, k < 4 → defaultValue ((parseFieldDescriptor (TX0 k).2.2.1).getD .int) = if zrF 0 k = true then Value.null else .int 0 := by decide +kernel
theorem df_X1 : ∀ k, k < 4 → defaultValue ((parseFieldDescriptor (TX1 k).2.2.1).getD .int) = if zrF 1 k = true then Value.null else .int 0 := by decide +kernel
theorem df_X2 : ∀ k, k < 13 → defaultValue ((parseFieldDescriptor (TX2 k).2.2.1).getD .int) = if zrF 2 k = true then Value.null else .int 0 := by decide +kernel
theorem df_X3 : ∀ k, k < 4 → defaultValue ((parseFieldDescriptor (TX3 k).2.2.1).getD .int) = if zrF 3 k = true then Value.null else .int 0 := by decide +kernel
theorem df_X4 : ∀ k, k < 4 → defaultValue ((parseFieldDescriptor (TX4 k).2.2.1).getD .int) = if zrF 4 k = true then Value.null else .int 0 := by decide +kernel
theorem df_X5 : ∀ k, k < 2 → defaultValue ((parseFieldDescriptor (TX5 k).2.2.1).getD .int) = if zrF 5 k = true then Value.null else .int 0 := by decide +kernel
theorem df_X6 : ∀ k, k < 5 → defaultValue ((parseFieldDescriptor (TX6 k).2.2.1).getD .int) = if zrF 6 k = true then Value.null else .int 0 := by decide +kernel
theorem df_X7 : ∀ k, k < 5 → defaultValue ((parseFieldDescriptor (TX7 k).2.2.1).getD .int) = if zrF 7 k = true then Value.null else .int 0 := by decide +kernel
theorem df_X8 : ∀ k, k < 2 → defaultValue ((parseFieldDescriptor (TX8 k).2.2.1).getD .int) = if zrF 8 k = true then Value.null else .int 0 := by decide +kernel
theorem df_X9 : ∀ k, k < 4 → defaultValue ((parseFieldDescriptor (TX9 k).2.2.1).getD .int) = if zrF 9 k = true then Value.null else .int 0 := by decide +kernel
theorem df_X10 : ∀ k, k < 4 → defaultValue ((parseFieldDescriptor (TX10 k).2.2.1).getD .int) = if zrF 10 k = true then Value.null else .int 0 := by decide +kernel
theorem df_X11 : ∀ k, k < 4 → defaultValue ((parseFieldDescriptor (TX11 k).2.2.1).getD .int) = if zrF 11 k = true then Value.null else .int 0 := by decide +kernel
theorem df_X12 : ∀ k, k < 24 → defaultValue ((parseFieldDescriptor (TX12 k).2.2.1).getD .int) = if zrF 12 k = true then Value.null else .int 0 := by decide +kernel
theorem fs_RX4_7 : zFS RX4 7 zLs 0 false := ⟨_, "TwoPens$Line", _, _, zi zm375, Or.inl rfl, by decide +kernel⟩
theorem fp_RX4_7 : zFP RX4 7 zLs 0 false true .int := ⟨_, "TwoPens$Line", _, _, zi zm375, Or.inl rfl, by decide +kernel, by decide +kernel, by decide +kernel, fun _ => rfl⟩
theorem fs_RX4_13 : zFS RX4 13 zLs 1 false := ⟨_, "TwoPens$Line", _, _, zi zm376, Or.inl rfl, by decide +kernel⟩
theorem fp_RX4_13 : zFP RX4 13 zLs 1 false true .int := ⟨_, "TwoPens$Line", _, _, zi zm376, Or.inl rfl, by decide +kernel, by decide +kernel, by decide +kernel, fun _ => rfl⟩
theorem fs_RX4_16 : zFS RX4 16 zLs 2 false := ⟨_, "TwoPens$Line", _, _, zi zm377, Or.inl rfl, by decide +kernel⟩
theorem fp_RX4_16 : zFP RX4 16 zLs 2 false true .int := ⟨_, "TwoPens$Line", _, _, zi zm377, Or.inl rfl, by decide +kernel, by decide +kernel, by decide +kernel, fun _ => rfl⟩
theorem fs_RX4_19 : zFS RX4 19 zLs 3 false := ⟨_, "TwoPens$Line", _, _, zi zm378, Or.inl rfl, by decide +kernel⟩
theorem fp_RX4_19 : zFP RX4 19 zLs 3 false true .int := ⟨_, "TwoPens$Line", _, _, zi zm378, Or.inl rfl, by decide +kernel, by decide +kernel, by decide +kernel, fun _ => rfl⟩
theorem cal_X4_init : zCal yX4_init 4 := by unfold zCal; decide +kernel
theorem fs_RX0_7 : zFS RX0 7 [10, 11] 3 false := ⟨_, "TwoPens$Line", _, _, zi zm489, Or.inr (zi zm490), by decide +kernel⟩
theorem fs_RX0_13 : zFS RX0 13 [10, 11] 2 false := ⟨_, "TwoPens$Line", _, _, zi zm491, Or.inr (zi zm492), by decide +kernel⟩
theorem fs_RX8_15 : zFS RX8 15 [18] 1 false := ⟨_, "TwoPens$Trace", _, _, zi zm969, Or.inl rfl, by decide +kernel⟩
theorem fp_RX8_15 : zFP RX8 15 [18] 1 false false .int := ⟨_, "TwoPens$Trace", _, _, zi zm969, Or.inl rfl, by decide +kernel, by decide +kernel, by decide +kernel, fun h => by cases h⟩
theorem fs_RX8_9 : zFS RX8 9 [18] 0 true := ⟨_, "TwoPens$Trace", _, _, zi zm59, Or.inl rfl, by decide +kernel⟩
theorem cal_X8_ran : zCal yX8_ran 1 := by unfold zCal; decide +kernel
theorem fs_RX1_21 : zFS RX1 21 [11] 1 false := ⟨_, "TwoPens$Line", _, _, zi zm983, Or.inr (zi zm984), by decide +kernel⟩
theorem cal_X4_writes : zCal yX4_writes 2 := by unfold zCal; decide +kernel
theorem cal_X4_shows : zCal yX4_shows 2 := by unfold zCal; decide +kernel
theorem cal_X0_init : zCal yX0_init 4 := by unfold zCal; decide +kernel
theorem cal_X0_seconds : zCal yX0_seconds 1 := by unfold zCal; decide +kernel
theorem fs_RX6_9 : zFS RX6 9 [16] 0 false := ⟨_, "TwoPens$School", _, _, zi zm43, Or.inl rfl, by decide +kernel⟩
theorem fp_RX6_9 : zFP RX6 9 [16] 0 false false .int := ⟨_, "TwoPens$School", _, _, zi zm43, Or.inl rfl, by decide +kernel, by decide +kernel, by decide +kernel, fun h => by cases h⟩
theorem fs_RX6_15 : zFS RX6 15 [16] 1 false := ⟨_, "TwoPens$School", _, _, zi zm44, Or.inl rfl, by decide +kernel⟩
theorem fp_RX6_15 : zFP RX6 15 [16] 1 false false .int := ⟨_, "TwoPens$School", _, _, zi zm44, Or.inl rfl, by decide +kernel, by decide +kernel, by decide +kernel, fun h => by cases h⟩
theorem fs_RX6_18 : zFS RX6 18 [16] 3 true := ⟨_, "TwoPens$School", _, _, zi zm46, Or.inl rfl, by decide +kernel⟩
theorem fp_RX6_18 : zFP RX6 18 [16] 3 true true (.array .int) := ⟨_, "TwoPens$School", _, _, zi zm46, Or.inl rfl, by decide +kernel, by decide +kernel, by decide +kernel, fun _ => rfl⟩
theorem fs_RX5_13 : zFS RX5 13 [15] 0 true := ⟨_, "TwoPens$Numbers", _, _, zi zm55, Or.inl rfl, by decide +kernel⟩
theorem fp_RX5_13 : zFP RX5 13 [15] 0 true true (.array .int) := ⟨_, "TwoPens$Numbers", _, _, zi zm55, Or.inl rfl, by decide +kernel, by decide +kernel, by decide +kernel, fun _ => rfl⟩
theorem fs_RX2_11 : zFS RX2 11 [12] 0 true := ⟨_, "TwoPens$Desk", _, _, zi zm25, Or.inl rfl, by decide +kernel⟩
theorem fp_RX2_11 : zFP RX2 11 [12] 0 true true (.array (.object "TwoPens$Line")) := ⟨_, "TwoPens$Desk", _, _, zi zm25, Or.inl rfl, by decide +kernel, by decide +kernel, by decide +kernel, fun _ => rfl⟩
theorem fs_RX2_20 : zFS RX2 20 [12] 2 true := ⟨_, "TwoPens$Desk", _, _, zi zm29, Or.inl rfl, by decide +kernel⟩
theorem fp_RX2_20 : zFP RX2 20 [12] 2 true false (.object "TwoPens$School") := ⟨_, "TwoPens$Desk", _, _, zi zm29, Or.inl rfl, by decide +kernel, by decide +kernel, by decide +kernel, fun h => by cases h⟩
theorem fs_RX2_29 : zFS RX2 29 [12] 4 true := ⟨_, "TwoPens$Desk", _, _, zi zm33, Or.inl rfl, by decide +kernel⟩
theorem fp_RX2_29 : zFP RX2 29 [12] 4 true true (.object "TwoPens$Numbers") := ⟨_, "TwoPens$Desk", _, _, zi zm33, Or.inl rfl, by decide +kernel, by decide +kernel, by decide +kernel, fun _ => rfl⟩
theorem fs_RX2_33 : zFS RX2 33 [12] 5 true := ⟨_, "TwoPens$Desk", _, _, zi zm34, Or.inl rfl, by decide +kernel⟩
theorem fp_RX2_33 : zFP RX2 33 [12] 5 true true (.object "TwoPens$Numbers") := ⟨_, "TwoPens$Desk", _, _, zi zm34, Or.inl rfl, by decide +kernel, by decide +kernel, by decide +kernel, fun _ => rfl⟩
theorem fs_RX2_36 : zFS RX2 36 [12] 8 true := ⟨_, "TwoPens$Desk", _, _, zi zm35, Or.inl rfl, by decide +kernel⟩
theorem fp_RX2_36 : zFP RX2 36 [12] 8 true true (.object "TwoPens$Numbers") := ⟨_, "TwoPens$Desk", _, _, zi zm35, Or.inl rfl, by decide +kernel, by decide +kernel, by decide +kernel, fun _ => rfl⟩
theorem fs_RX2_39 : zFS RX2 39 [12] 9 true := ⟨_, "TwoPens$Desk", _, _, zi zm36, Or.inl rfl, by decide +kernel⟩
theorem fp_RX2_39 : zFP RX2 39 [12] 9 true true (.object "TwoPens$Numbers") := ⟨_, "TwoPens$Desk", _, _, zi zm36, Or.inl rfl, by decide +kernel, by decide +kernel, by decide +kernel, fun _ => rfl⟩
theorem fs_RX2_42 : zFS RX2 42 [12] 10 true := ⟨_, "TwoPens$Desk", _, _, zi zm37, Or.inl rfl, by decide +kernel⟩
theorem fp_RX2_42 : zFP RX2 42 [12] 10 true true (.object "TwoPens$Numbers") := ⟨_, "TwoPens$Desk", _, _, zi zm37, Or.inl rfl, by decide +kernel, by decide +kernel, by decide +kernel, fun _ => rfl⟩
theorem fs_RX2_45 : zFS RX2 45 [12] 11 true := ⟨_, "TwoPens$Desk", _, _, zi zm38, Or.inl rfl, by decide +kernel⟩
theorem fp_RX2_45 : zFP RX2 45 [12] 11 true true (.object "TwoPens$Numbers") := ⟨_, "TwoPens$Desk", _, _, zi zm38, Or.inl rfl, by decide +kernel, by decide +kernel, by decide +kernel, fun _ => rfl⟩
theorem fs_RX2_48 : zFS RX2 48 [12] 12 true := ⟨_, "TwoPens$Desk", _, _, zi zm39, Or.inl rfl, by decide +kernel⟩
theorem fp_RX2_48 : zFP RX2 48 [12] 12 true true (.object "TwoPens$Numbers") := ⟨_, "TwoPens$Desk", _, _, zi zm39, Or.inl rfl, by decide +kernel, by decide +kernel, by decide +kernel, fun _ => rfl⟩
theorem cal_X5_init : zCal yX5_init 1 := by unfold zCal; decide +kernel
theorem cal_X6_init : zCal yX6_init 0 := by unfold zCal; decide +kernel
theorem fs_RX5_19 : zFS RX5 19 [15] 1 false := ⟨_, "TwoPens$Numbers", _, _, zi zm81, Or.inl rfl, by decide +kernel⟩
theorem fp_RX5_19 : zFP RX5 19 [15] 1 false false .int := ⟨_, "TwoPens$Numbers", _, _, zi zm81, Or.inl rfl, by decide +kernel, by decide +kernel, by decide +kernel, fun h => by cases h⟩
theorem cal_X5_add : zCal yX5_add 1 := by unfold zCal; decide +kernel
theorem cal_X5_get : zCal yX5_get 1 := by unfold zCal; decide +kernel
theorem cal_X5_clear : zCal yX5_clear 0 := by unfold zCal; decide +kernel
theorem fs_RX2_51 : zFS RX2 51 [12] 1 false := ⟨_, "TwoPens$Desk", _, _, zi zm343, Or.inl rfl, by decide +kernel⟩
theorem fp_RX2_51 : zFP RX2 51 [12] 1 false false .int := ⟨_, "TwoPens$Desk", _, _, zi zm343, Or.inl rfl, by decide +kernel, by decide +kernel, by decide +kernel, fun h => by cases h⟩
theorem fs_RX2_55 : zFS RX2 55 [12] 3 false := ⟨_, "TwoPens$Desk", _, _, zi zm1122, Or.inl rfl, by decide +kernel⟩
theorem fp_RX2_55 : zFP RX2 55 [12] 3 false false .int := ⟨_, "TwoPens$Desk", _, _, zi zm1122, Or.inl rfl, by decide +kernel, by decide +kernel, by decide +kernel, fun h => by cases h⟩
theorem fs_RX2_62 : zFS RX2 62 [12] 6 false := ⟨_, "TwoPens$Desk", _, _, zi zm1123, Or.inl rfl, by decide +kernel⟩
theorem fp_RX2_62 : zFP RX2 62 [12] 6 false false .int := ⟨_, "TwoPens$Desk", _, _, zi zm1123, Or.inl rfl, by decide +kernel, by decide +kernel, by decide +kernel, fun h => by cases h⟩
theorem fs_RX2_65 : zFS RX2 65 [12] 7 false := ⟨_, "TwoPens$Desk", _, _, zi zm1124, Or.inl rfl, by decide +kernel⟩
theorem fp_RX2_65 : zFP RX2 65 [12] 7 false false .int := ⟨_, "TwoPens$Desk", _, _, zi zm1124, Or.inl rfl, by decide +kernel, by decide +kernel, by decide +kernel, fun h => by cases h⟩
theorem cal_X5_copy : zCal yX5_copy 1 := by unfold zCal; decide +kernel
theorem fs_RX7_7 : zFS RX7 7 [17] 4 true := ⟨_, "TwoPens$Told", _, _, zi zm398, Or.inl rfl, by decide +kernel⟩
theorem cal_X7_rowAt : zCal yX7_rowAt 1 := by unfold zCal; decide +kernel
theorem fs_RX10_7 : zFS RX10 7 [20, 19] 3 false := ⟨_, "TwoPens$Line", _, _, zi zm522, Or.inr (zi zm523), by decide +kernel⟩
theorem fs_RX10_13 : zFS RX10 13 [20, 19] 2 false := ⟨_, "TwoPens$Line", _, _, zi zm524, Or.inr (zi zm525), by decide +kernel⟩
theorem fs_RX9_7 : zFS RX9 7 [19] 3 false := ⟨_, "TwoPens$Line", _, _, zi zm513, Or.inr (zi zm514), by decide +kernel⟩
theorem fs_RX9_13 : zFS RX9 13 [19] 2 false := ⟨_, "TwoPens$Line", _, _, zi zm515, Or.inr (zi zm516), by decide +kernel⟩
theorem cal_X10_seconds : zCal yX10_seconds 1 := by unfold zCal; decide +kernel
theorem cal_X4_seconds : zCal yX4_seconds 1 := by unfold zCal; decide +kernel
theorem cal_X2_wayOf : zCal yX2_wayOf 1 := by unfold zCal; decide +kernel
theorem fs_RX3_7 : zFS RX3 7 [13, 17] 2 false := ⟨_, "TwoPens$Line", _, _, zi zm541, Or.inr (zi zm542), by decide +kernel⟩
theorem cal_X4_pence : zCal yX4_pence 1 := by unfold zCal; decide +kernel
theorem fs_RX2_83 : zFS RX2 83 [16] 1 false := ⟨_, "TwoPens$School", _, _, zi zm647, Or.inl rfl, by decide +kernel⟩
theorem fs_RX2_92 : zFS RX2 92 [16] 0 false := ⟨_, "TwoPens$School", _, _, zi zm649, Or.inl rfl, by decide +kernel⟩
theorem cal_X5_size : zCal yX5_size 0 := by unfold zCal; decide +kernel
theorem fs_RX6_129 : zFS RX6 129 zLs 1 false := ⟨_, "TwoPens$Line", _, _, zi zm616, Or.inl rfl, by decide +kernel⟩
theorem fs_RX6_134 : zFS RX6 134 zLs 0 false := ⟨_, "TwoPens$Line", _, _, zi zm617, Or.inl rfl, by decide +kernel⟩
theorem fs_RX6_137 : zFS RX6 137 zLs 2 false := ⟨_, "TwoPens$Line", _, _, zi zm618, Or.inl rfl, by decide +kernel⟩
theorem cal_X6_valueAsked : zCal yX6_valueAsked 4 := by unfold zCal; decide +kernel
theorem fs_RX6_119 : zFS RX6 119 [16] 4 false := ⟨_, "TwoPens$School", _, _, zi zm203, Or.inl rfl, by decide +kernel⟩
theorem cal_X6_holds : zCal yX6_holds 4 := by unfold zCal; decide +kernel
theorem cal_X6_signOf : zCal yX6_signOf 3 := by unfold zCal; decide +kernel
theorem fs_RX2_105 : zFS RX2 105 zLs 1 false := ⟨_, "TwoPens$Line", _, _, zi zm600, Or.inl rfl, by decide +kernel⟩
theorem cal_X2_numberIf : zCal yX2_numberIf 3 := by unfold zCal; decide +kernel
theorem cal_X2_signIf : zCal yX2_signIf 3 := by unfold zCal; decide +kernel
theorem fs_RX2_116 : zFS RX2 116 [16] 2 false := ⟨_, "TwoPens$School", _, _, zi zm715, Or.inl rfl, by decide +kernel⟩
theorem cal_X2_placeAt : zCal yX2_placeAt 1 := by unfold zCal; decide +kernel
theorem cal_X2_placeCount : zCal yX2_placeCount 0 := by unfold zCal; decide +kernel
theorem cal_X2_writtenIf : zCal yX2_writtenIf 2 := by unfold zCal; decide +kernel
theorem cal_X2_unseenIf : zCal yX2_unseenIf 2 := by unfold zCal; decide +kernel
theorem fs_RX7_22 : zFS RX7 22 [17] 2 false := ⟨_, "TwoPens$Line", _, _, zi zm452, Or.inr (zi zm453), by decide +kernel⟩
theorem cal_X4_tells : zCal yX4_tells 2 := by unfold zCal; decide +kernel
theorem cal_J0_coder_7d493 : zCal yJ0_coder_7d493 0 := by unfold zCal; decide +kernel
theorem cal_J0_checkIndex_df160 : zCal yJ0_checkIndex_df160 2 := by unfold zCal; decide +kernel
theorem cal_J1_charAt_3b067 : zCal yJ1_charAt_3b067 2 := by unfold zCal; decide +kernel
theorem cal_J0_isLatin1_aae02 : zCal yJ0_isLatin1_aae02 0 := by unfold zCal; decide +kernel
theorem cal_X6_stuck : zCal yX6_stuck 1 := by unfold zCal; decide +kernel
theorem cal_X6_expect : zCal yX6_expect 3 := by unfold zCal; decide +kernel
theorem cal_J0_charAt_5068e : zCal yJ0_charAt_5068e 1 := by unfold zCal; decide +kernel
theorem cal_J0_length_8abf5 : zCal yJ0_length_8abf5 0 := by unfold zCal; decide +kernel
theorem cal_X6_isFigure : zCal yX6_isFigure 1 := by unfold zCal; decide +kernel
theorem fs_RX6_74 : zFS RX6 74 [16] 2 false := ⟨_, "TwoPens$School", _, _, zi zm120, Or.inl rfl, by decide +kernel⟩
theorem fp_RX6_74 : zFP RX6 74 [16] 2 false false .int := ⟨_, "TwoPens$School", _, _, zi zm120, Or.inl rfl, by decide +kernel, by decide +kernel, by decide +kernel, fun h => by cases h⟩
theorem cal_X6_valueOf : zCal yX6_valueOf 3 := by unfold zCal; decide +kernel
theorem cal_X6_digits : zCal yX6_digits 2 := by unfold zCal; decide +kernel
theorem cal_X6_words : zCal yX6_words 3 := by unfold zCal; decide +kernel
theorem fp_RX6_119 : zFP RX6 119 [16] 4 false false .int := ⟨_, "TwoPens$School", _, _, zi zm203, Or.inl rfl, by decide +kernel, by decide +kernel, by decide +kernel, fun h => by cases h⟩
theorem cal_X6_put : zCal yX6_put 1 := by unfold zCal; decide +kernel
theorem cal_X6_both : zCal yX6_both 3 := by unfold zCal; decide +kernel
theorem cal_X6_single : zCal yX6_single 3 := by unfold zCal; decide +kernel
theorem cal_J1_indexOfChar_4cfef : zCal yJ1_indexOfChar_4cfef 4 := by unfold zCal; decide +kernel
theorem cal_J1_canEncode_9a6ad : zCal yJ1_canEncode_9a6ad 1 := by unfold zCal; decide +kernel
theorem cal_J1_indexOf_4cfef : zCal yJ1_indexOf_4cfef 4 := by unfold zCal; decide +kernel
theorem cal_J0_indexOf_7cf53 : zCal yJ0_indexOf_7cf53 2 := by unfold zCal; decide +kernel
theorem cal_J0_indexOf_0f7a4 : zCal yJ0_indexOf_0f7a4 1 := by unfold zCal; decide +kernel
theorem cal_X6_placeIn : zCal yX6_placeIn 2 := by unfold zCal; decide +kernel
theorem cal_X6_either : zCal yX6_either 3 := by unfold zCal; decide +kernel
theorem cal_X6_test : zCal yX6_test 2 := by unfold zCal; decide +kernel
theorem cal_X6_setting : zCal yX6_setting 3 := by unfold zCal; decide +kernel
theorem cal_X6_sees : zCal yX6_sees 2 := by unfold zCal; decide +kernel
theorem cal_X6_clause : zCal yX6_clause 2 := by unfold zCal; decide +kernel
theorem fp_RX7_7 : zFP RX7 7 [17] 4 true true (.array .int) := ⟨_, "TwoPens$Told", _, _, zi zm398, Or.inl rfl, by decide +kernel, by decide +kernel, by decide +kernel, fun _ => rfl⟩
theorem cal_X3_init : zCal yX3_init 4 := by unfold zCal; decide +kernel
theorem fs_RX7_18 : zFS RX7 18 [17] 1 false := ⟨_, "TwoPens$Line", _, _, zi zm450, Or.inr (zi zm451), by decide +kernel⟩
theorem fs_RX7_25 : zFS RX7 25 [17] 3 false := ⟨_, "TwoPens$Line", _, _, zi zm454, Or.inr (zi zm455), by decide +kernel⟩
theorem cal_X7_init : zCal yX7_init 4 := by unfold zCal; decide +kernel
theorem fp_RX8_9 : zFP RX8 9 [18] 0 true true (.array .int) := ⟨_, "TwoPens$Trace", _, _, zi zm59, Or.inl rfl, by decide +kernel, by decide +kernel, by decide +kernel, fun _ => rfl⟩
theorem cal_X10_init : zCal yX10_init 4 := by unfold zCal; decide +kernel
theorem cal_X10_writes : zCal yX10_writes 2 := by unfold zCal; decide +kernel
theorem fs_RX11_12 : zFS RX11 12 [21] 0 true := ⟨_, "TwoPens", _, _, zi zm15, Or.inl rfl, by decide +kernel⟩
theorem fp_RX11_12 : zFP RX11 12 [21] 0 true true (.object "TwoPens$Desk") := ⟨_, "TwoPens", _, _, zi zm15, Or.inl rfl, by decide +kernel, by decide +kernel, by decide +kernel, fun _ => rfl⟩
theorem fs_RX11_18 : zFS RX11 18 [21] 1 true := ⟨_, "TwoPens", _, _, zi zm16, Or.inl rfl, by decide +kernel⟩
theorem fp_RX11_18 : zFP RX11 18 [21] 1 true true (.object "TwoPens$Desk") := ⟨_, "TwoPens", _, _, zi zm16, Or.inl rfl, by decide +kernel, by decide +kernel, by decide +kernel, fun _ => rfl⟩
theorem fs_RX11_24 : zFS RX11 24 [21] 3 true := ⟨_, "TwoPens", _, _, zi zm20, Or.inl rfl, by decide +kernel⟩
theorem fp_RX11_24 : zFP RX11 24 [21] 3 true true (.object "TwoPens$Trace") := ⟨_, "TwoPens", _, _, zi zm20, Or.inl rfl, by decide +kernel, by decide +kernel, by decide +kernel, fun _ => rfl⟩
theorem cal_X8_init : zCal yX8_init 0 := by unfold zCal; decide +kernel
theorem cal_X2_init : zCal yX2_init 0 := by unfold zCal; decide +kernel
theorem fs_RX11_28 : zFS RX11 28 [12] 4 true := ⟨_, "TwoPens$Desk", _, _, zi zm76, Or.inl rfl, by decide +kernel⟩
theorem fs_RX11_42 : zFS RX11 42 [12] 3 false := ⟨_, "TwoPens$Desk", _, _, zi zm97, Or.inl rfl, by decide +kernel⟩
theorem fs_RX11_56 : zFS RX11 56 [12] 2 true := ⟨_, "TwoPens$Desk", _, _, zi zm99, Or.inl rfl, by decide +kernel⟩
theorem fp_RX11_56 : zFP RX11 56 [12] 2 true false (.object "TwoPens$School") := ⟨_, "TwoPens$Desk", _, _, zi zm99, Or.inl rfl, by decide +kernel, by decide +kernel, by decide +kernel, fun h => by cases h⟩
theorem fp_RX11_42 : zFP RX11 42 [12] 3 false false .int := ⟨_, "TwoPens$Desk", _, _, zi zm97, Or.inl rfl, by decide +kernel, by decide +kernel, by decide +kernel, fun h => by cases h⟩
theorem cal_X6_read : zCal yX6_read 1 := by unfold zCal; decide +kernel
theorem cal_X9_init : zCal yX9_init 3 := by unfold zCal; decide +kernel
theorem cal_X1_init : zCal yX1_init 3 := by unfold zCal; decide +kernel
theorem cal_X2_addWay : zCal yX2_addWay 1 := by unfold zCal; decide +kernel
theorem cal_X11_made : zCal yX11_made 4 := by unfold zCal; decide +kernel
theorem cal_X2_wayCount : zCal yX2_wayCount 0 := by unfold zCal; decide +kernel
theorem cal_X11_isDigit : zCal yX11_isDigit 1 := by unfold zCal; decide +kernel
theorem fs_RX11_78 : zFS RX11 78 zLs 0 false := ⟨_, "TwoPens$Line", _, _, zi zm413, Or.inl rfl, by decide +kernel⟩
theorem fs_RX11_83 : zFS RX11 83 zLs 2 false := ⟨_, "TwoPens$Line", _, _, zi zm414, Or.inl rfl, by decide +kernel⟩
theorem fs_RX11_86 : zFS RX11 86 zLs 3 false := ⟨_, "TwoPens$Line", _, _, zi zm415, Or.inl rfl, by decide +kernel⟩
theorem fs_RX11_89 : zFS RX11 89 [12] 5 true := ⟨_, "TwoPens$Desk", _, _, zi zm416, Or.inl rfl, by decide +kernel⟩
theorem cal_X5_timesOf : zCal yX5_timesOf 1 := by unfold zCal; decide +kernel
theorem cal_X2_putWay : zCal yX2_putWay 2 := by unfold zCal; decide +kernel
theorem cal_X7_withRow : zCal yX7_withRow 2 := by unfold zCal; decide +kernel
theorem fs_RX11_112 : zFS RX11 112 [12] 6 false := ⟨_, "TwoPens$Desk", _, _, zi zm473, Or.inl rfl, by decide +kernel⟩
theorem fp_RX11_112 : zFP RX11 112 [12] 6 false false .int := ⟨_, "TwoPens$Desk", _, _, zi zm473, Or.inl rfl, by decide +kernel, by decide +kernel, by decide +kernel, fun h => by cases h⟩
theorem fs_RX11_119 : zFS RX11 119 [12] 7 false := ⟨_, "TwoPens$Desk", _, _, zi zm474, Or.inl rfl, by decide +kernel⟩
theorem fp_RX11_119 : zFP RX11 119 [12] 7 false false .int := ⟨_, "TwoPens$Desk", _, _, zi zm474, Or.inl rfl, by decide +kernel, by decide +kernel, by decide +kernel, fun h => by cases h⟩
theorem cal_X2_penceOf : zCal yX2_penceOf 2 := by unfold zCal; decide +kernel
theorem cal_X2_secondsOf : zCal yX2_secondsOf 2 := by unfold zCal; decide +kernel
theorem cal_X11_isLength : zCal yX11_isLength 1 := by unfold zCal; decide +kernel
theorem fs_RX11_125 : zFS RX11 125 [12] 9 true := ⟨_, "TwoPens$Desk", _, _, zi zm576, Or.inl rfl, by decide +kernel⟩
theorem cal_X2_signAt : zCal yX2_signAt 1 := by unfold zCal; decide +kernel
theorem cal_X11_isPart : zCal yX11_isPart 1 := by unfold zCal; decide +kernel
theorem cal_X5_hasPlace : zCal yX5_hasPlace 1 := by unfold zCal; decide +kernel
theorem fs_RX11_140 : zFS RX11 140 [16] 0 false := ⟨_, "TwoPens$School", _, _, zi zm640, Or.inl rfl, by decide +kernel⟩
theorem fs_RX11_143 : zFS RX11 143 [16] 1 false := ⟨_, "TwoPens$School", _, _, zi zm641, Or.inl rfl, by decide +kernel⟩
theorem fs_RX11_146 : zFS RX11 146 [16] 2 false := ⟨_, "TwoPens$School", _, _, zi zm642, Or.inl rfl, by decide +kernel⟩
theorem fs_RX11_155 : zFS RX11 155 [12] 8 true := ⟨_, "TwoPens$Desk", _, _, zi zm695, Or.inl rfl, by decide +kernel⟩
theorem cal_X11_isPlace : zCal yX11_isPlace 1 := by unfold zCal; decide +kernel
theorem cal_X11_common : zCal yX11_common 2 := by unfold zCal; decide +kernel
theorem cal_X11_lowest : zCal yX11_lowest 3 := by unfold zCal; decide +kernel
theorem cal_X11_hundreds : zCal yX11_hundreds 1 := by unfold zCal; decide +kernel
theorem cal_X2_unseenNow : zCal yX2_unseenNow 0 := by unfold zCal; decide +kernel
theorem cal_X11_isPence : zCal yX11_isPence 1 := by unfold zCal; decide +kernel
theorem cal_X11_bestChangeAt : zCal yX11_bestChangeAt 3 := by unfold zCal; decide +kernel
theorem cal_X11_withRests : zCal yX11_withRests 4 := by unfold zCal; decide +kernel
theorem cal_X11_nextWhere : zCal yX11_nextWhere 2 := by unfold zCal; decide +kernel
theorem cal_X11_couldBeBy : zCal yX11_couldBeBy 1 := by unfold zCal; decide +kernel
theorem fs_RX11_204 : zFS RX11 204 [12] 10 true := ⟨_, "TwoPens$Desk", _, _, zi zm891, Or.inl rfl, by decide +kernel⟩
theorem cal_X11_costOfStock : zCal yX11_costOfStock 3 := by unfold zCal; decide +kernel
theorem cal_X11_bestStock : zCal yX11_bestStock 2 := by unfold zCal; decide +kernel
theorem cal_X11_isCost : zCal yX11_isCost 1 := by unfold zCal; decide +kernel
theorem cal_X11_isEntry : zCal yX11_isEntry 1 := by unfold zCal; decide +kernel
theorem fs_RX11_222 : zFS RX11 222 [12] 11 true := ⟨_, "TwoPens$Desk", _, _, zi zm947, Or.inl rfl, by decide +kernel⟩
theorem fs_RX11_225 : zFS RX11 225 [12] 12 true := ⟨_, "TwoPens$Desk", _, _, zi zm948, Or.inl rfl, by decide +kernel⟩
theorem cal_X8_clear : zCal yX8_clear 0 := by unfold zCal; decide +kernel
theorem cal_X8_bodyAt : zCal yX8_bodyAt 1 := by unfold zCal; decide +kernel
theorem cal_X11_isUnder : zCal yX11_isUnder 2 := by unfold zCal; decide +kernel
theorem fs_RX11_250 : zFS RX11 250 [21] 2 false := ⟨_, "TwoPens", _, _, zi zm1117, Or.inl rfl, by decide +kernel⟩
theorem fp_RX11_250 : zFP RX11 250 [21] 2 false false .boolean := ⟨_, "TwoPens", _, _, zi zm1117, Or.inl rfl, by decide +kernel, by decide +kernel, by decide +kernel, fun h => by cases h⟩
theorem cal_X2_copyAll : zCal yX2_copyAll 1 := by unfold zCal; decide +kernel
theorem fs_RX11_254 : zFS RX11 254 [18] 1 false := ⟨_, "TwoPens$Trace", _, _, zi zm1148, Or.inl rfl, by decide +kernel⟩
theorem fs_RX12_9 : zFS RX12 9 [22] 1 true := ⟨_, "TwoPensModel", _, _, zi zm64, Or.inl rfl, by decide +kernel⟩
theorem fp_RX12_9 : zFP RX12 9 [22] 1 true true (.array .int) := ⟨_, "TwoPensModel", _, _, zi zm64, Or.inl rfl, by decide +kernel, by decide +kernel, by decide +kernel, fun _ => rfl⟩
theorem fs_RX12_15 : zFS RX12 15 [22] 2 true := ⟨_, "TwoPensModel", _, _, zi zm65, Or.inl rfl, by decide +kernel⟩
theorem fp_RX12_15 : zFP RX12 15 [22] 2 true true (.array .int) := ⟨_, "TwoPensModel", _, _, zi zm65, Or.inl rfl, by decide +kernel, by decide +kernel, by decide +kernel, fun _ => rfl⟩
theorem fs_RX12_18 : zFS RX12 18 [22] 9 true := ⟨_, "TwoPensModel", _, _, zi zm66, Or.inl rfl, by decide +kernel⟩
theorem fp_RX12_18 : zFP RX12 18 [22] 9 true true (.array .int) := ⟨_, "TwoPensModel", _, _, zi zm66, Or.inl rfl, by decide +kernel, by decide +kernel, by decide +kernel, fun _ => rfl⟩
theorem fs_RX12_21 : zFS RX12 21 [22] 10 true := ⟨_, "TwoPensModel", _, _, zi zm68, Or.inl rfl, by decide +kernel⟩
theorem fp_RX12_21 : zFP RX12 21 [22] 10 true true (.array .boolean) := ⟨_, "TwoPensModel", _, _, zi zm68, Or.inl rfl, by decide +kernel, by decide +kernel, by decide +kernel, fun _ => rfl⟩
theorem fs_RX12_25 : zFS RX12 25 [22] 11 true := ⟨_, "TwoPensModel", _, _, zi zm69, Or.inl rfl, by decide +kernel⟩
theorem fp_RX12_25 : zFP RX12 25 [22] 11 true true (.array .int) := ⟨_, "TwoPensModel", _, _, zi zm69, Or.inl rfl, by decide +kernel, by decide +kernel, by decide +kernel, fun _ => rfl⟩
theorem fs_RX12_28 : zFS RX12 28 [22] 17 true := ⟨_, "TwoPensModel", _, _, zi zm70, Or.inl rfl, by decide +kernel⟩
theorem fp_RX12_28 : zFP RX12 28 [22] 17 true true (.array .int) := ⟨_, "TwoPensModel", _, _, zi zm70, Or.inl rfl, by decide +kernel, by decide +kernel, by decide +kernel, fun _ => rfl⟩
theorem fs_RX12_31 : zFS RX12 31 [22] 19 true := ⟨_, "TwoPensModel", _, _, zi zm71, Or.inl rfl, by decide +kernel⟩
theorem fp_RX12_31 : zFP RX12 31 [22] 19 true true (.array .int) := ⟨_, "TwoPensModel", _, _, zi zm71, Or.inl rfl, by decide +kernel, by decide +kernel, by decide +kernel, fun _ => rfl⟩
theorem cal_X12_in : zCal yX12_in 3 := by unfold zCal; decide +kernel
theorem fs_RX12_42 : zFS RX12 42 [22] 5 false := ⟨_, "TwoPensModel", _, _, zi zm283, Or.inl rfl, by decide +kernel⟩
theorem fs_RX12_45 : zFS RX12 45 [22] 6 false := ⟨_, "TwoPensModel", _, _, zi zm282, Or.inl rfl, by decide +kernel⟩
theorem fs_RX12_48 : zFS RX12 48 [22] 7 false := ⟨_, "TwoPensModel", _, _, zi zm284, Or.inl rfl, by decide +kernel⟩
theorem fp_RX12_48 : zFP RX12 48 [22] 7 false false .boolean := ⟨_, "TwoPensModel", _, _, zi zm284, Or.inl rfl, by decide +kernel, by decide +kernel, by decide +kernel, fun h => by cases h⟩
theorem fp_RX12_42 : zFP RX12 42 [22] 5 false false .int := ⟨_, "TwoPensModel", _, _, zi zm283, Or.inl rfl, by decide +kernel, by decide +kernel, by decide +kernel, fun h => by cases h⟩
theorem cal_X12_here : zCal yX12_here 0 := by unfold zCal; decide +kernel
theorem cal_X12_must : zCal yX12_must 1 := by unfold zCal; decide +kernel
theorem fs_RX12_69 : zFS RX12 69 [22] 4 false := ⟨_, "TwoPensModel", _, _, zi zm281, Or.inl rfl, by decide +kernel⟩
theorem fs_RX12_72 : zFS RX12 72 [22] 8 false := ⟨_, "TwoPensModel", _, _, zi zm285, Or.inl rfl, by decide +kernel⟩
theorem fp_RX12_72 : zFP RX12 72 [22] 8 false false .int := ⟨_, "TwoPensModel", _, _, zi zm285, Or.inl rfl, by decide +kernel, by decide +kernel, by decide +kernel, fun h => by cases h⟩
theorem cal_X12_some : zCal yX12_some 0 := by unfold zCal; decide +kernel
theorem cal_X12_emits : zCal yX12_emits 1 := by unfold zCal; decide +kernel
theorem cal_X12_factor : zCal yX12_factor 0 := by unfold zCal; decide +kernel
theorem cal_X12_figures : zCal yX12_figures 0 := by unfold zCal; decide +kernel
theorem cal_X12_among : zCal yX12_among 1 := by unfold zCal; decide +kernel
theorem cal_X12_every : zCal yX12_every 0 := by unfold zCal; decide +kernel
theorem cal_X12_spells : zCal yX12_spells 1 := by unfold zCal; decide +kernel
theorem cal_X12_tellsHere : zCal yX12_tellsHere 2 := by unfold zCal; decide +kernel
theorem fp_RX12_69 : zFP RX12 69 [22] 4 false false .int := ⟨_, "TwoPensModel", _, _, zi zm281, Or.inl rfl, by decide +kernel, by decide +kernel, by decide +kernel, fun h => by cases h⟩
theorem fp_RX12_45 : zFP RX12 45 [22] 6 false false .int := ⟨_, "TwoPensModel", _, _, zi zm282, Or.inl rfl, by decide +kernel, by decide +kernel, by decide +kernel, fun h => by cases h⟩
theorem cal_X12_clauseHere : zCal yX12_clauseHere 0 := by unfold zCal; decide +kernel
theorem cal_X12_within : zCal yX12_within 3 := by unfold zCal; decide +kernel
theorem cal_X12_tellsOf : zCal yX12_tellsOf 2 := by unfold zCal; decide +kernel
theorem cal_X12_wayAt : zCal yX12_wayAt 1 := by unfold zCal; decide +kernel
theorem cal_X12_twins : zCal yX12_twins 2 := by unfold zCal; decide +kernel
theorem cal_X12_columns : zCal yX12_columns 2 := by unfold zCal; decide +kernel
theorem cal_X12_byHand : zCal yX12_byHand 2 := by unfold zCal; decide +kernel
theorem cal_X12_isWay : zCal yX12_isWay 1 := by unfold zCal; decide +kernel
theorem cal_X12_penceOf : zCal yX12_penceOf 2 := by unfold zCal; decide +kernel
theorem cal_X12_secondsOf : zCal yX12_secondsOf 2 := by unfold zCal; decide +kernel
theorem cal_X12_signAt : zCal yX12_signAt 1 := by unfold zCal; decide +kernel
theorem fs_RX12_151 : zFS RX12 151 [22] 12 false := ⟨_, "TwoPensModel", _, _, zi zm659, Or.inl rfl, by decide +kernel⟩
theorem fp_RX12_151 : zFP RX12 151 [22] 12 false false .int := ⟨_, "TwoPensModel", _, _, zi zm659, Or.inl rfl, by decide +kernel, by decide +kernel, by decide +kernel, fun h => by cases h⟩
theorem cal_X12_isPlace : zCal yX12_isPlace 1 := by unfold zCal; decide +kernel
theorem cal_X12_lookNow : zCal yX12_lookNow 0 := by unfold zCal; decide +kernel
theorem cal_X12_wantNow : zCal yX12_wantNow 0 := by unfold zCal; decide +kernel
theorem cal_X12_missing : zCal yX12_missing 0 := by unfold zCal; decide +kernel
theorem cal_X12_looksForPlaces : zCal yX12_looksForPlaces 0 := by unfold zCal; decide +kernel
theorem cal_X12_doesCount : zCal yX12_doesCount 0 := by unfold zCal; decide +kernel
theorem cal_X12_isShort : zCal yX12_isShort 0 := by unfold zCal; decide +kernel
theorem cal_X12_lowest : zCal yX12_lowest 3 := by unfold zCal; decide +kernel
theorem cal_X12_allWays : zCal yX12_allWays 0 := by unfold zCal; decide +kernel
theorem cal_X12_safeWays : zCal yX12_safeWays 0 := by unfold zCal; decide +kernel
theorem fs_RX12_193 : zFS RX12 193 [22] 13 false := ⟨_, "TwoPensModel", _, _, zi zm804, Or.inl rfl, by decide +kernel⟩
theorem fp_RX12_193 : zFP RX12 193 [22] 13 false false .int := ⟨_, "TwoPensModel", _, _, zi zm804, Or.inl rfl, by decide +kernel, by decide +kernel, by decide +kernel, fun h => by cases h⟩
theorem fs_RX12_196 : zFS RX12 196 [22] 14 false := ⟨_, "TwoPensModel", _, _, zi zm805, Or.inl rfl, by decide +kernel⟩
theorem fp_RX12_196 : zFP RX12 196 [22] 14 false false .int := ⟨_, "TwoPensModel", _, _, zi zm805, Or.inl rfl, by decide +kernel, by decide +kernel, by decide +kernel, fun h => by cases h⟩
theorem fs_RX12_199 : zFS RX12 199 [22] 15 false := ⟨_, "TwoPensModel", _, _, zi zm806, Or.inl rfl, by decide +kernel⟩
theorem fp_RX12_199 : zFP RX12 199 [22] 15 false false .int := ⟨_, "TwoPensModel", _, _, zi zm806, Or.inl rfl, by decide +kernel, by decide +kernel, by decide +kernel, fun h => by cases h⟩
theorem fs_RX12_202 : zFS RX12 202 [22] 16 false := ⟨_, "TwoPensModel", _, _, zi zm807, Or.inl rfl, by decide +kernel⟩
theorem fp_RX12_202 : zFP RX12 202 [22] 16 false false .int := ⟨_, "TwoPensModel", _, _, zi zm807, Or.inl rfl, by decide +kernel, by decide +kernel, by decide +kernel, fun h => by cases h⟩
theorem cal_X12_triesChange : zCal yX12_triesChange 5 := by unfold zCal; decide +kernel
theorem cal_X12_wouldShow : zCal yX12_wouldShow 2 := by unfold zCal; decide +kernel
theorem fs_RX12_214 : zFS RX12 214 [22] 18 false := ⟨_, "TwoPensModel", _, _, zi zm919, Or.inl rfl, by decide +kernel⟩
theorem fp_RX12_214 : zFP RX12 214 [22] 18 false false .int := ⟨_, "TwoPensModel", _, _, zi zm919, Or.inl rfl, by decide +kernel, by decide +kernel, by decide +kernel, fun h => by cases h⟩
theorem cal_X12_stockOf : zCal yX12_stockOf 2 := by unfold zCal; decide +kernel
theorem cal_X12_isPaid : zCal yX12_isPaid 1 := by unfold zCal; decide +kernel
theorem fs_RX12_223 : zFS RX12 223 [22] 20 false := ⟨_, "TwoPensModel", _, _, zi zm1050, Or.inl rfl, by decide +kernel⟩
theorem fp_RX12_223 : zFP RX12 223 [22] 20 false false .int := ⟨_, "TwoPensModel", _, _, zi zm1050, Or.inl rfl, by decide +kernel, by decide +kernel, by decide +kernel, fun h => by cases h⟩
theorem fs_RX12_229 : zFS RX12 229 [22] 22 false := ⟨_, "TwoPensModel", _, _, zi zm1052, Or.inl rfl, by decide +kernel⟩
theorem cal_X12_ranBody : zCal yX12_ranBody 1 := by unfold zCal; decide +kernel
theorem fs_RX12_232 : zFS RX12 232 [22] 21 false := ⟨_, "TwoPensModel", _, _, zi zm1051, Or.inl rfl, by decide +kernel⟩
theorem cal_X12_plainWrites : zCal yX12_plainWrites 1 := by unfold zCal; decide +kernel
theorem cal_X12_isUnder : zCal yX12_isUnder 2 := by unfold zCal; decide +kernel
theorem fs_RX12_244 : zFS RX12 244 [22] 23 false := ⟨_, "TwoPensModel", _, _, zi zm1053, Or.inl rfl, by decide +kernel⟩
theorem cal_X12_writesActs : zCal yX12_writesActs 1 := by unfold zCal; decide +kernel
theorem cal_X12_plainShows : zCal yX12_plainShows 1 := by unfold zCal; decide +kernel
theorem cal_X12_showsActs : zCal yX12_showsActs 1 := by unfold zCal; decide +kernel
theorem cal_X12_plainTells : zCal yX12_plainTells 1 := by unfold zCal; decide +kernel
theorem fp_RX12_232 : zFP RX12 232 [22] 21 false false .int := ⟨_, "TwoPensModel", _, _, zi zm1051, Or.inl rfl, by decide +kernel, by decide +kernel, by decide +kernel, fun h => by cases h⟩
theorem fp_RX12_229 : zFP RX12 229 [22] 22 false false .int := ⟨_, "TwoPensModel", _, _, zi zm1052, Or.inl rfl, by decide +kernel, by decide +kernel, by decide +kernel, fun h => by cases h⟩
theorem fp_RX12_244 : zFP RX12 244 [22] 23 false false .int := ⟨_, "TwoPensModel", _, _, zi zm1053, Or.inl rfl, by decide +kernel, by decide +kernel, by decide +kernel, fun h => by cases h⟩
theorem cal_X12_tellsActs : zCal yX12_tellsActs 1 := by unfold zCal; decide +kernel
theorem fs_RX12_259 : zFS RX12 259 [22] 3 false := ⟨_, "TwoPensModel", _, _, zi zm1135, Or.inl rfl, by decide +kernel⟩
theorem fp_RX12_259 : zFP RX12 259 [22] 3 false false .boolean := ⟨_, "TwoPensModel", _, _, zi zm1135, Or.inl rfl, by decide +kernel, by decide +kernel, by decide +kernel, fun h => by cases h⟩
