theorem q_mn_X6_init : q_Mn yX6_init cX6_init 1 (none) 0 := q_Mn.of (q_in.of 131 (by decide +kernel) (by decide +kernel)) (q_in.of 82 (by decide +kernel) (by decide +kernel)) ⟨by decide +kernel, by decide +kernel⟩ (by decide +kernel) (by decide)
theorem q_mi_X6_init : q_in (.instanceMethod yX6_init) := (q_in.of 130 (by decide +kernel) (by decide +kernel))
theorem q_mn_X5_init : q_Mn yX5_init cX5_init 1 (none) 0 := q_Mn.of (q_in.of 187 (by decide +kernel) (by decide +kernel)) (q_in.of 83 (by decide +kernel) (by decide +kernel)) ⟨by decide +kernel, by decide +kernel⟩ (by decide +kernel) (by decide)
theorem q_mi_X5_init : q_in (.instanceMethod yX5_init) := (q_in.of 186 (by decide +kernel) (by decide +kernel))
theorem q_mn_X7_init : q_Mn yX7_init cX7_init 1 (none) 0 := q_Mn.of (q_in.of 242 (by decide +kernel) (by decide +kernel)) (q_in.of 84 (by decide +kernel) (by decide +kernel)) ⟨by decide +kernel, by decide +kernel⟩ (by decide +kernel) (by decide)
theorem q_mi_X7_init : q_in (.instanceMethod yX7_init) := (q_in.of 241 (by decide +kernel) (by decide +kernel))
theorem q_ml_X2_25 : q_ML RX2 25 yX6_init := .inr ⟨"DreamPlots", (q_in.of 129 (by decide +kernel) (by decide +kernel))⟩
theorem q_ml_X2_32 : q_ML RX2 32 yX5_init := .inr ⟨"DreamPlots", (q_in.of 185 (by decide +kernel) (by decide +kernel))⟩
theorem q_mn_X2_init : q_Mn yX2_init cX2_init 2 (none) 0 := q_Mn.of (q_in.of 124 (by decide +kernel) (by decide +kernel)) (q_in.of 81 (by decide +kernel) (by decide +kernel)) ⟨by decide +kernel, by decide +kernel⟩ (by decide +kernel) (by decide)
theorem q_mi_X2_init : q_in (.instanceMethod yX2_init) := (q_in.of 123 (by decide +kernel) (by decide +kernel))
theorem q_ml_X8_11 : q_ML RX8 11 yX2_init := .inl (q_in.of 122 (by decide +kernel) (by decide +kernel))
theorem q_ml_X8_20 : q_ML RX8 20 yX7_init := .inr ⟨"DreamPlots", (q_in.of 240 (by decide +kernel) (by decide +kernel))⟩
theorem q_mn_X8_init : q_Mn yX8_init cX8_init 1 (none) 0 := q_Mn.of (q_in.of 118 (by decide +kernel) (by decide +kernel)) (q_in.of 80 (by decide +kernel) (by decide +kernel)) ⟨by decide +kernel, by decide +kernel⟩ (by decide +kernel) (by decide)
theorem q_mi_X8_init : q_in (.instanceMethod yX8_init) := (q_in.of 117 (by decide +kernel) (by decide +kernel))
theorem q_ml_X3_17 : q_ML RX3 17 yX2_init := .inl (q_in.of 280 (by decide +kernel) (by decide +kernel))
theorem dr_80 : q_isDream 80 := by unfold q_isDream q_isPlot q_isPegs; decide +kernel
theorem dr_105 : q_isDream 105 := by unfold q_isDream q_isPlot q_isPegs; decide +kernel
theorem dr_130 : q_isDream 130 := by unfold q_isDream q_isPlot q_isPegs; decide +kernel
theorem dr_155 : q_isDream 155 := by unfold q_isDream q_isPlot q_isPegs; decide +kernel
theorem dr_180 : q_isDream 180 := by unfold q_isDream q_isPlot q_isPegs; decide +kernel
theorem dr_205 : q_isDream 205 := by unfold q_isDream q_isPlot q_isPegs; decide +kernel
theorem dr_230 : q_isDream 230 := by unfold q_isDream q_isPlot q_isPegs; decide +kernel
theorem dr_255 : q_isDream 255 := by unfold q_isDream q_isPlot q_isPegs; decide +kernel
theorem q_mn_X3_init : q_Mn yX3_init cX3_init 2 (none) 0 := q_Mn.of (q_in.of 276 (by decide +kernel) (by decide +kernel)) (q_in.of 85 (by decide +kernel) (by decide +kernel)) ⟨by decide +kernel, by decide +kernel⟩ (by decide +kernel) (by decide)
theorem q_mi_X3_init : q_in (.instanceMethod yX3_init) := (q_in.of 275 (by decide +kernel) (by decide +kernel))
theorem q_mn_X0_init : q_Mn yX0_init cX0_init 1 (none) 0 := q_Mn.of (q_in.of 299 (by decide +kernel) (by decide +kernel)) (q_in.of 86 (by decide +kernel) (by decide +kernel)) ⟨by decide +kernel, by decide +kernel⟩ (by decide +kernel) (by decide)
theorem q_mi_X0_init : q_in (.instanceMethod yX0_init) := (q_in.of 298 (by decide +kernel) (by decide +kernel))
theorem q_mn_X1_init : q_Mn yX1_init cX1_init 1 (none) 0 := q_Mn.of (q_in.of 312 (by decide +kernel) (by decide +kernel)) (q_in.of 87 (by decide +kernel) (by decide +kernel)) ⟨by decide +kernel, by decide +kernel⟩ (by decide +kernel) (by decide)
theorem q_mi_X1_init : q_in (.instanceMethod yX1_init) := (q_in.of 311 (by decide +kernel) (by decide +kernel))
theorem q_mn_X4_init : q_Mn yX4_init cX4_init 1 (none) 0 := q_Mn.of (q_in.of 343 (by decide +kernel) (by decide +kernel)) (q_in.of 88 (by decide +kernel) (by decide +kernel)) ⟨by decide +kernel, by decide +kernel⟩ (by decide +kernel) (by decide)
theorem q_mi_X4_init : q_in (.instanceMethod yX4_init) := (q_in.of 342 (by decide +kernel) (by decide +kernel))
theorem q_ml_X9_11 : q_ML RX9 11 yX8_init := .inr ⟨"DreamPlots", (q_in.of 116 (by decide +kernel) (by decide +kernel))⟩
theorem q_ml_X9_32 : q_ML RX9 32 yX2_init := .inl (q_in.of 271 (by decide +kernel) (by decide +kernel))
theorem q_ml_X9_42 : q_ML RX9 42 yX3_init := .inl (q_in.of 274 (by decide +kernel) (by decide +kernel))
theorem q_ml_X9_49 : q_ML RX9 49 yX0_init := .inr ⟨"DreamPlots", (q_in.of 297 (by decide +kernel) (by decide +kernel))⟩
theorem q_ml_X9_64 : q_ML RX9 64 yX1_init := .inr ⟨"DreamPlots", (q_in.of 310 (by decide +kernel) (by decide +kernel))⟩
theorem q_ml_X9_74 : q_ML RX9 74 yX4_init := .inr ⟨"DreamPlots", (q_in.of 341 (by decide +kernel) (by decide +kernel))⟩
theorem q_mn_X9_init : q_Mn yX9_init cX9_init 1 (none) 0 := q_Mn.of (q_in.of 110 (by decide +kernel) (by decide +kernel)) (q_in.of 79 (by decide +kernel) (by decide +kernel)) ⟨by decide +kernel, by decide +kernel⟩ (by decide +kernel) (by decide)
theorem q_mi_X9_init : q_in (.instanceMethod yX9_init) := (q_in.of 109 (by decide +kernel) (by decide +kernel))
theorem q_mn_X10_init : q_Mn yX10_init cX10_init 1 (none) 0 := q_Mn.of (q_in.of 1309 (by decide +kernel) (by decide +kernel)) (q_in.of 89 (by decide +kernel) (by decide +kernel)) ⟨by decide +kernel, by decide +kernel⟩ (by decide +kernel) (by decide)
theorem q_mi_X10_init : q_in (.instanceMethod yX10_init) := (q_in.of 1308 (by decide +kernel) (by decide +kernel))
theorem q_oi : q_in (.instanceMethod Lib.objectInit) := (q_in.of 112 (by decide +kernel) (by decide +kernel))
theorem q_oc : q_in (.code Lib.objectInit ⟨#[0xb1]⟩ 1 none) := (q_in.of 113 (by decide +kernel) (by decide +kernel))
theorem q_ol_6_3 : q_in (.methodLink RX6 3 Lib.objectInit) := (q_in.of 132 (by decide +kernel) (by decide +kernel))
theorem q_fi_6_9 : q_in (.fieldLink RX6 9 RX6 (TX6 0).2.1 (TX6 0).2.2.1) := (q_in.of 133 (by decide +kernel) (by decide +kernel))
theorem q_fi_6_15 : q_in (.fieldLink RX6 15 RX6 (TX6 1).2.1 (TX6 1).2.2.1) := (q_in.of 137 (by decide +kernel) (by decide +kernel))
theorem q_fi_6_18 : q_in (.fieldLink RX6 18 RX6 (TX6 2).2.1 (TX6 2).2.2.1) := (q_in.of 142 (by decide +kernel) (by decide +kernel))
theorem q_fi_6_22 : q_in (.fieldLink RX6 22 RX6 (TX6 3).2.1 (TX6 3).2.2.1) := (q_in.of 146 (by decide +kernel) (by decide +kernel))
theorem q_fi_6_25 : q_in (.fieldLink RX6 25 RX6 (TX6 4).2.1 (TX6 4).2.2.1) := (q_in.of 150 (by decide +kernel) (by decide +kernel))
theorem q_fi_6_28 : q_in (.fieldLink RX6 28 RX6 (TX6 5).2.1 (TX6 5).2.2.1) := (q_in.of 153 (by decide +kernel) (by decide +kernel))
theorem q_fi_6_31 : q_in (.fieldLink RX6 31 RX6 (TX6 6).2.1 (TX6 6).2.2.1) := (q_in.of 156 (by decide +kernel) (by decide +kernel))
theorem q_ac_int : q_ig (.arrayClass .int) := (q_ig.of 182 (by decide +kernel) (by decide +kernel))
theorem q_fi_6_34 : q_in (.fieldLink RX6 34 RX6 (TX6 7).2.1 (TX6 7).2.2.1) := (q_in.of 161 (by decide +kernel) (by decide +kernel))
theorem q_fi_6_38 : q_in (.fieldLink RX6 38 RX6 (TX6 8).2.1 (TX6 8).2.2.1) := (q_in.of 162 (by decide +kernel) (by decide +kernel))
theorem q_ol_5_3 : q_in (.methodLink RX5 3 Lib.objectInit) := (q_in.of 188 (by decide +kernel) (by decide +kernel))
theorem q_fi_5_9 : q_in (.fieldLink RX5 9 RX5 (TX5 0).2.1 (TX5 0).2.2.1) := (q_in.of 189 (by decide +kernel) (by decide +kernel))
theorem q_fi_5_15 : q_in (.fieldLink RX5 15 RX5 (TX5 1).2.1 (TX5 1).2.2.1) := (q_in.of 192 (by decide +kernel) (by decide +kernel))
theorem q_fi_5_19 : q_in (.fieldLink RX5 19 RX5 (TX5 2).2.1 (TX5 2).2.2.1) := (q_in.of 194 (by decide +kernel) (by decide +kernel))
theorem q_fi_5_22 : q_in (.fieldLink RX5 22 RX5 (TX5 3).2.1 (TX5 3).2.2.1) := (q_in.of 196 (by decide +kernel) (by decide +kernel))
theorem q_ol_7_3 : q_in (.methodLink RX7 3 Lib.objectInit) := (q_in.of 243 (by decide +kernel) (by decide +kernel))
theorem q_fi_7_9 : q_in (.fieldLink RX7 9 RX7 (TX7 0).2.1 (TX7 0).2.2.1) := (q_in.of 244 (by decide +kernel) (by decide +kernel))
theorem q_fi_7_15 : q_in (.fieldLink RX7 15 RX7 (TX7 1).2.1 (TX7 1).2.2.1) := (q_in.of 246 (by decide +kernel) (by decide +kernel))
theorem q_fi_7_18 : q_in (.fieldLink RX7 18 RX7 (TX7 2).2.1 (TX7 2).2.2.1) := (q_in.of 248 (by decide +kernel) (by decide +kernel))
theorem q_fi_7_21 : q_in (.fieldLink RX7 21 RX7 (TX7 3).2.1 (TX7 3).2.2.1) := (q_in.of 250 (by decide +kernel) (by decide +kernel))
theorem q_ol_2_3 : q_in (.methodLink RX2 3 Lib.objectInit) := (q_in.of 125 (by decide +kernel) (by decide +kernel))
theorem q_fi_2_9 : q_in (.fieldLink RX2 9 RX2 (TX2 0).2.1 (TX2 0).2.2.1) := (q_in.of 207 (by decide +kernel) (by decide +kernel))
theorem q_fi_2_15 : q_in (.fieldLink RX2 15 RX2 (TX2 1).2.1 (TX2 1).2.2.1) := (q_in.of 210 (by decide +kernel) (by decide +kernel))
theorem q_cl_2_19 : q_in (.classLink RX2 19 RX6) := (q_in.of 126 (by decide +kernel) (by decide +kernel))
theorem q_fi_2_21 : q_in (.fieldLink RX2 21 RX2 (TX2 2).2.1 (TX2 2).2.2.1) := (q_in.of 212 (by decide +kernel) (by decide +kernel))
theorem q_ins_6 : q_in (.instantiable RX6 9) := (q_in.of 128 (by decide +kernel) (by decide +kernel))
theorem q_ini_6 : q_in (.initialized RX6) := (q_in.of 82 (by decide +kernel) (by decide +kernel))
theorem q_df6 : ∀ j, j < 9 → defaultValue (tyX6 j) = vp_V [.int 0, .int 0, .int 0, .int 0, .int 0, .int 0, .int 0, .null, .null] j := by decide
theorem q_fi_2_26 : q_in (.fieldLink RX2 26 RX2 (TX2 3).2.1 (TX2 3).2.2.1) := (q_in.of 213 (by decide +kernel) (by decide +kernel))
theorem q_cl_2_30 : q_in (.classLink RX2 30 RX5) := (q_in.of 183 (by decide +kernel) (by decide +kernel))
theorem q_ins_5 : q_in (.instantiable RX5 4) := (q_in.of 184 (by decide +kernel) (by decide +kernel))
theorem q_ini_5 : q_in (.initialized RX5) := (q_in.of 83 (by decide +kernel) (by decide +kernel))
theorem q_df5 : ∀ j, j < 4 → defaultValue (tyX5 j) = vp_V [.int 0, .null, .null, .null] j := by decide
theorem q_fi_2_33 : q_in (.fieldLink RX2 33 RX2 (TX2 4).2.1 (TX2 4).2.2.1) := (q_in.of 214 (by decide +kernel) (by decide +kernel))
theorem q_fi_2_37 : q_in (.fieldLink RX2 37 RX2 (TX2 5).2.1 (TX2 5).2.2.1) := (q_in.of 217 (by decide +kernel) (by decide +kernel))
theorem q_fi_2_40 : q_in (.fieldLink RX2 40 RX2 (TX2 6).2.1 (TX2 6).2.2.1) := (q_in.of 220 (by decide +kernel) (by decide +kernel))
theorem q_vi5_0 : vp_in 0 5 := by unfold vp_in; decide
theorem q_vi5_1 : vp_in 1 5 := by unfold vp_in; decide
theorem q_vi5_2 : vp_in 2 5 := by unfold vp_in; decide
theorem q_vi5_3 : vp_in 3 5 := by unfold vp_in; decide
theorem q_vi5_4 : vp_in 4 5 := by unfold vp_in; decide
theorem q_ol_8_3 : q_in (.methodLink RX8 3 Lib.objectInit) := (q_in.of 119 (by decide +kernel) (by decide +kernel))
theorem q_cl_8_9 : q_in (.classLink RX8 9 RX2) := (q_in.of 120 (by decide +kernel) (by decide +kernel))
theorem q_ins_2 : q_in (.instantiable RX2 7) := (q_in.of 121 (by decide +kernel) (by decide +kernel))
theorem q_ini_2 : q_in (.initialized RX2) := (q_in.of 81 (by decide +kernel) (by decide +kernel))
theorem q_df2 : ∀ j, j < 7 → defaultValue (tyX2 j) = vp_V [.int 0, .null, .null, .null, .null, .int 0, .int 0] j := by decide
theorem q_fi_8_12 : q_in (.fieldLink RX8 12 RX8 (TX8 0).2.1 (TX8 0).2.2.1) := (q_in.of 261 (by decide +kernel) (by decide +kernel))
theorem q_cl_8_18 : q_in (.classLink RX8 18 RX7) := (q_in.of 238 (by decide +kernel) (by decide +kernel))
theorem q_ins_7 : q_in (.instantiable RX7 4) := (q_in.of 239 (by decide +kernel) (by decide +kernel))
theorem q_ini_7 : q_in (.initialized RX7) := (q_in.of 84 (by decide +kernel) (by decide +kernel))
theorem q_df7 : ∀ j, j < 4 → defaultValue (tyX7 j) = vp_V [.int 0, .int 0, .int 0, .int 0] j := by decide
theorem q_fi_8_21 : q_in (.fieldLink RX8 21 RX8 (TX8 1).2.1 (TX8 1).2.2.1) := (q_in.of 263 (by decide +kernel) (by decide +kernel))
theorem q_ol_3_3 : q_in (.methodLink RX3 3 Lib.objectInit) := (q_in.of 277 (by decide +kernel) (by decide +kernel))
theorem q_cl_3_9 : q_in (.classLink RX3 9 RX2) := (q_in.of 278 (by decide +kernel) (by decide +kernel))
theorem q_fi_3_11 : q_in (.fieldLink RX3 11 RX3 (TX3 0).2.1 (TX3 0).2.2.1) := (q_in.of 281 (by decide +kernel) (by decide +kernel))
theorem q_fi_3_18 : q_in (.fieldLink RX3 18 RX3 (TX3 1).2.1 (TX3 1).2.2.1) := (q_in.of 282 (by decide +kernel) (by decide +kernel))
theorem q_fi_3_22 : q_in (.fieldLink RX3 22 RX3 (TX3 2).2.1 (TX3 2).2.2.1) := (q_in.of 283 (by decide +kernel) (by decide +kernel))
theorem q_fi_3_26 : q_in (.fieldLink RX3 26 RX3 (TX3 3).2.1 (TX3 3).2.2.1) := (q_in.of 284 (by decide +kernel) (by decide +kernel))
theorem q_vi8_0 : vp_in 0 8 := by unfold vp_in; decide
theorem q_vi8_1 : vp_in 1 8 := by unfold vp_in; decide
theorem q_vi8_2 : vp_in 2 8 := by unfold vp_in; decide
theorem q_vi8_3 : vp_in 3 8 := by unfold vp_in; decide
theorem q_vi8_4 : vp_in 4 8 := by unfold vp_in; decide
theorem q_vi8_5 : vp_in 5 8 := by unfold vp_in; decide
theorem q_vi8_6 : vp_in 6 8 := by unfold vp_in; decide
theorem q_vi8_7 : vp_in 7 8 := by unfold vp_in; decide
theorem q_ol_0_3 : q_in (.methodLink RX0 3 Lib.objectInit) := (q_in.of 300 (by decide +kernel) (by decide +kernel))
theorem q_fi_0_9 : q_in (.fieldLink RX0 9 RX0 (TX0 0).2.1 (TX0 0).2.2.1) := (q_in.of 301 (by decide +kernel) (by decide +kernel))
theorem q_fi_0_15 : q_in (.fieldLink RX0 15 RX0 (TX0 1).2.1 (TX0 1).2.2.1) := (q_in.of 302 (by decide +kernel) (by decide +kernel))
theorem q_ol_1_3 : q_in (.methodLink RX1 3 Lib.objectInit) := (q_in.of 313 (by decide +kernel) (by decide +kernel))
theorem q_fi_1_9 : q_in (.fieldLink RX1 9 RX1 (TX1 0).2.1 (TX1 0).2.2.1) := (q_in.of 314 (by decide +kernel) (by decide +kernel))
theorem q_fi_1_15 : q_in (.fieldLink RX1 15 RX1 (TX1 1).2.1 (TX1 1).2.2.1) := (q_in.of 316 (by decide +kernel) (by decide +kernel))
theorem q_fi_1_19 : q_in (.fieldLink RX1 19 RX1 (TX1 2).2.1 (TX1 2).2.2.1) := (q_in.of 318 (by decide +kernel) (by decide +kernel))
theorem q_fi_1_22 : q_in (.fieldLink RX1 22 RX1 (TX1 3).2.1 (TX1 3).2.2.1) := (q_in.of 320 (by decide +kernel) (by decide +kernel))
theorem q_fi_1_25 : q_in (.fieldLink RX1 25 RX1 (TX1 4).2.1 (TX1 4).2.2.1) := (q_in.of 322 (by decide +kernel) (by decide +kernel))
theorem q_fi_1_28 : q_in (.fieldLink RX1 28 RX1 (TX1 5).2.1 (TX1 5).2.2.1) := (q_in.of 324 (by decide +kernel) (by decide +kernel))
theorem q_ol_4_3 : q_in (.methodLink RX4 3 Lib.objectInit) := (q_in.of 344 (by decide +kernel) (by decide +kernel))
theorem q_ac_char : q_ig (.arrayClass .char) := (q_ig.of 338 (by decide +kernel) (by decide +kernel))
theorem q_fi_4_9 : q_in (.fieldLink RX4 9 RX4 (TX4 0).2.1 (TX4 0).2.2.1) := (q_in.of 345 (by decide +kernel) (by decide +kernel))
theorem q_fi_4_15 : q_in (.fieldLink RX4 15 RX4 (TX4 1).2.1 (TX4 1).2.2.1) := (q_in.of 347 (by decide +kernel) (by decide +kernel))
theorem q_ol_9_3 : q_in (.methodLink RX9 3 Lib.objectInit) := (q_in.of 111 (by decide +kernel) (by decide +kernel))
theorem q_cl_9_9 : q_in (.classLink RX9 9 RX8) := (q_in.of 114 (by decide +kernel) (by decide +kernel))
theorem q_ins_8 : q_in (.instantiable RX8 2) := (q_in.of 115 (by decide +kernel) (by decide +kernel))
theorem q_ini_8 : q_in (.initialized RX8) := (q_in.of 80 (by decide +kernel) (by decide +kernel))
theorem q_df8 : ∀ j, j < 2 → defaultValue (tyX8 j) = vp_V [.null, .null] j := by decide
theorem q_fi_9_12 : q_in (.fieldLink RX9 12 RX9 (TX9 0).2.1 (TX9 0).2.2.1) := (q_in.of 354 (by decide +kernel) (by decide +kernel))
theorem q_fi_9_20 : q_in (.fieldLink RX9 20 RX9 (TX9 1).2.1 (TX9 1).2.2.1) := (q_in.of 355 (by decide +kernel) (by decide +kernel))
theorem q_fi_9_27 : q_in (.fieldLink RX9 27 RX9 (TX9 2).2.1 (TX9 2).2.2.1) := (q_in.of 356 (by decide +kernel) (by decide +kernel))
theorem q_cl_9_30 : q_in (.classLink RX9 30 RX2) := (q_in.of 270 (by decide +kernel) (by decide +kernel))
theorem q_fi_9_33 : q_in (.fieldLink RX9 33 RX9 (TX9 3).2.1 (TX9 3).2.2.1) := (q_in.of 357 (by decide +kernel) (by decide +kernel))
theorem q_fi_9_36 : q_in (.fieldLink RX9 36 RX9 (TX9 4).2.1 (TX9 4).2.2.1) := (q_in.of 358 (by decide +kernel) (by decide +kernel))
theorem q_cl_9_40 : q_in (.classLink RX9 40 RX3) := (q_in.of 272 (by decide +kernel) (by decide +kernel))
theorem q_ins_3 : q_in (.instantiable RX3 4) := (q_in.of 273 (by decide +kernel) (by decide +kernel))
theorem q_ini_3 : q_in (.initialized RX3) := (q_in.of 85 (by decide +kernel) (by decide +kernel))
theorem q_df3 : ∀ j, j < 4 → defaultValue (tyX3 j) = vp_V [.null, .null, .int 0, .int 0] j := by decide
theorem q_fi_9_43 : q_in (.fieldLink RX9 43 RX9 (TX9 5).2.1 (TX9 5).2.2.1) := (q_in.of 359 (by decide +kernel) (by decide +kernel))
theorem q_cl_9_47 : q_in (.classLink RX9 47 RX0) := (q_in.of 295 (by decide +kernel) (by decide +kernel))
theorem q_ins_0 : q_in (.instantiable RX0 2) := (q_in.of 296 (by decide +kernel) (by decide +kernel))
theorem q_ini_0 : q_in (.initialized RX0) := (q_in.of 86 (by decide +kernel) (by decide +kernel))
theorem q_df0 : ∀ j, j < 2 → defaultValue (tyX0 j) = vp_V [.null, .null] j := by decide
theorem q_fi_9_50 : q_in (.fieldLink RX9 50 RX9 (TX9 6).2.1 (TX9 6).2.2.1) := (q_in.of 360 (by decide +kernel) (by decide +kernel))
theorem q_fi_9_54 : q_in (.fieldLink RX9 54 RX9 (TX9 7).2.1 (TX9 7).2.2.1) := (q_in.of 361 (by decide +kernel) (by decide +kernel))
theorem q_fi_9_58 : q_in (.fieldLink RX9 58 RX9 (TX9 8).2.1 (TX9 8).2.2.1) := (q_in.of 362 (by decide +kernel) (by decide +kernel))
theorem q_cl_9_62 : q_in (.classLink RX9 62 RX1) := (q_in.of 308 (by decide +kernel) (by decide +kernel))
theorem q_ins_1 : q_in (.instantiable RX1 6) := (q_in.of 309 (by decide +kernel) (by decide +kernel))
theorem q_ini_1 : q_in (.initialized RX1) := (q_in.of 87 (by decide +kernel) (by decide +kernel))
theorem q_df1 : ∀ j, j < 6 → defaultValue (tyX1 j) = vp_V [.int 0, .null, .null, .null, .null, .null] j := by decide
theorem q_fi_9_65 : q_in (.fieldLink RX9 65 RX9 (TX9 9).2.1 (TX9 9).2.2.1) := (q_in.of 363 (by decide +kernel) (by decide +kernel))
theorem q_fi_9_69 : q_in (.fieldLink RX9 69 RX9 (TX9 10).2.1 (TX9 10).2.2.1) := (q_in.of 364 (by decide +kernel) (by decide +kernel))
theorem q_cl_9_72 : q_in (.classLink RX9 72 RX4) := (q_in.of 339 (by decide +kernel) (by decide +kernel))
theorem q_ins_4 : q_in (.instantiable RX4 2) := (q_in.of 340 (by decide +kernel) (by decide +kernel))
theorem q_ini_4 : q_in (.initialized RX4) := (q_in.of 88 (by decide +kernel) (by decide +kernel))
theorem q_df4 : ∀ j, j < 2 → defaultValue (tyX4 j) = vp_V [.null, .int 0] j := by decide
theorem q_fi_9_75 : q_in (.fieldLink RX9 75 RX9 (TX9 11).2.1 (TX9 11).2.2.1) := (q_in.of 365 (by decide +kernel) (by decide +kernel))
theorem q_ol_10_1 : q_in (.methodLink RX10 1 Lib.objectInit) := (q_in.of 1310 (by decide +kernel) (by decide +kernel))
theorem q_fi_10_7 : q_in (.fieldLink RX10 7 RX10 (TX10 0).2.1 (TX10 0).2.2.1) := (q_in.of 1311 (by decide +kernel) (by decide +kernel))
theorem q_fi_10_13 : q_in (.fieldLink RX10 13 RX10 (TX10 1).2.1 (TX10 1).2.2.1) := (q_in.of 1312 (by decide +kernel) (by decide +kernel))
theorem q_fi_10_16 : q_in (.fieldLink RX10 16 RX10 (TX10 2).2.1 (TX10 2).2.2.1) := (q_in.of 1313 (by decide +kernel) (by decide +kernel))
theorem q_fi_10_19 : q_in (.fieldLink RX10 19 RX10 (TX10 3).2.1 (TX10 3).2.2.1) := (q_in.of 1314 (by decide +kernel) (by decide +kernel))
theorem q_fi_10_22 : q_in (.fieldLink RX10 22 RX10 (TX10 4).2.1 (TX10 4).2.2.1) := (q_in.of 1315 (by decide +kernel) (by decide +kernel))
theorem q_fi_10_26 : q_in (.fieldLink RX10 26 RX10 (TX10 5).2.1 (TX10 5).2.2.1) := (q_in.of 1316 (by decide +kernel) (by decide +kernel))
theorem q_fi_10_29 : q_in (.fieldLink RX10 29 RX10 (TX10 6).2.1 (TX10 6).2.2.1) := (q_in.of 1317 (by decide +kernel) (by decide +kernel))
theorem q_fi_10_32 : q_in (.fieldLink RX10 32 RX10 (TX10 7).2.1 (TX10 7).2.2.1) := (q_in.of 1318 (by decide +kernel) (by decide +kernel))
theorem q_fi_10_35 : q_in (.fieldLink RX10 35 RX10 (TX10 8).2.1 (TX10 8).2.2.1) := (q_in.of 1319 (by decide +kernel) (by decide +kernel))
theorem q_fi_10_38 : q_in (.fieldLink RX10 38 RX10 (TX10 9).2.1 (TX10 9).2.2.1) := (q_in.of 1320 (by decide +kernel) (by decide +kernel))
theorem q_fi_10_41 : q_in (.fieldLink RX10 41 RX10 (TX10 10).2.1 (TX10 10).2.2.1) := (q_in.of 1321 (by decide +kernel) (by decide +kernel))
theorem q_fi_10_44 : q_in (.fieldLink RX10 44 RX10 (TX10 11).2.1 (TX10 11).2.2.1) := (q_in.of 1322 (by decide +kernel) (by decide +kernel))
theorem q_fi_10_47 : q_in (.fieldLink RX10 47 RX10 (TX10 12).2.1 (TX10 12).2.2.1) := (q_in.of 1323 (by decide +kernel) (by decide +kernel))
theorem q_fi_10_50 : q_in (.fieldLink RX10 50 RX10 (TX10 13).2.1 (TX10 13).2.2.1) := (q_in.of 1324 (by decide +kernel) (by decide +kernel))
theorem q_fi_10_54 : q_in (.fieldLink RX10 54 RX10 (TX10 14).2.1 (TX10 14).2.2.1) := (q_in.of 1325 (by decide +kernel) (by decide +kernel))
theorem q_fi_10_57 : q_in (.fieldLink RX10 57 RX10 (TX10 15).2.1 (TX10 15).2.2.1) := (q_in.of 1326 (by decide +kernel) (by decide +kernel))
theorem q_ac_boolean : q_ig (.arrayClass .boolean) := (q_ig.of 1402 (by decide +kernel) (by decide +kernel))
theorem q_fi_10_60 : q_in (.fieldLink RX10 60 RX10 (TX10 16).2.1 (TX10 16).2.2.1) := (q_in.of 1327 (by decide +kernel) (by decide +kernel))
theorem q_fi_10_64 : q_in (.fieldLink RX10 64 RX10 (TX10 17).2.1 (TX10 17).2.2.1) := (q_in.of 1328 (by decide +kernel) (by decide +kernel))
theorem q_fi_10_67 : q_in (.fieldLink RX10 67 RX10 (TX10 18).2.1 (TX10 18).2.2.1) := (q_in.of 1329 (by decide +kernel) (by decide +kernel))
theorem q_fi_10_70 : q_in (.fieldLink RX10 70 RX10 (TX10 19).2.1 (TX10 19).2.2.1) := (q_in.of 1330 (by decide +kernel) (by decide +kernel))
theorem q_fi_10_73 : q_in (.fieldLink RX10 73 RX10 (TX10 20).2.1 (TX10 20).2.2.1) := (q_in.of 1331 (by decide +kernel) (by decide +kernel))
theorem q_fi_10_76 : q_in (.fieldLink RX10 76 RX10 (TX10 21).2.1 (TX10 21).2.2.1) := (q_in.of 1332 (by decide +kernel) (by decide +kernel))
theorem q_fi_10_79 : q_in (.fieldLink RX10 79 RX10 (TX10 22).2.1 (TX10 22).2.2.1) := (q_in.of 1333 (by decide +kernel) (by decide +kernel))
theorem q_fi_10_82 : q_in (.fieldLink RX10 82 RX10 (TX10 23).2.1 (TX10 23).2.2.1) := (q_in.of 1334 (by decide +kernel) (by decide +kernel))
theorem q_fi_10_85 : q_in (.fieldLink RX10 85 RX10 (TX10 24).2.1 (TX10 24).2.2.1) := (q_in.of 1335 (by decide +kernel) (by decide +kernel))
theorem q_fi_10_88 : q_in (.fieldLink RX10 88 RX10 (TX10 25).2.1 (TX10 25).2.2.1) := (q_in.of 1336 (by decide +kernel) (by decide +kernel))
theorem q_fi_10_91 : q_in (.fieldLink RX10 91 RX10 (TX10 26).2.1 (TX10 26).2.2.1) := (q_in.of 1337 (by decide +kernel) (by decide +kernel))
theorem q_fi_10_94 : q_in (.fieldLink RX10 94 RX10 (TX10 27).2.1 (TX10 27).2.2.1) := (q_in.of 1338 (by decide +kernel) (by decide +kernel))
theorem q_fi_10_97 : q_in (.fieldLink RX10 97 RX10 (TX10 28).2.1 (TX10 28).2.2.1) := (q_in.of 1339 (by decide +kernel) (by decide +kernel))
theorem q_fi_10_100 : q_in (.fieldLink RX10 100 RX10 (TX10 29).2.1 (TX10 29).2.2.1) := (q_in.of 1340 (by decide +kernel) (by decide +kernel))
set_option maxHeartbeats 8000000 in
set_option maxRecDepth 100000 in
theorem c_X6_init (l : Launch) (G : q_G) (x : q_A) (z0 : Nat) (hz0 : q_isPlot z0) : q_MetC l yX6_init cX6_init 1 1 2 32 G x z0 3 (.inr (6, [.int 0, .int 0, .int 0, .int 0, .int 0, .int 0, .int 0, .null, .null])) := by
  refine q_ofC (by decide) rfl (Nat.le_of_ble_eq_true rfl) (fun X hl0 hx hr => ?_)
  subst hl0
  have hx : q_Cc X G RX6 cX6_init 1 1 2 32 z0 := hx
  refine q_Wc.to (e2 := q_ko G x z0 6 [.int 0, .int 0, .int 0, .int 0, .int 0, .int 0, .int 0, .null, .null]) (fun c _ h => rfl) ?_
  refine qk_aload_n hx dX6_init_0 0 rfl ?_
  refine qk_obj hx (by decide) q_ol_6_3 q_oi q_oc (Nat.le_of_ble_eq_true rfl) dX6_init_1 ?_
  refine qk_aload_n hx dX6_init_4 0 rfl ?_
  refine qk_iconst (v := 0) hx dX6_init_5 (by decide) ?_
  refine qk_put (ty := tyX6 0) (e2 := q_ko G x z0 6 [.int 0, .int 0, .int 0, .int 0, .int 0, .int 0, .int 0, .null, .null]) hx rfl q_lay6 tyX6_ok nmX6 (by decide) q_fi_6_9 rfl rfl (by decide) (tyX6_ok 0 (by decide)) rfl rfl (Nat.le_of_ble_eq_true rfl) (by omega) (by omega) q_ko_at dX6_init_6 q_ko_at (fun c2 h => (q_ko_ne h).trans (q_ko_ne h).symm) ?_
  refine qk_aload_n hx dX6_init_9 0 rfl ?_
  refine qk_iconst (v := 0) hx dX6_init_10 (by decide) ?_
  refine qk_put (ty := tyX6 1) (e2 := q_ko G x z0 6 [.int 0, .int 0, .int 0, .int 0, .int 0, .int 0, .int 0, .null, .null]) hx rfl q_lay6 tyX6_ok nmX6 (by decide) q_fi_6_15 rfl rfl (by decide) (tyX6_ok 1 (by decide)) rfl rfl (Nat.le_of_ble_eq_true rfl) (by omega) (by omega) q_ko_at dX6_init_11 q_ko_at (fun c2 h => (q_ko_ne h).trans (q_ko_ne h).symm) ?_
  refine qk_aload_n hx dX6_init_14 0 rfl ?_
  refine qk_iconst (v := 0) hx dX6_init_15 (by decide) ?_
  refine qk_put (ty := tyX6 2) (e2 := q_ko G x z0 6 [.int 0, .int 0, .int 0, .int 0, .int 0, .int 0, .int 0, .null, .null]) hx rfl q_lay6 tyX6_ok nmX6 (by decide) q_fi_6_18 rfl rfl (by decide) (tyX6_ok 2 (by decide)) rfl rfl (Nat.le_of_ble_eq_true rfl) (by omega) (by omega) q_ko_at dX6_init_16 q_ko_at (fun c2 h => (q_ko_ne h).trans (q_ko_ne h).symm) ?_
  refine qk_aload_n hx dX6_init_19 0 rfl ?_
  refine qk_iconst (v := 0) hx dX6_init_20 (by decide) ?_
  refine qk_put (ty := tyX6 3) (e2 := q_ko G x z0 6 [.int 0, .int 0, .int 0, .int 0, .int 0, .int 0, .int 0, .null, .null]) hx rfl q_lay6 tyX6_ok nmX6 (by decide) q_fi_6_22 rfl rfl (by decide) (tyX6_ok 3 (by decide)) rfl rfl (Nat.le_of_ble_eq_true rfl) (by omega) (by omega) q_ko_at dX6_init_21 q_ko_at (fun c2 h => (q_ko_ne h).trans (q_ko_ne h).symm) ?_
  refine qk_aload_n hx dX6_init_24 0 rfl ?_
  refine qk_iconst (v := 0) hx dX6_init_25 (by decide) ?_
  refine qk_put (ty := tyX6 4) (e2 := q_ko G x z0 6 [.int 0, .int 0, .int 0, .int 0, .int 0, .int 0, .int 0, .null, .null]) hx rfl q_lay6 tyX6_ok nmX6 (by decide) q_fi_6_25 rfl rfl (by decide) (tyX6_ok 4 (by decide)) rfl rfl (Nat.le_of_ble_eq_true rfl) (by omega) (by omega) q_ko_at dX6_init_26 q_ko_at (fun c2 h => (q_ko_ne h).trans (q_ko_ne h).symm) ?_
  refine qk_aload_n hx dX6_init_29 0 rfl ?_
  refine qk_iconst (v := 0) hx dX6_init_30 (by decide) ?_
  refine qk_put (ty := tyX6 5) (e2 := q_ko G x z0 6 [.int 0, .int 0, .int 0, .int 0, .int 0, .int 0, .int 0, .null, .null]) hx rfl q_lay6 tyX6_ok nmX6 (by decide) q_fi_6_28 rfl rfl (by decide) (tyX6_ok 5 (by decide)) rfl rfl (Nat.le_of_ble_eq_true rfl) (by omega) (by omega) q_ko_at dX6_init_31 q_ko_at (fun c2 h => (q_ko_ne h).trans (q_ko_ne h).symm) ?_
  refine qk_aload_n hx dX6_init_34 0 rfl ?_
  refine qk_iconst (v := 0) hx dX6_init_35 (by decide) ?_
  refine qk_put (ty := tyX6 6) (e2 := q_ko G x z0 6 [.int 0, .int 0, .int 0, .int 0, .int 0, .int 0, .int 0, .null, .null]) hx rfl q_lay6 tyX6_ok nmX6 (by decide) q_fi_6_31 rfl rfl (by decide) (tyX6_ok 6 (by decide)) rfl rfl (Nat.le_of_ble_eq_true rfl) (by omega) (by omega) q_ko_at dX6_init_36 q_ko_at (fun c2 h => (q_ko_ne h).trans (q_ko_ne h).symm) ?_
  refine qk_aload_n hx dX6_init_39 0 rfl ?_
  refine qk_bipush (v := 16) hx dX6_init_40 (by decide) ?_
  refine qk_na (t := 0) (N := 16) (ty := .int) (r := q_s0 (z0 + 1)) hx rfl q_ac_int rfl (fun _ _ => rfl) rfl (by decide) (by decide) (Nat.le_of_ble_eq_true rfl) (Nat.le_of_ble_eq_true rfl) (Nat.le_of_ble_eq_true rfl) dX6_init_42 (by omega) ((q_ko_ne (by omega)).trans (q_ea0 hz0.2.1 (by decide))) (q_s0_k hz0.2.1 (by decide)) ?_
  refine qk_put (ty := tyX6 7) (e2 := q_ko G x z0 6 [.int 0, .int 0, .int 0, .int 0, .int 0, .int 0, .int 0, .ref (G.2.1 + (z0 + 1)), .null]) hx rfl q_lay6 tyX6_ok nmX6 (by decide) q_fi_6_34 rfl rfl (by decide) (tyX6_ok 7 (by decide)) rfl rfl (Nat.le_of_ble_eq_true rfl) (by omega) (by omega) q_ko_at dX6_init_44 q_ko_at (fun c2 h => (q_ko_ne h).trans (q_ko_ne h).symm) ?_
  refine qk_aload_n hx dX6_init_47 0 rfl ?_
  refine qk_bipush (v := 16) hx dX6_init_48 (by decide) ?_
  refine qk_na (t := 0) (N := 16) (ty := .int) (r := q_s0 (z0 + 2)) hx rfl q_ac_int rfl (fun _ _ => rfl) rfl (by decide) (by decide) (Nat.le_of_ble_eq_true rfl) (Nat.le_of_ble_eq_true rfl) (Nat.le_of_ble_eq_true rfl) dX6_init_50 (by omega) ((q_ko_ne (by omega)).trans (q_ea0 hz0.2.2 (by decide))) (q_s0_k hz0.2.2 (by decide)) ?_
  refine qk_put (ty := tyX6 8) (e2 := q_ko G x z0 6 [.int 0, .int 0, .int 0, .int 0, .int 0, .int 0, .int 0, .ref (G.2.1 + (z0 + 1)), .ref (G.2.1 + (z0 + 2))]) hx rfl q_lay6 tyX6_ok nmX6 (by decide) q_fi_6_38 rfl rfl (by decide) (tyX6_ok 8 (by decide)) rfl rfl (Nat.le_of_ble_eq_true rfl) (by omega) (by omega) q_ko_at dX6_init_52 q_ko_at (fun c2 h => (q_ko_ne h).trans (q_ko_ne h).symm) ?_
  refine qk_ret hx hr (Nat.le_refl _) (Nat.le_refl _) dX6_init_55 (by omega) (fun c h1 h2 => q_ko_fin ?_ c)
  show Sum.inr _ = q_ent G (q_s0 z0) x z0
  rw [q_e6 hz0.1, q_s0_f hz0.1 (by decide)]
  rfl
set_option maxHeartbeats 8000000 in
set_option maxRecDepth 100000 in
theorem c_X5_init (l : Launch) (G : q_G) (x : q_A) (z0 : Nat) (hz0 : q_isPegs z0) : q_MetC l yX5_init cX5_init 1 1 3 24 G x z0 4 (.inr (5, [.int 0, .null, .null, .null])) := by
  refine q_ofC (by decide) rfl (Nat.le_of_ble_eq_true rfl) (fun X hl0 hx hr => ?_)
  subst hl0
  have hx : q_Cc X G RX5 cX5_init 1 1 3 24 z0 := hx
  refine q_Wc.to (e2 := q_ko G x z0 5 [.int 0, .null, .null, .null]) (fun c _ h => rfl) ?_
  refine qk_aload_n hx dX5_init_0 0 rfl ?_
  refine qk_obj hx (by decide) q_ol_5_3 q_oi q_oc (Nat.le_of_ble_eq_true rfl) dX5_init_1 ?_
  refine qk_aload_n hx dX5_init_4 0 rfl ?_
  refine qk_iconst (v := 0) hx dX5_init_5 (by decide) ?_
  refine qk_put (ty := tyX5 0) (e2 := q_ko G x z0 5 [.int 0, .null, .null, .null]) hx rfl q_lay5 tyX5_ok nmX5 (by decide) q_fi_5_9 rfl rfl (by decide) (tyX5_ok 0 (by decide)) rfl rfl (Nat.le_of_ble_eq_true rfl) (by omega) (by omega) q_ko_at dX5_init_6 q_ko_at (fun c2 h => (q_ko_ne h).trans (q_ko_ne h).symm) ?_
  refine qk_aload_n hx dX5_init_9 0 rfl ?_
  refine qk_bipush (v := 8) hx dX5_init_10 (by decide) ?_
  refine qk_na (t := 0) (N := 8) (ty := .int) (r := q_s0 (z0 + 1)) hx rfl q_ac_int rfl (fun _ _ => rfl) rfl (by decide) (by decide) (Nat.le_of_ble_eq_true rfl) (Nat.le_of_ble_eq_true rfl) (Nat.le_of_ble_eq_true rfl) dX5_init_12 (by omega) ((q_ko_ne (by omega)).trans (q_ea0 hz0.2.1 (by decide))) (q_s0_k hz0.2.1 (by decide)) ?_
  refine qk_put (ty := tyX5 1) (e2 := q_ko G x z0 5 [.int 0, .ref (G.2.1 + (z0 + 1)), .null, .null]) hx rfl q_lay5 tyX5_ok nmX5 (by decide) q_fi_5_15 rfl rfl (by decide) (tyX5_ok 1 (by decide)) rfl rfl (Nat.le_of_ble_eq_true rfl) (by omega) (by omega) q_ko_at dX5_init_14 q_ko_at (fun c2 h => (q_ko_ne h).trans (q_ko_ne h).symm) ?_
  refine qk_aload_n hx dX5_init_17 0 rfl ?_
  refine qk_bipush (v := 8) hx dX5_init_18 (by decide) ?_
  refine qk_na (t := 0) (N := 8) (ty := .int) (r := q_s0 (z0 + 2)) hx rfl q_ac_int rfl (fun _ _ => rfl) rfl (by decide) (by decide) (Nat.le_of_ble_eq_true rfl) (Nat.le_of_ble_eq_true rfl) (Nat.le_of_ble_eq_true rfl) dX5_init_20 (by omega) ((q_ko_ne (by omega)).trans (q_ea0 hz0.2.2.1 (by decide))) (q_s0_k hz0.2.2.1 (by decide)) ?_
  refine qk_put (ty := tyX5 2) (e2 := q_ko G x z0 5 [.int 0, .ref (G.2.1 + (z0 + 1)), .ref (G.2.1 + (z0 + 2)), .null]) hx rfl q_lay5 tyX5_ok nmX5 (by decide) q_fi_5_19 rfl rfl (by decide) (tyX5_ok 2 (by decide)) rfl rfl (Nat.le_of_ble_eq_true rfl) (by omega) (by omega) q_ko_at dX5_init_22 q_ko_at (fun c2 h => (q_ko_ne h).trans (q_ko_ne h).symm) ?_
  refine qk_aload_n hx dX5_init_25 0 rfl ?_
  refine qk_bipush (v := 8) hx dX5_init_26 (by decide) ?_
  refine qk_na (t := 0) (N := 8) (ty := .int) (r := q_s0 (z0 + 3)) hx rfl q_ac_int rfl (fun _ _ => rfl) rfl (by decide) (by decide) (Nat.le_of_ble_eq_true rfl) (Nat.le_of_ble_eq_true rfl) (Nat.le_of_ble_eq_true rfl) dX5_init_28 (by omega) ((q_ko_ne (by omega)).trans (q_ea0 hz0.2.2.2 (by decide))) (q_s0_k hz0.2.2.2 (by decide)) ?_
  refine qk_put (ty := tyX5 3) (e2 := q_ko G x z0 5 [.int 0, .ref (G.2.1 + (z0 + 1)), .ref (G.2.1 + (z0 + 2)), .ref (G.2.1 + (z0 + 3))]) hx rfl q_lay5 tyX5_ok nmX5 (by decide) q_fi_5_22 rfl rfl (by decide) (tyX5_ok 3 (by decide)) rfl rfl (Nat.le_of_ble_eq_true rfl) (by omega) (by omega) q_ko_at dX5_init_30 q_ko_at (fun c2 h => (q_ko_ne h).trans (q_ko_ne h).symm) ?_
  refine qk_ret hx hr (Nat.le_refl _) (Nat.le_refl _) dX5_init_33 (by omega) (fun c h1 h2 => q_ko_fin ?_ c)
  show Sum.inr _ = q_ent G (q_s0 z0) x z0
  rw [q_e5 hz0.1, q_s0_f hz0.1 (by decide)]
  rfl
set_option maxHeartbeats 8000000 in
set_option maxRecDepth 100000 in
theorem c_X7_init (l : Launch) (G : q_G) (x : q_A) : q_MetC l yX7_init cX7_init 1 1 0 0 G x 27 1 (.inr (7, [.int 0, .int 0, .int 0, .int 0])) := by
  refine q_ofC (by decide) rfl (Nat.le_of_ble_eq_true rfl) (fun X hl0 hx hr => ?_)
  subst hl0
  have hx : q_Cc X G RX7 cX7_init 1 1 0 0 27 := hx
  refine q_Wc.to (e2 := q_ko G x 27 7 [.int 0, .int 0, .int 0, .int 0]) (fun c _ h => rfl) ?_
  refine qk_aload_n hx dX7_init_0 0 rfl ?_
  refine qk_obj hx (by decide) q_ol_7_3 q_oi q_oc (Nat.le_of_ble_eq_true rfl) dX7_init_1 ?_
  refine qk_aload_n hx dX7_init_4 0 rfl ?_
  refine qk_iconst (v := 0) hx dX7_init_5 (by decide) ?_
  refine qk_put (ty := tyX7 0) (e2 := q_ko G x 27 7 [.int 0, .int 0, .int 0, .int 0]) hx rfl q_lay7 tyX7_ok nmX7 (by decide) q_fi_7_9 rfl rfl (by decide) (tyX7_ok 0 (by decide)) rfl rfl (Nat.le_of_ble_eq_true rfl) (by omega) (by omega) q_ko_at dX7_init_6 q_ko_at (fun c2 h => (q_ko_ne h).trans (q_ko_ne h).symm) ?_
  refine qk_aload_n hx dX7_init_9 0 rfl ?_
  refine qk_iconst (v := 0) hx dX7_init_10 (by decide) ?_
  refine qk_put (ty := tyX7 1) (e2 := q_ko G x 27 7 [.int 0, .int 0, .int 0, .int 0]) hx rfl q_lay7 tyX7_ok nmX7 (by decide) q_fi_7_15 rfl rfl (by decide) (tyX7_ok 1 (by decide)) rfl rfl (Nat.le_of_ble_eq_true rfl) (by omega) (by omega) q_ko_at dX7_init_11 q_ko_at (fun c2 h => (q_ko_ne h).trans (q_ko_ne h).symm) ?_
  refine qk_aload_n hx dX7_init_14 0 rfl ?_
  refine qk_iconst (v := 0) hx dX7_init_15 (by decide) ?_
  refine qk_put (ty := tyX7 2) (e2 := q_ko G x 27 7 [.int 0, .int 0, .int 0, .int 0]) hx rfl q_lay7 tyX7_ok nmX7 (by decide) q_fi_7_18 rfl rfl (by decide) (tyX7_ok 2 (by decide)) rfl rfl (Nat.le_of_ble_eq_true rfl) (by omega) (by omega) q_ko_at dX7_init_16 q_ko_at (fun c2 h => (q_ko_ne h).trans (q_ko_ne h).symm) ?_
  refine qk_aload_n hx dX7_init_19 0 rfl ?_
  refine qk_iconst (v := 0) hx dX7_init_20 (by decide) ?_
  refine qk_put (ty := tyX7 3) (e2 := q_ko G x 27 7 [.int 0, .int 0, .int 0, .int 0]) hx rfl q_lay7 tyX7_ok nmX7 (by decide) q_fi_7_21 rfl rfl (by decide) (tyX7_ok 3 (by decide)) rfl rfl (Nat.le_of_ble_eq_true rfl) (by omega) (by omega) q_ko_at dX7_init_21 q_ko_at (fun c2 h => (q_ko_ne h).trans (q_ko_ne h).symm) ?_
  refine qk_ret hx hr (Nat.le_refl _) (Nat.le_refl _) dX7_init_24 (by omega) (fun c h1 h2 => q_ko_fin ?_ c)
  show Sum.inr _ = q_ent G (q_s0 27) x 27
  rw [q_e7 kd_27, q_s0_f kd_27 (by decide)]
  rfl
set_option maxHeartbeats 8000000 in
set_option maxRecDepth 100000 in
theorem c_X2_init (l : Launch) (G : q_G) (x : q_A) (z0 : Nat) (hz0 : q_isDream z0) : q_MetC l yX2_init cX2_init 2 2 24 284 G x z0 25 (.inr (2, [.int 0, .null, .null, .null, .null, .int 0, .int 0])) := by
  refine q_ofC (by decide) rfl (Nat.le_of_ble_eq_true rfl) (fun X hl0 hx hr => ?_)
  subst hl0
  have hx : q_Cc X G RX2 cX2_init 2 2 24 284 z0 := hx
  refine q_Wc.to (e2 := q_ka G x z0 2 [.int 0, .null, .null, .null, .null, .int 0, .int 0] (z0 + 2) (.inl (G.2.2.1 3, 5, .inr (.inr (.inr (.inr (q_kp G (z0 + 2) 0))))))) (fun c _ h => q_ka_in (by omega)) ?_
  refine qk_aload_n hx dX2_init_0 0 rfl ?_
  refine qk_obj hx (by decide) q_ol_2_3 q_oi q_oc (Nat.le_of_ble_eq_true rfl) dX2_init_1 ?_
  refine qk_aload_n hx dX2_init_4 0 rfl ?_
  refine qk_iconst (v := 0) hx dX2_init_5 (by decide) ?_
  refine qk_put (ty := tyX2 0) (e2 := q_ka G x z0 2 [.int 0, .null, .null, .null, .null, .int 0, .int 0] (z0 + 2) (.inl (G.2.2.1 3, 5, .inr (.inr (.inr (.inr (q_kp G (z0 + 2) 0))))))) hx rfl q_lay2 tyX2_ok nmX2 (by decide) q_fi_2_9 rfl rfl (by decide) (tyX2_ok 0 (by decide)) rfl rfl (Nat.le_of_ble_eq_true rfl) (by omega) (by omega) q_ka_at dX2_init_6 q_ka_at (fun c2 h => q_ka_same h) ?_
  refine qk_aload_n hx dX2_init_9 0 rfl ?_
  refine qk_iconst (v := 5) hx dX2_init_10 (by decide) ?_
  refine qk_na (t := 0) (N := 5) (ty := .int) (r := q_s0 (z0 + 1)) hx rfl q_ac_int rfl (fun _ _ => rfl) rfl (by decide) (by decide) (Nat.le_of_ble_eq_true rfl) (Nat.le_of_ble_eq_true rfl) (Nat.le_of_ble_eq_true rfl) dX2_init_11 (by omega) ((q_ka_ne (by omega) (by omega)).trans (q_ea0 hz0.2.1 (by decide))) (q_s0_k hz0.2.1 (by decide)) ?_
  refine qk_put (ty := tyX2 1) (e2 := q_ka G x z0 2 [.int 0, .ref (G.2.1 + (z0 + 1)), .null, .null, .null, .int 0, .int 0] (z0 + 2) (.inl (G.2.2.1 3, 5, .inr (.inr (.inr (.inr (q_kp G (z0 + 2) 0))))))) hx rfl q_lay2 tyX2_ok nmX2 (by decide) q_fi_2_15 rfl rfl (by decide) (tyX2_ok 1 (by decide)) rfl rfl (Nat.le_of_ble_eq_true rfl) (by omega) (by omega) q_ka_at dX2_init_13 q_ka_at (fun c2 h => q_ka_same h) ?_
  refine qk_aload_n hx dX2_init_16 0 rfl ?_
  refine qk_iconst (v := 5) hx dX2_init_17 (by decide) ?_
  refine qk_ana (t := 3) (N := 5) hx q_cl_2_19 (Or.inl rfl) rfl (by decide) (by decide) (by decide) (Nat.le_of_ble_eq_true rfl) (Nat.le_of_ble_eq_true rfl) dX2_init_18 (by omega) ((q_ka_arr (by omega)).trans (by rw [q_kp0])) ?_
  refine qk_put (ty := tyX2 2) (e2 := q_ka G x z0 2 [.int 0, .ref (G.2.1 + (z0 + 1)), .ref (G.2.1 + (z0 + 2)), .null, .null, .int 0, .int 0] (z0 + 2) (.inl (G.2.2.1 3, 5, .inr (.inr (.inr (.inr (q_kp G (z0 + 2) 0))))))) hx rfl q_lay2 tyX2_ok nmX2 (by decide) q_fi_2_21 rfl rfl (by decide) (tyX2_ok 2 (by decide)) rfl rfl (Nat.le_of_ble_eq_true rfl) (by omega) (by omega) q_ka_at dX2_init_21 q_ka_at (fun c2 h => q_ka_same h) ?_
  refine qk_aload_n hx dX2_init_24 0 rfl ?_
  refine qk_mk (n1 := 3) (ty := tyX6) (fs := [.int 0, .int 0, .int 0, .int 0, .int 0, .int 0, .int 0, .null, .null]) hx q_lay6 tyX6_ok q_cl_2_19 q_ins_6 q_ini_6 rfl q_df6 (c_X6_init (q_Xl X) G x (z0 + 3) hz0.2.2.2.1) q_ml_X2_25 q_mn_X6_init rfl q_mi_X6_init (by decide) (Nat.le_of_ble_eq_true rfl) (Nat.le_of_ble_eq_true rfl) (Nat.le_of_ble_eq_true rfl) dX2_init_25 dX2_init_28 dX2_init_29 (by omega) (by decide) (fun c h1 h2 => (q_ka_ne (by omega) (by omega))) ?_
  refine qk_put (ty := tyX2 3) (e2 := q_ka G x z0 2 [.int 0, .ref (G.2.1 + (z0 + 1)), .ref (G.2.1 + (z0 + 2)), .ref (G.2.1 + (z0 + 3)), .null, .int 0, .int 0] (z0 + 2) (.inl (G.2.2.1 3, 5, .inr (.inr (.inr (.inr (q_kp G (z0 + 2) 0))))))) hx rfl q_lay2 tyX2_ok nmX2 (by decide) q_fi_2_26 rfl rfl (by decide) (tyX2_ok 3 (by decide)) rfl rfl (Nat.le_of_ble_eq_true rfl) (by omega) (by omega) q_ka_at dX2_init_32 q_ka_at (fun c2 h => q_ka_same h) ?_
  refine qk_aload_n hx dX2_init_35 0 rfl ?_
  refine qk_mk (n1 := 4) (ty := tyX5) (fs := [.int 0, .null, .null, .null]) hx q_lay5 tyX5_ok q_cl_2_30 q_ins_5 q_ini_5 rfl q_df5 (c_X5_init (q_Xl X) G x (z0 + 6) hz0.2.2.2.2.1) q_ml_X2_32 q_mn_X5_init rfl q_mi_X5_init (by decide) (Nat.le_of_ble_eq_true rfl) (Nat.le_of_ble_eq_true rfl) (Nat.le_of_ble_eq_true rfl) dX2_init_36 dX2_init_39 dX2_init_40 (by omega) (by decide) (fun c h1 h2 => (q_ka_ne (by omega) (by omega))) ?_
  refine qk_put (ty := tyX2 4) (e2 := q_ka G x z0 2 [.int 0, .ref (G.2.1 + (z0 + 1)), .ref (G.2.1 + (z0 + 2)), .ref (G.2.1 + (z0 + 3)), .ref (G.2.1 + (z0 + 6)), .int 0, .int 0] (z0 + 2) (.inl (G.2.2.1 3, 5, .inr (.inr (.inr (.inr (q_kp G (z0 + 2) 0))))))) hx rfl q_lay2 tyX2_ok nmX2 (by decide) q_fi_2_33 rfl rfl (by decide) (tyX2_ok 4 (by decide)) rfl rfl (Nat.le_of_ble_eq_true rfl) (by omega) (by omega) q_ka_at dX2_init_43 q_ka_at (fun c2 h => q_ka_same h) ?_
  refine qk_aload_n hx dX2_init_46 0 rfl ?_
  refine qk_iconst (v := 0) hx dX2_init_47 (by decide) ?_
  refine qk_put (ty := tyX2 5) (e2 := q_ka G x z0 2 [.int 0, .ref (G.2.1 + (z0 + 1)), .ref (G.2.1 + (z0 + 2)), .ref (G.2.1 + (z0 + 3)), .ref (G.2.1 + (z0 + 6)), .int 0, .int 0] (z0 + 2) (.inl (G.2.2.1 3, 5, .inr (.inr (.inr (.inr (q_kp G (z0 + 2) 0))))))) hx rfl q_lay2 tyX2_ok nmX2 (by decide) q_fi_2_37 rfl rfl (by decide) (tyX2_ok 5 (by decide)) rfl rfl (Nat.le_of_ble_eq_true rfl) (by omega) (by omega) q_ka_at dX2_init_48 q_ka_at (fun c2 h => q_ka_same h) ?_
  refine qk_aload_n hx dX2_init_51 0 rfl ?_
  refine qk_iconst (v := 0) hx dX2_init_52 (by decide) ?_
  refine qk_put (ty := tyX2 6) (e2 := q_ka G x z0 2 [.int 0, .ref (G.2.1 + (z0 + 1)), .ref (G.2.1 + (z0 + 2)), .ref (G.2.1 + (z0 + 3)), .ref (G.2.1 + (z0 + 6)), .int 0, .int 0] (z0 + 2) (.inl (G.2.2.1 3, 5, .inr (.inr (.inr (.inr (q_kp G (z0 + 2) 0))))))) hx rfl q_lay2 tyX2_ok nmX2 (by decide) q_fi_2_40 rfl rfl (by decide) (tyX2_ok 6 (by decide)) rfl rfl (Nat.le_of_ble_eq_true rfl) (by omega) (by omega) q_ka_at dX2_init_53 q_ka_at (fun c2 h => q_ka_same h) ?_
  refine qk_iconst (v := 0) hx dX2_init_56 (by decide) ?_
  refine qk_istore_n hx [(1, .int 0), (0, .ref (G.2.1 + z0))] dX2_init_57 (by decide) rfl ?_
  refine qk_iload_n hx dX2_init_58 0 rfl ?_
  refine qk_aload_n hx dX2_init_59 1 rfl ?_
  refine qk_get (v := .ref (G.2.1 + (z0 + 2))) hx q_fl_X2_21 dX2_init_60 (by omega) (by omega) q_ka_at rfl ?_
  refine qk_alen (v := 5) hx dX2_init_63 (by omega) (by omega) rfl (q_ka_arr (by omega)) (by decide) ?_
  refine qk_icmp_ge hx 86 dX2_init_64 (by decide) (fun h => absurd h (by decide)) (fun _ => ?_)
  refine qk_aload_n hx dX2_init_67 1 rfl ?_
  refine qk_get (v := .ref (G.2.1 + (z0 + 2))) hx q_fl_X2_21 dX2_init_68 (by omega) (by omega) q_ka_at rfl ?_
  refine qk_iload_n hx dX2_init_71 0 rfl ?_
  refine qk_mk (n1 := 3) (ty := tyX6) (fs := [.int 0, .int 0, .int 0, .int 0, .int 0, .int 0, .int 0, .null, .null]) hx q_lay6 tyX6_ok q_cl_2_19 q_ins_6 q_ini_6 rfl q_df6 (c_X6_init (q_Xl X) G x (z0 + 10) (hz0.2.2.2.2.2 0 (by decide))) q_ml_X2_25 q_mn_X6_init rfl q_mi_X6_init (by decide) (Nat.le_of_ble_eq_true rfl) (Nat.le_of_ble_eq_true rfl) (Nat.le_of_ble_eq_true rfl) dX2_init_72 dX2_init_75 dX2_init_76 (by omega) (by decide) (fun c h1 h2 => (q_ka_ne (by omega) (by omega))) ?_
  refine qk_aast (ci := 6) (e2 := q_ka G x z0 2 [.int 0, .ref (G.2.1 + (z0 + 1)), .ref (G.2.1 + (z0 + 2)), .ref (G.2.1 + (z0 + 3)), .ref (G.2.1 + (z0 + 6)), .int 0, .int 0] (z0 + 2) (.inl (G.2.2.1 3, 5, .inr (.inr (.inr (.inr (q_kp G (z0 + 2) 1))))))) hx rfl rfl (by omega) (by omega) (q_ka_arr (by omega)) (by omega) (by omega) ((q_ka_ne (by omega) (by omega)).trans (q_e6 (hz0.2.2.2.2.2 0 (by decide)).1)) q_vi5_0 dX2_init_79 ((q_ka_arr (by omega)).trans (by rw [q_kp_up (by omega) (by decide)])) (fun c2 h => q_ka_same2 h) ?_
  refine qk_iinc (v := 1) hx [(1, .int 1), (0, .ref (G.2.1 + z0))] dX2_init_80 0 rfl (by decide) (by decide) rfl ?_
  refine qk_goto hx 58 dX2_init_83 (by decide) ?_
  refine qk_iload_n hx dX2_init_58 0 rfl ?_
  refine qk_aload_n hx dX2_init_59 1 rfl ?_
  refine qk_get (v := .ref (G.2.1 + (z0 + 2))) hx q_fl_X2_21 dX2_init_60 (by omega) (by omega) q_ka_at rfl ?_
  refine qk_alen (v := 5) hx dX2_init_63 (by omega) (by omega) rfl (q_ka_arr (by omega)) (by decide) ?_
  refine qk_icmp_ge hx 86 dX2_init_64 (by decide) (fun h => absurd h (by decide)) (fun _ => ?_)
  refine qk_aload_n hx dX2_init_67 1 rfl ?_
  refine qk_get (v := .ref (G.2.1 + (z0 + 2))) hx q_fl_X2_21 dX2_init_68 (by omega) (by omega) q_ka_at rfl ?_
  refine qk_iload_n hx dX2_init_71 0 rfl ?_
  refine qk_mk (n1 := 3) (ty := tyX6) (fs := [.int 0, .int 0, .int 0, .int 0, .int 0, .int 0, .int 0, .null, .null]) hx q_lay6 tyX6_ok q_cl_2_19 q_ins_6 q_ini_6 rfl q_df6 (c_X6_init (q_Xl X) G x (z0 + 13) (hz0.2.2.2.2.2 1 (by decide))) q_ml_X2_25 q_mn_X6_init rfl q_mi_X6_init (by decide) (Nat.le_of_ble_eq_true rfl) (Nat.le_of_ble_eq_true rfl) (Nat.le_of_ble_eq_true rfl) dX2_init_72 dX2_init_75 dX2_init_76 (by omega) (by decide) (fun c h1 h2 => (q_ka_ne (by omega) (by omega))) ?_
  refine qk_aast (ci := 6) (e2 := q_ka G x z0 2 [.int 0, .ref (G.2.1 + (z0 + 1)), .ref (G.2.1 + (z0 + 2)), .ref (G.2.1 + (z0 + 3)), .ref (G.2.1 + (z0 + 6)), .int 0, .int 0] (z0 + 2) (.inl (G.2.2.1 3, 5, .inr (.inr (.inr (.inr (q_kp G (z0 + 2) 2))))))) hx rfl rfl (by omega) (by omega) (q_ka_arr (by omega)) (by omega) (by omega) ((q_ka_ne (by omega) (by omega)).trans (q_e6 (hz0.2.2.2.2.2 1 (by decide)).1)) q_vi5_1 dX2_init_79 ((q_ka_arr (by omega)).trans (by rw [q_kp_up (by omega) (by decide)])) (fun c2 h => q_ka_same2 h) ?_
  refine qk_iinc (v := 2) hx [(1, .int 2), (0, .ref (G.2.1 + z0))] dX2_init_80 0 rfl (by decide) (by decide) rfl ?_
  refine qk_goto hx 58 dX2_init_83 (by decide) ?_
  refine qk_iload_n hx dX2_init_58 0 rfl ?_
  refine qk_aload_n hx dX2_init_59 1 rfl ?_
  refine qk_get (v := .ref (G.2.1 + (z0 + 2))) hx q_fl_X2_21 dX2_init_60 (by omega) (by omega) q_ka_at rfl ?_
  refine qk_alen (v := 5) hx dX2_init_63 (by omega) (by omega) rfl (q_ka_arr (by omega)) (by decide) ?_
  refine qk_icmp_ge hx 86 dX2_init_64 (by decide) (fun h => absurd h (by decide)) (fun _ => ?_)
  refine qk_aload_n hx dX2_init_67 1 rfl ?_
  refine qk_get (v := .ref (G.2.1 + (z0 + 2))) hx q_fl_X2_21 dX2_init_68 (by omega) (by omega) q_ka_at rfl ?_
  refine qk_iload_n hx dX2_init_71 0 rfl ?_
  refine qk_mk (n1 := 3) (ty := tyX6) (fs := [.int 0, .int 0, .int 0, .int 0, .int 0, .int 0, .int 0, .null, .null]) hx q_lay6 tyX6_ok q_cl_2_19 q_ins_6 q_ini_6 rfl q_df6 (c_X6_init (q_Xl X) G x (z0 + 16) (hz0.2.2.2.2.2 2 (by decide))) q_ml_X2_25 q_mn_X6_init rfl q_mi_X6_init (by decide) (Nat.le_of_ble_eq_true rfl) (Nat.le_of_ble_eq_true rfl) (Nat.le_of_ble_eq_true rfl) dX2_init_72 dX2_init_75 dX2_init_76 (by omega) (by decide) (fun c h1 h2 => (q_ka_ne (by omega) (by omega))) ?_
  refine qk_aast (ci := 6) (e2 := q_ka G x z0 2 [.int 0, .ref (G.2.1 + (z0 + 1)), .ref (G.2.1 + (z0 + 2)), .ref (G.2.1 + (z0 + 3)), .ref (G.2.1 + (z0 + 6)), .int 0, .int 0] (z0 + 2) (.inl (G.2.2.1 3, 5, .inr (.inr (.inr (.inr (q_kp G (z0 + 2) 3))))))) hx rfl rfl (by omega) (by omega) (q_ka_arr (by omega)) (by omega) (by omega) ((q_ka_ne (by omega) (by omega)).trans (q_e6 (hz0.2.2.2.2.2 2 (by decide)).1)) q_vi5_2 dX2_init_79 ((q_ka_arr (by omega)).trans (by rw [q_kp_up (by omega) (by decide)])) (fun c2 h => q_ka_same2 h) ?_
  refine qk_iinc (v := 3) hx [(1, .int 3), (0, .ref (G.2.1 + z0))] dX2_init_80 0 rfl (by decide) (by decide) rfl ?_
  refine qk_goto hx 58 dX2_init_83 (by decide) ?_
  refine qk_iload_n hx dX2_init_58 0 rfl ?_
  refine qk_aload_n hx dX2_init_59 1 rfl ?_
  refine qk_get (v := .ref (G.2.1 + (z0 + 2))) hx q_fl_X2_21 dX2_init_60 (by omega) (by omega) q_ka_at rfl ?_
  refine qk_alen (v := 5) hx dX2_init_63 (by omega) (by omega) rfl (q_ka_arr (by omega)) (by decide) ?_
  refine qk_icmp_ge hx 86 dX2_init_64 (by decide) (fun h => absurd h (by decide)) (fun _ => ?_)
  refine qk_aload_n hx dX2_init_67 1 rfl ?_
  refine qk_get (v := .ref (G.2.1 + (z0 + 2))) hx q_fl_X2_21 dX2_init_68 (by omega) (by omega) q_ka_at rfl ?_
  refine qk_iload_n hx dX2_init_71 0 rfl ?_
  refine qk_mk (n1 := 3) (ty := tyX6) (fs := [.int 0, .int 0, .int 0, .int 0, .int 0, .int 0, .int 0, .null, .null]) hx q_lay6 tyX6_ok q_cl_2_19 q_ins_6 q_ini_6 rfl q_df6 (c_X6_init (q_Xl X) G x (z0 + 19) (hz0.2.2.2.2.2 3 (by decide))) q_ml_X2_25 q_mn_X6_init rfl q_mi_X6_init (by decide) (Nat.le_of_ble_eq_true rfl) (Nat.le_of_ble_eq_true rfl) (Nat.le_of_ble_eq_true rfl) dX2_init_72 dX2_init_75 dX2_init_76 (by omega) (by decide) (fun c h1 h2 => (q_ka_ne (by omega) (by omega))) ?_
  refine qk_aast (ci := 6) (e2 := q_ka G x z0 2 [.int 0, .ref (G.2.1 + (z0 + 1)), .ref (G.2.1 + (z0 + 2)), .ref (G.2.1 + (z0 + 3)), .ref (G.2.1 + (z0 + 6)), .int 0, .int 0] (z0 + 2) (.inl (G.2.2.1 3, 5, .inr (.inr (.inr (.inr (q_kp G (z0 + 2) 4))))))) hx rfl rfl (by omega) (by omega) (q_ka_arr (by omega)) (by omega) (by omega) ((q_ka_ne (by omega) (by omega)).trans (q_e6 (hz0.2.2.2.2.2 3 (by decide)).1)) q_vi5_3 dX2_init_79 ((q_ka_arr (by omega)).trans (by rw [q_kp_up (by omega) (by decide)])) (fun c2 h => q_ka_same2 h) ?_
  refine qk_iinc (v := 4) hx [(1, .int 4), (0, .ref (G.2.1 + z0))] dX2_init_80 0 rfl (by decide) (by decide) rfl ?_
  refine qk_goto hx 58 dX2_init_83 (by decide) ?_
  refine qk_iload_n hx dX2_init_58 0 rfl ?_
  refine qk_aload_n hx dX2_init_59 1 rfl ?_
  refine qk_get (v := .ref (G.2.1 + (z0 + 2))) hx q_fl_X2_21 dX2_init_60 (by omega) (by omega) q_ka_at rfl ?_
  refine qk_alen (v := 5) hx dX2_init_63 (by omega) (by omega) rfl (q_ka_arr (by omega)) (by decide) ?_
  refine qk_icmp_ge hx 86 dX2_init_64 (by decide) (fun h => absurd h (by decide)) (fun _ => ?_)
  refine qk_aload_n hx dX2_init_67 1 rfl ?_
  refine qk_get (v := .ref (G.2.1 + (z0 + 2))) hx q_fl_X2_21 dX2_init_68 (by omega) (by omega) q_ka_at rfl ?_
  refine qk_iload_n hx dX2_init_71 0 rfl ?_
  refine qk_mk (n1 := 3) (ty := tyX6) (fs := [.int 0, .int 0, .int 0, .int 0, .int 0, .int 0, .int 0, .null, .null]) hx q_lay6 tyX6_ok q_cl_2_19 q_ins_6 q_ini_6 rfl q_df6 (c_X6_init (q_Xl X) G x (z0 + 22) (hz0.2.2.2.2.2 4 (by decide))) q_ml_X2_25 q_mn_X6_init rfl q_mi_X6_init (by decide) (Nat.le_of_ble_eq_true rfl) (Nat.le_of_ble_eq_true rfl) (Nat.le_of_ble_eq_true rfl) dX2_init_72 dX2_init_75 dX2_init_76 (by omega) (by decide) (fun c h1 h2 => (q_ka_ne (by omega) (by omega))) ?_
  refine qk_aast (ci := 6) (e2 := q_ka G x z0 2 [.int 0, .ref (G.2.1 + (z0 + 1)), .ref (G.2.1 + (z0 + 2)), .ref (G.2.1 + (z0 + 3)), .ref (G.2.1 + (z0 + 6)), .int 0, .int 0] (z0 + 2) (.inl (G.2.2.1 3, 5, .inr (.inr (.inr (.inr (q_kp G (z0 + 2) 5))))))) hx rfl rfl (by omega) (by omega) (q_ka_arr (by omega)) (by omega) (by omega) ((q_ka_ne (by omega) (by omega)).trans (q_e6 (hz0.2.2.2.2.2 4 (by decide)).1)) q_vi5_4 dX2_init_79 ((q_ka_arr (by omega)).trans (by rw [q_kp_up (by omega) (by decide)])) (fun c2 h => q_ka_same2 h) ?_
  refine qk_iinc (v := 5) hx [(1, .int 5), (0, .ref (G.2.1 + z0))] dX2_init_80 0 rfl (by decide) (by decide) rfl ?_
  refine qk_goto hx 58 dX2_init_83 (by decide) ?_
  refine qk_iload_n hx dX2_init_58 0 rfl ?_
  refine qk_aload_n hx dX2_init_59 1 rfl ?_
  refine qk_get (v := .ref (G.2.1 + (z0 + 2))) hx q_fl_X2_21 dX2_init_60 (by omega) (by omega) q_ka_at rfl ?_
  refine qk_alen (v := 5) hx dX2_init_63 (by omega) (by omega) rfl (q_ka_arr (by omega)) (by decide) ?_
  refine qk_icmp_ge hx 86 dX2_init_64 (by decide) (fun _ => ?_) (fun h => absurd (by decide) h)
  refine qk_ret hx hr (Nat.le_refl _) (Nat.le_refl _) dX2_init_86 (by omega) (fun c h1 h2 => q_ka_fin ?_ ?_ c)
  · show Sum.inr _ = q_ent G (q_s0 z0) x z0
    rw [q_e2 hz0.1, q_s0_f hz0.1 (by decide)]
    rfl
  · exact (q_ep hz0.2.2.1).symm
set_option maxHeartbeats 8000000 in
set_option maxRecDepth 100000 in
theorem c_X8_init (l : Launch) (G : q_G) (x : q_A) : q_MetC l yX8_init cX8_init 1 3 26 295 G x 1 27 (.inr (8, [.null, .null])) := by
  refine q_ofC (by decide) rfl (Nat.le_of_ble_eq_true rfl) (fun X hl0 hx hr => ?_)
  subst hl0
  have hx : q_Cc X G RX8 cX8_init 1 3 26 295 1 := hx
  refine q_Wc.to (e2 := q_ko G x 1 8 [.null, .null]) (fun c _ h => rfl) ?_
  refine qk_aload_n hx dX8_init_0 0 rfl ?_
  refine qk_obj hx (by decide) q_ol_8_3 q_oi q_oc (Nat.le_of_ble_eq_true rfl) dX8_init_1 ?_
  refine qk_aload_n hx dX8_init_4 0 rfl ?_
  refine qk_mk (n1 := 25) (ty := tyX2) (fs := [.int 0, .null, .null, .null, .null, .int 0, .int 0]) hx q_lay2 tyX2_ok q_cl_8_9 q_ins_2 q_ini_2 rfl q_df2 (c_X2_init (q_Xl X) G x 2 dr_2) q_ml_X8_11 q_mn_X2_init rfl q_mi_X2_init (by decide) (Nat.le_of_ble_eq_true rfl) (Nat.le_of_ble_eq_true rfl) (Nat.le_of_ble_eq_true rfl) dX8_init_5 dX8_init_8 dX8_init_9 (by omega) (by decide) (fun c h1 h2 => (q_ko_ne (by omega))) ?_
  refine qk_put (ty := tyX8 0) (e2 := q_ko G x 1 8 [.ref (G.2.1 + 2), .null]) hx rfl q_lay8 tyX8_ok nmX8 (by decide) q_fi_8_12 rfl rfl (by decide) (tyX8_ok 0 (by decide)) rfl rfl (Nat.le_of_ble_eq_true rfl) (by omega) (by omega) q_ko_at dX8_init_12 q_ko_at (fun c2 h => (q_ko_ne h).trans (q_ko_ne h).symm) ?_
  refine qk_aload_n hx dX8_init_15 0 rfl ?_
  refine qk_mk (n1 := 1) (ty := tyX7) (fs := [.int 0, .int 0, .int 0, .int 0]) hx q_lay7 tyX7_ok q_cl_8_18 q_ins_7 q_ini_7 rfl q_df7 (c_X7_init (q_Xl X) G x) q_ml_X8_20 q_mn_X7_init rfl q_mi_X7_init (by decide) (Nat.le_of_ble_eq_true rfl) (Nat.le_of_ble_eq_true rfl) (Nat.le_of_ble_eq_true rfl) dX8_init_16 dX8_init_19 dX8_init_20 (by omega) (by decide) (fun c h1 h2 => (q_ko_ne (by omega))) ?_
  refine qk_put (ty := tyX8 1) (e2 := q_ko G x 1 8 [.ref (G.2.1 + 2), .ref (G.2.1 + 27)]) hx rfl q_lay8 tyX8_ok nmX8 (by decide) q_fi_8_21 rfl rfl (by decide) (tyX8_ok 1 (by decide)) rfl rfl (Nat.le_of_ble_eq_true rfl) (by omega) (by omega) q_ko_at dX8_init_23 q_ko_at (fun c2 h => (q_ko_ne h).trans (q_ko_ne h).symm) ?_
  refine qk_ret hx hr (Nat.le_refl _) (Nat.le_refl _) dX8_init_26 (by omega) (fun c h1 h2 => q_ko_fin ?_ c)
  show Sum.inr _ = q_ent G (q_s0 1) x 1
  rw [q_e8 kd_1, q_s0_f kd_1 (by decide)]
  rfl
set_option maxHeartbeats 8000000 in
set_option maxRecDepth 100000 in
theorem c_X3_init (l : Launch) (G : q_G) (x : q_A) : q_MetC l yX3_init cX3_init 2 3 226 2627 G x 53 227 (.inr (3, [.null, .null, .int 0, .int 0])) := by
  refine q_ofC (by decide) rfl (Nat.le_of_ble_eq_true rfl) (fun X hl0 hx hr => ?_)
  subst hl0
  have hx : q_Cc X G RX3 cX3_init 2 3 226 2627 53 := hx
  refine q_Wc.to (e2 := q_ka G x 53 3 [.null, .null, .int 0, .int 0] 54 (.inl (G.2.2.1 4, 8, .inr (.inr (.inr (.inr (q_kh G 0))))))) (fun c _ h => q_ka_in (by omega)) ?_
  refine qk_aload_n hx dX3_init_0 0 rfl ?_
  refine qk_obj hx (by decide) q_ol_3_3 q_oi q_oc (Nat.le_of_ble_eq_true rfl) dX3_init_1 ?_
  refine qk_aload_n hx dX3_init_4 0 rfl ?_
  refine qk_bipush (v := 8) hx dX3_init_5 (by decide) ?_
  refine qk_ana (t := 4) (N := 8) hx q_cl_3_9 (Or.inr rfl) rfl (by decide) (by decide) (by decide) (Nat.le_of_ble_eq_true rfl) (Nat.le_of_ble_eq_true rfl) dX3_init_7 (by omega) ((q_ka_arr (by omega)).trans (by rw [q_kh0])) ?_
  refine qk_put (ty := tyX3 0) (e2 := q_ka G x 53 3 [.ref (G.2.1 + 54), .null, .int 0, .int 0] 54 (.inl (G.2.2.1 4, 8, .inr (.inr (.inr (.inr (q_kh G 0))))))) hx rfl q_lay3 tyX3_ok nmX3 (by decide) q_fi_3_11 rfl rfl (by decide) (tyX3_ok 0 (by decide)) rfl rfl (Nat.le_of_ble_eq_true rfl) (by omega) (by omega) q_ka_at dX3_init_10 q_ka_at (fun c2 h => q_ka_same h) ?_
  refine qk_aload_n hx dX3_init_13 0 rfl ?_
  refine qk_mk (n1 := 25) (ty := tyX2) (fs := [.int 0, .null, .null, .null, .null, .int 0, .int 0]) hx q_lay2 tyX2_ok q_cl_3_9 q_ins_2 q_ini_2 rfl q_df2 (c_X2_init (q_Xl X) G x 55 dr_55) q_ml_X3_17 q_mn_X2_init rfl q_mi_X2_init (by decide) (Nat.le_of_ble_eq_true rfl) (Nat.le_of_ble_eq_true rfl) (Nat.le_of_ble_eq_true rfl) dX3_init_14 dX3_init_17 dX3_init_18 (by omega) (by decide) (fun c h1 h2 => (q_ka_ne (by omega) (by omega))) ?_
  refine qk_put (ty := tyX3 1) (e2 := q_ka G x 53 3 [.ref (G.2.1 + 54), .ref (G.2.1 + 55), .int 0, .int 0] 54 (.inl (G.2.2.1 4, 8, .inr (.inr (.inr (.inr (q_kh G 0))))))) hx rfl q_lay3 tyX3_ok nmX3 (by decide) q_fi_3_18 rfl rfl (by decide) (tyX3_ok 1 (by decide)) rfl rfl (Nat.le_of_ble_eq_true rfl) (by omega) (by omega) q_ka_at dX3_init_21 q_ka_at (fun c2 h => q_ka_same h) ?_
  refine qk_aload_n hx dX3_init_24 0 rfl ?_
  refine qk_iconst (v := 0) hx dX3_init_25 (by decide) ?_
  refine qk_put (ty := tyX3 2) (e2 := q_ka G x 53 3 [.ref (G.2.1 + 54), .ref (G.2.1 + 55), .int 0, .int 0] 54 (.inl (G.2.2.1 4, 8, .inr (.inr (.inr (.inr (q_kh G 0))))))) hx rfl q_lay3 tyX3_ok nmX3 (by decide) q_fi_3_22 rfl rfl (by decide) (tyX3_ok 2 (by decide)) rfl rfl (Nat.le_of_ble_eq_true rfl) (by omega) (by omega) q_ka_at dX3_init_26 q_ka_at (fun c2 h => q_ka_same h) ?_
  refine qk_aload_n hx dX3_init_29 0 rfl ?_
  refine qk_iconst (v := 0) hx dX3_init_30 (by decide) ?_
  refine qk_put (ty := tyX3 3) (e2 := q_ka G x 53 3 [.ref (G.2.1 + 54), .ref (G.2.1 + 55), .int 0, .int 0] 54 (.inl (G.2.2.1 4, 8, .inr (.inr (.inr (.inr (q_kh G 0))))))) hx rfl q_lay3 tyX3_ok nmX3 (by decide) q_fi_3_26 rfl rfl (by decide) (tyX3_ok 3 (by decide)) rfl rfl (Nat.le_of_ble_eq_true rfl) (by omega) (by omega) q_ka_at dX3_init_31 q_ka_at (fun c2 h => q_ka_same h) ?_
  refine qk_iconst (v := 0) hx dX3_init_34 (by decide) ?_
  refine qk_istore_n hx [(1, .int 0), (0, .ref (G.2.1 + 53))] dX3_init_35 (by decide) rfl ?_
  refine qk_iload_n hx dX3_init_36 0 rfl ?_
  refine qk_aload_n hx dX3_init_37 1 rfl ?_
  refine qk_get (v := .ref (G.2.1 + 54)) hx q_fl_X3_11 dX3_init_38 (by omega) (by omega) q_ka_at rfl ?_
  refine qk_alen (v := 8) hx dX3_init_41 (by omega) (by omega) rfl (q_ka_arr (by omega)) (by decide) ?_
  refine qk_icmp_ge hx 64 dX3_init_42 (by decide) (fun h => absurd h (by decide)) (fun _ => ?_)
  refine qk_aload_n hx dX3_init_45 1 rfl ?_
  refine qk_get (v := .ref (G.2.1 + 54)) hx q_fl_X3_11 dX3_init_46 (by omega) (by omega) q_ka_at rfl ?_
  refine qk_iload_n hx dX3_init_49 0 rfl ?_
  refine qk_mk (n1 := 25) (ty := tyX2) (fs := [.int 0, .null, .null, .null, .null, .int 0, .int 0]) hx q_lay2 tyX2_ok q_cl_3_9 q_ins_2 q_ini_2 rfl q_df2 (c_X2_init (q_Xl X) G x 80 dr_80) q_ml_X3_17 q_mn_X2_init rfl q_mi_X2_init (by decide) (Nat.le_of_ble_eq_true rfl) (Nat.le_of_ble_eq_true rfl) (Nat.le_of_ble_eq_true rfl) dX3_init_50 dX3_init_53 dX3_init_54 (by omega) (by decide) (fun c h1 h2 => (q_ka_ne (by omega) (by omega))) ?_
  refine qk_aast (ci := 2) (e2 := q_ka G x 53 3 [.ref (G.2.1 + 54), .ref (G.2.1 + 55), .int 0, .int 0] 54 (.inl (G.2.2.1 4, 8, .inr (.inr (.inr (.inr (q_kh G 1))))))) hx rfl rfl (by omega) (by omega) (q_ka_arr (by omega)) (by omega) (by omega) ((q_ka_ne (by omega) (by omega)).trans (q_e2 dr_80.1)) q_vi8_0 dX3_init_57 ((q_ka_arr (by omega)).trans (by rw [q_kh_up (by omega) (by decide)])) (fun c2 h => q_ka_same2 h) ?_
  refine qk_iinc (v := 1) hx [(1, .int 1), (0, .ref (G.2.1 + 53))] dX3_init_58 0 rfl (by decide) (by decide) rfl ?_
  refine qk_goto hx 36 dX3_init_61 (by decide) ?_
  refine qk_iload_n hx dX3_init_36 0 rfl ?_
  refine qk_aload_n hx dX3_init_37 1 rfl ?_
  refine qk_get (v := .ref (G.2.1 + 54)) hx q_fl_X3_11 dX3_init_38 (by omega) (by omega) q_ka_at rfl ?_
  refine qk_alen (v := 8) hx dX3_init_41 (by omega) (by omega) rfl (q_ka_arr (by omega)) (by decide) ?_
  refine qk_icmp_ge hx 64 dX3_init_42 (by decide) (fun h => absurd h (by decide)) (fun _ => ?_)
  refine qk_aload_n hx dX3_init_45 1 rfl ?_
  refine qk_get (v := .ref (G.2.1 + 54)) hx q_fl_X3_11 dX3_init_46 (by omega) (by omega) q_ka_at rfl ?_
  refine qk_iload_n hx dX3_init_49 0 rfl ?_
  refine qk_mk (n1 := 25) (ty := tyX2) (fs := [.int 0, .null, .null, .null, .null, .int 0, .int 0]) hx q_lay2 tyX2_ok q_cl_3_9 q_ins_2 q_ini_2 rfl q_df2 (c_X2_init (q_Xl X) G x 105 dr_105) q_ml_X3_17 q_mn_X2_init rfl q_mi_X2_init (by decide) (Nat.le_of_ble_eq_true rfl) (Nat.le_of_ble_eq_true rfl) (Nat.le_of_ble_eq_true rfl) dX3_init_50 dX3_init_53 dX3_init_54 (by omega) (by decide) (fun c h1 h2 => (q_ka_ne (by omega) (by omega))) ?_
  refine qk_aast (ci := 2) (e2 := q_ka G x 53 3 [.ref (G.2.1 + 54), .ref (G.2.1 + 55), .int 0, .int 0] 54 (.inl (G.2.2.1 4, 8, .inr (.inr (.inr (.inr (q_kh G 2))))))) hx rfl rfl (by omega) (by omega) (q_ka_arr (by omega)) (by omega) (by omega) ((q_ka_ne (by omega) (by omega)).trans (q_e2 dr_105.1)) q_vi8_1 dX3_init_57 ((q_ka_arr (by omega)).trans (by rw [q_kh_up (by omega) (by decide)])) (fun c2 h => q_ka_same2 h) ?_
  refine qk_iinc (v := 2) hx [(1, .int 2), (0, .ref (G.2.1 + 53))] dX3_init_58 0 rfl (by decide) (by decide) rfl ?_
  refine qk_goto hx 36 dX3_init_61 (by decide) ?_
  refine qk_iload_n hx dX3_init_36 0 rfl ?_
  refine qk_aload_n hx dX3_init_37 1 rfl ?_
  refine qk_get (v := .ref (G.2.1 + 54)) hx q_fl_X3_11 dX3_init_38 (by omega) (by omega) q_ka_at rfl ?_
  refine qk_alen (v := 8) hx dX3_init_41 (by omega) (by omega) rfl (q_ka_arr (by omega)) (by decide) ?_
  refine qk_icmp_ge hx 64 dX3_init_42 (by decide) (fun h => absurd h (by decide)) (fun _ => ?_)
  refine qk_aload_n hx dX3_init_45 1 rfl ?_
  refine qk_get (v := .ref (G.2.1 + 54)) hx q_fl_X3_11 dX3_init_46 (by omega) (by omega) q_ka_at rfl ?_
  refine qk_iload_n hx dX3_init_49 0 rfl ?_
  refine qk_mk (n1 := 25) (ty := tyX2) (fs := [.int 0, .null, .null, .null, .null, .int 0, .int 0]) hx q_lay2 tyX2_ok q_cl_3_9 q_ins_2 q_ini_2 rfl q_df2 (c_X2_init (q_Xl X) G x 130 dr_130) q_ml_X3_17 q_mn_X2_init rfl q_mi_X2_init (by decide) (Nat.le_of_ble_eq_true rfl) (Nat.le_of_ble_eq_true rfl) (Nat.le_of_ble_eq_true rfl) dX3_init_50 dX3_init_53 dX3_init_54 (by omega) (by decide) (fun c h1 h2 => (q_ka_ne (by omega) (by omega))) ?_
  refine qk_aast (ci := 2) (e2 := q_ka G x 53 3 [.ref (G.2.1 + 54), .ref (G.2.1 + 55), .int 0, .int 0] 54 (.inl (G.2.2.1 4, 8, .inr (.inr (.inr (.inr (q_kh G 3))))))) hx rfl rfl (by omega) (by omega) (q_ka_arr (by omega)) (by omega) (by omega) ((q_ka_ne (by omega) (by omega)).trans (q_e2 dr_130.1)) q_vi8_2 dX3_init_57 ((q_ka_arr (by omega)).trans (by rw [q_kh_up (by omega) (by decide)])) (fun c2 h => q_ka_same2 h) ?_
  refine qk_iinc (v := 3) hx [(1, .int 3), (0, .ref (G.2.1 + 53))] dX3_init_58 0 rfl (by decide) (by decide) rfl ?_
  refine qk_goto hx 36 dX3_init_61 (by decide) ?_
  refine qk_iload_n hx dX3_init_36 0 rfl ?_
  refine qk_aload_n hx dX3_init_37 1 rfl ?_
  refine qk_get (v := .ref (G.2.1 + 54)) hx q_fl_X3_11 dX3_init_38 (by omega) (by omega) q_ka_at rfl ?_
  refine qk_alen (v := 8) hx dX3_init_41 (by omega) (by omega) rfl (q_ka_arr (by omega)) (by decide) ?_
  refine qk_icmp_ge hx 64 dX3_init_42 (by decide) (fun h => absurd h (by decide)) (fun _ => ?_)
  refine qk_aload_n hx dX3_init_45 1 rfl ?_
  refine qk_get (v := .ref (G.2.1 + 54)) hx q_fl_X3_11 dX3_init_46 (by omega) (by omega) q_ka_at rfl ?_
  refine qk_iload_n hx dX3_init_49 0 rfl ?_
  refine qk_mk (n1 := 25) (ty := tyX2) (fs := [.int 0, .null, .null, .null, .null, .int 0, .int 0]) hx q_lay2 tyX2_ok q_cl_3_9 q_ins_2 q_ini_2 rfl q_df2 (c_X2_init (q_Xl X) G x 155 dr_155) q_ml_X3_17 q_mn_X2_init rfl q_mi_X2_init (by decide) (Nat.le_of_ble_eq_true rfl) (Nat.le_of_ble_eq_true rfl) (Nat.le_of_ble_eq_true rfl) dX3_init_50 dX3_init_53 dX3_init_54 (by omega) (by decide) (fun c h1 h2 => (q_ka_ne (by omega) (by omega))) ?_
  refine qk_aast (ci := 2) (e2 := q_ka G x 53 3 [.ref (G.2.1 + 54), .ref (G.2.1 + 55), .int 0, .int 0] 54 (.inl (G.2.2.1 4, 8, .inr (.inr (.inr (.inr (q_kh G 4))))))) hx rfl rfl (by omega) (by omega) (q_ka_arr (by omega)) (by omega) (by omega) ((q_ka_ne (by omega) (by omega)).trans (q_e2 dr_155.1)) q_vi8_3 dX3_init_57 ((q_ka_arr (by omega)).trans (by rw [q_kh_up (by omega) (by decide)])) (fun c2 h => q_ka_same2 h) ?_
  refine qk_iinc (v := 4) hx [(1, .int 4), (0, .ref (G.2.1 + 53))] dX3_init_58 0 rfl (by decide) (by decide) rfl ?_
  refine qk_goto hx 36 dX3_init_61 (by decide) ?_
  refine qk_iload_n hx dX3_init_36 0 rfl ?_
  refine qk_aload_n hx dX3_init_37 1 rfl ?_
  refine qk_get (v := .ref (G.2.1 + 54)) hx q_fl_X3_11 dX3_init_38 (by omega) (by omega) q_ka_at rfl ?_
  refine qk_alen (v := 8) hx dX3_init_41 (by omega) (by omega) rfl (q_ka_arr (by omega)) (by decide) ?_
  refine qk_icmp_ge hx 64 dX3_init_42 (by decide) (fun h => absurd h (by decide)) (fun _ => ?_)
  refine qk_aload_n hx dX3_init_45 1 rfl ?_
  refine qk_get (v := .ref (G.2.1 + 54)) hx q_fl_X3_11 dX3_init_46 (by omega) (by omega) q_ka_at rfl ?_
  refine qk_iload_n hx dX3_init_49 0 rfl ?_
  refine qk_mk (n1 := 25) (ty := tyX2) (fs := [.int 0, .null, .null, .null, .null, .int 0, .int 0]) hx q_lay2 tyX2_ok q_cl_3_9 q_ins_2 q_ini_2 rfl q_df2 (c_X2_init (q_Xl X) G x 180 dr_180) q_ml_X3_17 q_mn_X2_init rfl q_mi_X2_init (by decide) (Nat.le_of_ble_eq_true rfl) (Nat.le_of_ble_eq_true rfl) (Nat.le_of_ble_eq_true rfl) dX3_init_50 dX3_init_53 dX3_init_54 (by omega) (by decide) (fun c h1 h2 => (q_ka_ne (by omega) (by omega))) ?_
  refine qk_aast (ci := 2) (e2 := q_ka G x 53 3 [.ref (G.2.1 + 54), .ref (G.2.1 + 55), .int 0, .int 0] 54 (.inl (G.2.2.1 4, 8, .inr (.inr (.inr (.inr (q_kh G 5))))))) hx rfl rfl (by omega) (by omega) (q_ka_arr (by omega)) (by omega) (by omega) ((q_ka_ne (by omega) (by omega)).trans (q_e2 dr_180.1)) q_vi8_4 dX3_init_57 ((q_ka_arr (by omega)).trans (by rw [q_kh_up (by omega) (by decide)])) (fun c2 h => q_ka_same2 h) ?_
  refine qk_iinc (v := 5) hx [(1, .int 5), (0, .ref (G.2.1 + 53))] dX3_init_58 0 rfl (by decide) (by decide) rfl ?_
  refine qk_goto hx 36 dX3_init_61 (by decide) ?_
  refine qk_iload_n hx dX3_init_36 0 rfl ?_
  refine qk_aload_n hx dX3_init_37 1 rfl ?_
  refine qk_get (v := .ref (G.2.1 + 54)) hx q_fl_X3_11 dX3_init_38 (by omega) (by omega) q_ka_at rfl ?_
  refine qk_alen (v := 8) hx dX3_init_41 (by omega) (by omega) rfl (q_ka_arr (by omega)) (by decide) ?_
  refine qk_icmp_ge hx 64 dX3_init_42 (by decide) (fun h => absurd h (by decide)) (fun _ => ?_)
  refine qk_aload_n hx dX3_init_45 1 rfl ?_
  refine qk_get (v := .ref (G.2.1 + 54)) hx q_fl_X3_11 dX3_init_46 (by omega) (by omega) q_ka_at rfl ?_
  refine qk_iload_n hx dX3_init_49 0 rfl ?_
  refine qk_mk (n1 := 25) (ty := tyX2) (fs := [.int 0, .null, .null, .null, .null, .int 0, .int 0]) hx q_lay2 tyX2_ok q_cl_3_9 q_ins_2 q_ini_2 rfl q_df2 (c_X2_init (q_Xl X) G x 205 dr_205) q_ml_X3_17 q_mn_X2_init rfl q_mi_X2_init (by decide) (Nat.le_of_ble_eq_true rfl) (Nat.le_of_ble_eq_true rfl) (Nat.le_of_ble_eq_true rfl) dX3_init_50 dX3_init_53 dX3_init_54 (by omega) (by decide) (fun c h1 h2 => (q_ka_ne (by omega) (by omega))) ?_
  refine qk_aast (ci := 2) (e2 := q_ka G x 53 3 [.ref (G.2.1 + 54), .ref (G.2.1 + 55), .int 0, .int 0] 54 (.inl (G.2.2.1 4, 8, .inr (.inr (.inr (.inr (q_kh G 6))))))) hx rfl rfl (by omega) (by omega) (q_ka_arr (by omega)) (by omega) (by omega) ((q_ka_ne (by omega) (by omega)).trans (q_e2 dr_205.1)) q_vi8_5 dX3_init_57 ((q_ka_arr (by omega)).trans (by rw [q_kh_up (by omega) (by decide)])) (fun c2 h => q_ka_same2 h) ?_
  refine qk_iinc (v := 6) hx [(1, .int 6), (0, .ref (G.2.1 + 53))] dX3_init_58 0 rfl (by decide) (by decide) rfl ?_
  refine qk_goto hx 36 dX3_init_61 (by decide) ?_
  refine qk_iload_n hx dX3_init_36 0 rfl ?_
  refine qk_aload_n hx dX3_init_37 1 rfl ?_
  refine qk_get (v := .ref (G.2.1 + 54)) hx q_fl_X3_11 dX3_init_38 (by omega) (by omega) q_ka_at rfl ?_
  refine qk_alen (v := 8) hx dX3_init_41 (by omega) (by omega) rfl (q_ka_arr (by omega)) (by decide) ?_
  refine qk_icmp_ge hx 64 dX3_init_42 (by decide) (fun h => absurd h (by decide)) (fun _ => ?_)
  refine qk_aload_n hx dX3_init_45 1 rfl ?_
  refine qk_get (v := .ref (G.2.1 + 54)) hx q_fl_X3_11 dX3_init_46 (by omega) (by omega) q_ka_at rfl ?_
  refine qk_iload_n hx dX3_init_49 0 rfl ?_
  refine qk_mk (n1 := 25) (ty := tyX2) (fs := [.int 0, .null, .null, .null, .null, .int 0, .int 0]) hx q_lay2 tyX2_ok q_cl_3_9 q_ins_2 q_ini_2 rfl q_df2 (c_X2_init (q_Xl X) G x 230 dr_230) q_ml_X3_17 q_mn_X2_init rfl q_mi_X2_init (by decide) (Nat.le_of_ble_eq_true rfl) (Nat.le_of_ble_eq_true rfl) (Nat.le_of_ble_eq_true rfl) dX3_init_50 dX3_init_53 dX3_init_54 (by omega) (by decide) (fun c h1 h2 => (q_ka_ne (by omega) (by omega))) ?_
  refine qk_aast (ci := 2) (e2 := q_ka G x 53 3 [.ref (G.2.1 + 54), .ref (G.2.1 + 55), .int 0, .int 0] 54 (.inl (G.2.2.1 4, 8, .inr (.inr (.inr (.inr (q_kh G 7))))))) hx rfl rfl (by omega) (by omega) (q_ka_arr (by omega)) (by omega) (by omega) ((q_ka_ne (by omega) (by omega)).trans (q_e2 dr_230.1)) q_vi8_6 dX3_init_57 ((q_ka_arr (by omega)).trans (by rw [q_kh_up (by omega) (by decide)])) (fun c2 h => q_ka_same2 h) ?_
  refine qk_iinc (v := 7) hx [(1, .int 7), (0, .ref (G.2.1 + 53))] dX3_init_58 0 rfl (by decide) (by decide) rfl ?_
  refine qk_goto hx 36 dX3_init_61 (by decide) ?_
  refine qk_iload_n hx dX3_init_36 0 rfl ?_
  refine qk_aload_n hx dX3_init_37 1 rfl ?_
  refine qk_get (v := .ref (G.2.1 + 54)) hx q_fl_X3_11 dX3_init_38 (by omega) (by omega) q_ka_at rfl ?_
  refine qk_alen (v := 8) hx dX3_init_41 (by omega) (by omega) rfl (q_ka_arr (by omega)) (by decide) ?_
  refine qk_icmp_ge hx 64 dX3_init_42 (by decide) (fun h => absurd h (by decide)) (fun _ => ?_)
  refine qk_aload_n hx dX3_init_45 1 rfl ?_
  refine qk_get (v := .ref (G.2.1 + 54)) hx q_fl_X3_11 dX3_init_46 (by omega) (by omega) q_ka_at rfl ?_
  refine qk_iload_n hx dX3_init_49 0 rfl ?_
  refine qk_mk (n1 := 25) (ty := tyX2) (fs := [.int 0, .null, .null, .null, .null, .int 0, .int 0]) hx q_lay2 tyX2_ok q_cl_3_9 q_ins_2 q_ini_2 rfl q_df2 (c_X2_init (q_Xl X) G x 255 dr_255) q_ml_X3_17 q_mn_X2_init rfl q_mi_X2_init (by decide) (Nat.le_of_ble_eq_true rfl) (Nat.le_of_ble_eq_true rfl) (Nat.le_of_ble_eq_true rfl) dX3_init_50 dX3_init_53 dX3_init_54 (by omega) (by decide) (fun c h1 h2 => (q_ka_ne (by omega) (by omega))) ?_
  refine qk_aast (ci := 2) (e2 := q_ka G x 53 3 [.ref (G.2.1 + 54), .ref (G.2.1 + 55), .int 0, .int 0] 54 (.inl (G.2.2.1 4, 8, .inr (.inr (.inr (.inr (q_kh G 8))))))) hx rfl rfl (by omega) (by omega) (q_ka_arr (by omega)) (by omega) (by omega) ((q_ka_ne (by omega) (by omega)).trans (q_e2 dr_255.1)) q_vi8_7 dX3_init_57 ((q_ka_arr (by omega)).trans (by rw [q_kh_up (by omega) (by decide)])) (fun c2 h => q_ka_same2 h) ?_
  refine qk_iinc (v := 8) hx [(1, .int 8), (0, .ref (G.2.1 + 53))] dX3_init_58 0 rfl (by decide) (by decide) rfl ?_
  refine qk_goto hx 36 dX3_init_61 (by decide) ?_
  refine qk_iload_n hx dX3_init_36 0 rfl ?_
  refine qk_aload_n hx dX3_init_37 1 rfl ?_
  refine qk_get (v := .ref (G.2.1 + 54)) hx q_fl_X3_11 dX3_init_38 (by omega) (by omega) q_ka_at rfl ?_
  refine qk_alen (v := 8) hx dX3_init_41 (by omega) (by omega) rfl (q_ka_arr (by omega)) (by decide) ?_
  refine qk_icmp_ge hx 64 dX3_init_42 (by decide) (fun _ => ?_) (fun h => absurd (by decide) h)
  refine qk_ret hx hr (Nat.le_refl _) (Nat.le_refl _) dX3_init_64 (by omega) (fun c h1 h2 => q_ka_fin ?_ ?_ c)
  · show Sum.inr _ = q_ent G (q_s0 53) x 53
    rw [q_e3 kd_53, q_s0_f kd_53 (by decide)]
    rfl
  · exact (q_ed kd_54).symm
set_option maxHeartbeats 8000000 in
set_option maxRecDepth 100000 in
theorem c_X0_init (l : Launch) (G : q_G) (x : q_A) : q_MetC l yX0_init cX0_init 1 1 2 101 G x 280 3 (.inr (0, [.null, .null])) := by
  refine q_ofC (by decide) rfl (Nat.le_of_ble_eq_true rfl) (fun X hl0 hx hr => ?_)
  subst hl0
  have hx : q_Cc X G RX0 cX0_init 1 1 2 101 280 := hx
  refine q_Wc.to (e2 := q_ko G x 280 0 [.null, .null]) (fun c _ h => rfl) ?_
  refine qk_aload_n hx dX0_init_0 0 rfl ?_
  refine qk_obj hx (by decide) q_ol_0_3 q_oi q_oc (Nat.le_of_ble_eq_true rfl) dX0_init_1 ?_
  refine qk_aload_n hx dX0_init_4 0 rfl ?_
  refine qk_bipush (v := 96) hx dX0_init_5 (by decide) ?_
  refine qk_na (t := 0) (N := 96) (ty := .int) (r := q_s0 281) hx rfl q_ac_int rfl (fun _ _ => rfl) rfl (by decide) (by decide) (Nat.le_of_ble_eq_true rfl) (Nat.le_of_ble_eq_true rfl) (Nat.le_of_ble_eq_true rfl) dX0_init_7 (by omega) ((q_ko_ne (by omega)).trans (q_ea0 kd_281 (by decide))) (q_s0_k kd_281 (by decide)) ?_
  refine qk_put (ty := tyX0 0) (e2 := q_ko G x 280 0 [.ref (G.2.1 + 281), .null]) hx rfl q_lay0 tyX0_ok nmX0 (by decide) q_fi_0_9 rfl rfl (by decide) (tyX0_ok 0 (by decide)) rfl rfl (Nat.le_of_ble_eq_true rfl) (by omega) (by omega) q_ko_at dX0_init_9 q_ko_at (fun c2 h => (q_ko_ne h).trans (q_ko_ne h).symm) ?_
  refine qk_aload_n hx dX0_init_12 0 rfl ?_
  refine qk_iconst (v := 5) hx dX0_init_13 (by decide) ?_
  refine qk_na (t := 0) (N := 5) (ty := .int) (r := q_s0 282) hx rfl q_ac_int rfl (fun _ _ => rfl) rfl (by decide) (by decide) (Nat.le_of_ble_eq_true rfl) (Nat.le_of_ble_eq_true rfl) (Nat.le_of_ble_eq_true rfl) dX0_init_14 (by omega) ((q_ko_ne (by omega)).trans (q_ea0 kd_282 (by decide))) (q_s0_k kd_282 (by decide)) ?_
  refine qk_put (ty := tyX0 1) (e2 := q_ko G x 280 0 [.ref (G.2.1 + 281), .ref (G.2.1 + 282)]) hx rfl q_lay0 tyX0_ok nmX0 (by decide) q_fi_0_15 rfl rfl (by decide) (tyX0_ok 1 (by decide)) rfl rfl (Nat.le_of_ble_eq_true rfl) (by omega) (by omega) q_ko_at dX0_init_16 q_ko_at (fun c2 h => (q_ko_ne h).trans (q_ko_ne h).symm) ?_
  refine qk_ret hx hr (Nat.le_refl _) (Nat.le_refl _) dX0_init_19 (by omega) (fun c h1 h2 => q_ko_fin ?_ c)
  show Sum.inr _ = q_ent G (q_s0 280) x 280
  rw [q_e0 kd_280, q_s0_f kd_280 (by decide)]
  rfl
set_option maxHeartbeats 8000000 in
set_option maxRecDepth 100000 in
theorem c_X1_init (l : Launch) (G : q_G) (x : q_A) : q_MetC l yX1_init cX1_init 1 1 5 43 G x 284 6 (.inr (1, [.int 0, .null, .null, .null, .null, .null])) := by
  refine q_ofC (by decide) rfl (Nat.le_of_ble_eq_true rfl) (fun X hl0 hx hr => ?_)
  subst hl0
  have hx : q_Cc X G RX1 cX1_init 1 1 5 43 284 := hx
  refine q_Wc.to (e2 := q_ko G x 284 1 [.int 0, .null, .null, .null, .null, .null]) (fun c _ h => rfl) ?_
  refine qk_aload_n hx dX1_init_0 0 rfl ?_
  refine qk_obj hx (by decide) q_ol_1_3 q_oi q_oc (Nat.le_of_ble_eq_true rfl) dX1_init_1 ?_
  refine qk_aload_n hx dX1_init_4 0 rfl ?_
  refine qk_iconst (v := 0) hx dX1_init_5 (by decide) ?_
  refine qk_put (ty := tyX1 0) (e2 := q_ko G x 284 1 [.int 0, .null, .null, .null, .null, .null]) hx rfl q_lay1 tyX1_ok nmX1 (by decide) q_fi_1_9 rfl rfl (by decide) (tyX1_ok 0 (by decide)) rfl rfl (Nat.le_of_ble_eq_true rfl) (by omega) (by omega) q_ko_at dX1_init_6 q_ko_at (fun c2 h => (q_ko_ne h).trans (q_ko_ne h).symm) ?_
  refine qk_aload_n hx dX1_init_9 0 rfl ?_
  refine qk_bipush (v := 10) hx dX1_init_10 (by decide) ?_
  refine qk_na (t := 0) (N := 10) (ty := .int) (r := q_s0 285) hx rfl q_ac_int rfl (fun _ _ => rfl) rfl (by decide) (by decide) (Nat.le_of_ble_eq_true rfl) (Nat.le_of_ble_eq_true rfl) (Nat.le_of_ble_eq_true rfl) dX1_init_12 (by omega) ((q_ko_ne (by omega)).trans (q_ea0 kd_285 (by decide))) (q_s0_k kd_285 (by decide)) ?_
  refine qk_put (ty := tyX1 1) (e2 := q_ko G x 284 1 [.int 0, .ref (G.2.1 + 285), .null, .null, .null, .null]) hx rfl q_lay1 tyX1_ok nmX1 (by decide) q_fi_1_15 rfl rfl (by decide) (tyX1_ok 1 (by decide)) rfl rfl (Nat.le_of_ble_eq_true rfl) (by omega) (by omega) q_ko_at dX1_init_14 q_ko_at (fun c2 h => (q_ko_ne h).trans (q_ko_ne h).symm) ?_
  refine qk_aload_n hx dX1_init_17 0 rfl ?_
  refine qk_bipush (v := 10) hx dX1_init_18 (by decide) ?_
  refine qk_na (t := 0) (N := 10) (ty := .int) (r := q_s0 286) hx rfl q_ac_int rfl (fun _ _ => rfl) rfl (by decide) (by decide) (Nat.le_of_ble_eq_true rfl) (Nat.le_of_ble_eq_true rfl) (Nat.le_of_ble_eq_true rfl) dX1_init_20 (by omega) ((q_ko_ne (by omega)).trans (q_ea0 kd_286 (by decide))) (q_s0_k kd_286 (by decide)) ?_
  refine qk_put (ty := tyX1 2) (e2 := q_ko G x 284 1 [.int 0, .ref (G.2.1 + 285), .ref (G.2.1 + 286), .null, .null, .null]) hx rfl q_lay1 tyX1_ok nmX1 (by decide) q_fi_1_19 rfl rfl (by decide) (tyX1_ok 2 (by decide)) rfl rfl (Nat.le_of_ble_eq_true rfl) (by omega) (by omega) q_ko_at dX1_init_22 q_ko_at (fun c2 h => (q_ko_ne h).trans (q_ko_ne h).symm) ?_
  refine qk_aload_n hx dX1_init_25 0 rfl ?_
  refine qk_bipush (v := 10) hx dX1_init_26 (by decide) ?_
  refine qk_na (t := 0) (N := 10) (ty := .int) (r := q_s0 287) hx rfl q_ac_int rfl (fun _ _ => rfl) rfl (by decide) (by decide) (Nat.le_of_ble_eq_true rfl) (Nat.le_of_ble_eq_true rfl) (Nat.le_of_ble_eq_true rfl) dX1_init_28 (by omega) ((q_ko_ne (by omega)).trans (q_ea0 kd_287 (by decide))) (q_s0_k kd_287 (by decide)) ?_
  refine qk_put (ty := tyX1 3) (e2 := q_ko G x 284 1 [.int 0, .ref (G.2.1 + 285), .ref (G.2.1 + 286), .ref (G.2.1 + 287), .null, .null]) hx rfl q_lay1 tyX1_ok nmX1 (by decide) q_fi_1_22 rfl rfl (by decide) (tyX1_ok 3 (by decide)) rfl rfl (Nat.le_of_ble_eq_true rfl) (by omega) (by omega) q_ko_at dX1_init_30 q_ko_at (fun c2 h => (q_ko_ne h).trans (q_ko_ne h).symm) ?_
  refine qk_aload_n hx dX1_init_33 0 rfl ?_
  refine qk_bipush (v := 10) hx dX1_init_34 (by decide) ?_
  refine qk_na (t := 0) (N := 10) (ty := .int) (r := q_s0 288) hx rfl q_ac_int rfl (fun _ _ => rfl) rfl (by decide) (by decide) (Nat.le_of_ble_eq_true rfl) (Nat.le_of_ble_eq_true rfl) (Nat.le_of_ble_eq_true rfl) dX1_init_36 (by omega) ((q_ko_ne (by omega)).trans (q_ea0 kd_288 (by decide))) (q_s0_k kd_288 (by decide)) ?_
  refine qk_put (ty := tyX1 4) (e2 := q_ko G x 284 1 [.int 0, .ref (G.2.1 + 285), .ref (G.2.1 + 286), .ref (G.2.1 + 287), .ref (G.2.1 + 288), .null]) hx rfl q_lay1 tyX1_ok nmX1 (by decide) q_fi_1_25 rfl rfl (by decide) (tyX1_ok 4 (by decide)) rfl rfl (Nat.le_of_ble_eq_true rfl) (by omega) (by omega) q_ko_at dX1_init_38 q_ko_at (fun c2 h => (q_ko_ne h).trans (q_ko_ne h).symm) ?_
  refine qk_aload_n hx dX1_init_41 0 rfl ?_
  refine qk_iconst (v := 3) hx dX1_init_42 (by decide) ?_
  refine qk_na (t := 0) (N := 3) (ty := .int) (r := q_s0 289) hx rfl q_ac_int rfl (fun _ _ => rfl) rfl (by decide) (by decide) (Nat.le_of_ble_eq_true rfl) (Nat.le_of_ble_eq_true rfl) (Nat.le_of_ble_eq_true rfl) dX1_init_43 (by omega) ((q_ko_ne (by omega)).trans (q_ea0 kd_289 (by decide))) (q_s0_k kd_289 (by decide)) ?_
  refine qk_put (ty := tyX1 5) (e2 := q_ko G x 284 1 [.int 0, .ref (G.2.1 + 285), .ref (G.2.1 + 286), .ref (G.2.1 + 287), .ref (G.2.1 + 288), .ref (G.2.1 + 289)]) hx rfl q_lay1 tyX1_ok nmX1 (by decide) q_fi_1_28 rfl rfl (by decide) (tyX1_ok 5 (by decide)) rfl rfl (Nat.le_of_ble_eq_true rfl) (by omega) (by omega) q_ko_at dX1_init_45 q_ko_at (fun c2 h => (q_ko_ne h).trans (q_ko_ne h).symm) ?_
  refine qk_ret hx hr (Nat.le_refl _) (Nat.le_refl _) dX1_init_48 (by omega) (fun c h1 h2 => q_ko_fin ?_ c)
  show Sum.inr _ = q_ent G (q_s0 284) x 284
  rw [q_e1 kd_284, q_s0_f kd_284 (by decide)]
  rfl
set_option maxHeartbeats 8000000 in
set_option maxRecDepth 100000 in
theorem c_X4_init (l : Launch) (G : q_G) (x : q_A) : q_MetC l yX4_init cX4_init 1 1 1 39 G x 290 2 (.inr (4, [.null, .int 0])) := by
  refine q_ofC (by decide) rfl (Nat.le_of_ble_eq_true rfl) (fun X hl0 hx hr => ?_)
  subst hl0
  have hx : q_Cc X G RX4 cX4_init 1 1 1 39 290 := hx
  refine q_Wc.to (e2 := q_ko G x 290 4 [.null, .int 0]) (fun c _ h => rfl) ?_
  refine qk_aload_n hx dX4_init_0 0 rfl ?_
  refine qk_obj hx (by decide) q_ol_4_3 q_oi q_oc (Nat.le_of_ble_eq_true rfl) dX4_init_1 ?_
  refine qk_aload_n hx dX4_init_4 0 rfl ?_
  refine qk_bipush (v := 39) hx dX4_init_5 (by decide) ?_
  refine qk_na (t := 1) (N := 39) (ty := .char) (r := q_s0 291) hx rfl q_ac_char rfl (fun _ _ => rfl) rfl (by decide) (by decide) (Nat.le_of_ble_eq_true rfl) (Nat.le_of_ble_eq_true rfl) (Nat.le_of_ble_eq_true rfl) dX4_init_7 (by omega) ((q_ko_ne (by omega)).trans (q_ea1 kd_291 (by decide))) (q_s0_k kd_291 (by decide)) ?_
  refine qk_put (ty := tyX4 0) (e2 := q_ko G x 290 4 [.ref (G.2.1 + 291), .int 0]) hx rfl q_lay4 tyX4_ok nmX4 (by decide) q_fi_4_9 rfl rfl (by decide) (tyX4_ok 0 (by decide)) rfl rfl (Nat.le_of_ble_eq_true rfl) (by omega) (by omega) q_ko_at dX4_init_9 q_ko_at (fun c2 h => (q_ko_ne h).trans (q_ko_ne h).symm) ?_
  refine qk_aload_n hx dX4_init_12 0 rfl ?_
  refine qk_iconst (v := 0) hx dX4_init_13 (by decide) ?_
  refine qk_put (ty := tyX4 1) (e2 := q_ko G x 290 4 [.ref (G.2.1 + 291), .int 0]) hx rfl q_lay4 tyX4_ok nmX4 (by decide) q_fi_4_15 rfl rfl (by decide) (tyX4_ok 1 (by decide)) rfl rfl (Nat.le_of_ble_eq_true rfl) (by omega) (by omega) q_ko_at dX4_init_14 q_ko_at (fun c2 h => (q_ko_ne h).trans (q_ko_ne h).symm) ?_
  refine qk_ret hx hr (Nat.le_refl _) (Nat.le_refl _) dX4_init_17 (by omega) (fun c h1 h2 => q_ko_fin ?_ c)
  show Sum.inr _ = q_ent G (q_s0 290) x 290
  rw [q_e4 kd_290, q_s0_f kd_290 (by decide)]
  rfl
set_option maxHeartbeats 8000000 in
set_option maxRecDepth 100000 in
theorem c_X9_init (l : Launch) (G : q_G) (x : q_A) : q_MetC l yX9_init cX9_init 1 4 291 3472 G x 0 292 (.inr (9, [.null, .null, .null, .null, .int 0, .null, .null, .null, .int 0, .null, .int 0, .null])) := by
  refine q_ofC (by decide) rfl (Nat.le_of_ble_eq_true rfl) (fun X hl0 hx hr => ?_)
  subst hl0
  have hx : q_Cc X G RX9 cX9_init 1 4 291 3472 0 := hx
  refine q_Wc.to (e2 := q_ko G x 0 9 [.null, .null, .null, .null, .int 0, .null, .null, .null, .int 0, .null, .int 0, .null]) (fun c _ h => rfl) ?_
  refine qk_aload_n hx dX9_init_0 0 rfl ?_
  refine qk_obj hx (by decide) q_ol_9_3 q_oi q_oc (Nat.le_of_ble_eq_true rfl) dX9_init_1 ?_
  refine qk_aload_n hx dX9_init_4 0 rfl ?_
  refine qk_mk (n1 := 27) (ty := tyX8) (fs := [.null, .null]) hx q_lay8 tyX8_ok q_cl_9_9 q_ins_8 q_ini_8 rfl q_df8 (c_X8_init (q_Xl X) G x) q_ml_X9_11 q_mn_X8_init rfl q_mi_X8_init (by decide) (Nat.le_of_ble_eq_true rfl) (Nat.le_of_ble_eq_true rfl) (Nat.le_of_ble_eq_true rfl) dX9_init_5 dX9_init_8 dX9_init_9 (by omega) (by decide) (fun c h1 h2 => (q_ko_ne (by omega))) ?_
  refine qk_put (ty := tyX9 0) (e2 := q_ko G x 0 9 [.ref (G.2.1 + 1), .null, .null, .null, .int 0, .null, .null, .null, .int 0, .null, .int 0, .null]) hx rfl q_lay9 tyX9_ok nmX9 (by decide) q_fi_9_12 rfl rfl (by decide) (tyX9_ok 0 (by decide)) rfl rfl (Nat.le_of_ble_eq_true rfl) (by omega) (by omega) q_ko_at dX9_init_12 q_ko_at (fun c2 h => (q_ko_ne h).trans (q_ko_ne h).symm) ?_
  refine qk_aload_n hx dX9_init_15 0 rfl ?_
  refine qk_aload_n hx dX9_init_16 0 rfl ?_
  refine qk_get (v := .ref (G.2.1 + 1)) hx q_fl_X9_12 dX9_init_17 (by omega) (by omega) q_ko_at rfl ?_
  refine qk_get (v := .ref (G.2.1 + 2)) hx q_fl_X9_16 dX9_init_20 (by omega) (by omega) ((q_ko_ne (by omega)).trans (q_e8 kd_1)) rfl ?_
  refine qk_put (ty := tyX9 1) (e2 := q_ko G x 0 9 [.ref (G.2.1 + 1), .ref (G.2.1 + 2), .null, .null, .int 0, .null, .null, .null, .int 0, .null, .int 0, .null]) hx rfl q_lay9 tyX9_ok nmX9 (by decide) q_fi_9_20 rfl rfl (by decide) (tyX9_ok 1 (by decide)) rfl rfl (Nat.le_of_ble_eq_true rfl) (by omega) (by omega) q_ko_at dX9_init_23 q_ko_at (fun c2 h => (q_ko_ne h).trans (q_ko_ne h).symm) ?_
  refine qk_aload_n hx dX9_init_26 0 rfl ?_
  refine qk_aload_n hx dX9_init_27 0 rfl ?_
  refine qk_get (v := .ref (G.2.1 + 1)) hx q_fl_X9_12 dX9_init_28 (by omega) (by omega) q_ko_at rfl ?_
  refine qk_get (v := .ref (G.2.1 + 27)) hx q_fl_X9_23 dX9_init_31 (by omega) (by omega) ((q_ko_ne (by omega)).trans (q_e8 kd_1)) rfl ?_
  refine qk_put (ty := tyX9 2) (e2 := q_ko G x 0 9 [.ref (G.2.1 + 1), .ref (G.2.1 + 2), .ref (G.2.1 + 27), .null, .int 0, .null, .null, .null, .int 0, .null, .int 0, .null]) hx rfl q_lay9 tyX9_ok nmX9 (by decide) q_fi_9_27 rfl rfl (by decide) (tyX9_ok 2 (by decide)) rfl rfl (Nat.le_of_ble_eq_true rfl) (by omega) (by omega) q_ko_at dX9_init_34 q_ko_at (fun c2 h => (q_ko_ne h).trans (q_ko_ne h).symm) ?_
  refine qk_aload_n hx dX9_init_37 0 rfl ?_
  refine qk_mk (n1 := 25) (ty := tyX2) (fs := [.int 0, .null, .null, .null, .null, .int 0, .int 0]) hx q_lay2 tyX2_ok q_cl_9_30 q_ins_2 q_ini_2 rfl q_df2 (c_X2_init (q_Xl X) G x 28 dr_28) q_ml_X9_32 q_mn_X2_init rfl q_mi_X2_init (by decide) (Nat.le_of_ble_eq_true rfl) (Nat.le_of_ble_eq_true rfl) (Nat.le_of_ble_eq_true rfl) dX9_init_38 dX9_init_41 dX9_init_42 (by omega) (by decide) (fun c h1 h2 => (q_ko_ne (by omega))) ?_
  refine qk_put (ty := tyX9 3) (e2 := q_ko G x 0 9 [.ref (G.2.1 + 1), .ref (G.2.1 + 2), .ref (G.2.1 + 27), .ref (G.2.1 + 28), .int 0, .null, .null, .null, .int 0, .null, .int 0, .null]) hx rfl q_lay9 tyX9_ok nmX9 (by decide) q_fi_9_33 rfl rfl (by decide) (tyX9_ok 3 (by decide)) rfl rfl (Nat.le_of_ble_eq_true rfl) (by omega) (by omega) q_ko_at dX9_init_45 q_ko_at (fun c2 h => (q_ko_ne h).trans (q_ko_ne h).symm) ?_
  refine qk_aload_n hx dX9_init_48 0 rfl ?_
  refine qk_iconst (v := 0) hx dX9_init_49 (by decide) ?_
  refine qk_put (ty := tyX9 4) (e2 := q_ko G x 0 9 [.ref (G.2.1 + 1), .ref (G.2.1 + 2), .ref (G.2.1 + 27), .ref (G.2.1 + 28), .int 0, .null, .null, .null, .int 0, .null, .int 0, .null]) hx rfl q_lay9 tyX9_ok nmX9 (by decide) q_fi_9_36 rfl rfl (by decide) (tyX9_ok 4 (by decide)) rfl rfl (Nat.le_of_ble_eq_true rfl) (by omega) (by omega) q_ko_at dX9_init_50 q_ko_at (fun c2 h => (q_ko_ne h).trans (q_ko_ne h).symm) ?_
  refine qk_aload_n hx dX9_init_53 0 rfl ?_
  refine qk_mk (n1 := 227) (ty := tyX3) (fs := [.null, .null, .int 0, .int 0]) hx q_lay3 tyX3_ok q_cl_9_40 q_ins_3 q_ini_3 rfl q_df3 (c_X3_init (q_Xl X) G x) q_ml_X9_42 q_mn_X3_init rfl q_mi_X3_init (by decide) (Nat.le_of_ble_eq_true rfl) (Nat.le_of_ble_eq_true rfl) (Nat.le_of_ble_eq_true rfl) dX9_init_54 dX9_init_57 dX9_init_58 (by omega) (by decide) (fun c h1 h2 => (q_ko_ne (by omega))) ?_
  refine qk_put (ty := tyX9 5) (e2 := q_ko G x 0 9 [.ref (G.2.1 + 1), .ref (G.2.1 + 2), .ref (G.2.1 + 27), .ref (G.2.1 + 28), .int 0, .ref (G.2.1 + 53), .null, .null, .int 0, .null, .int 0, .null]) hx rfl q_lay9 tyX9_ok nmX9 (by decide) q_fi_9_43 rfl rfl (by decide) (tyX9_ok 5 (by decide)) rfl rfl (Nat.le_of_ble_eq_true rfl) (by omega) (by omega) q_ko_at dX9_init_61 q_ko_at (fun c2 h => (q_ko_ne h).trans (q_ko_ne h).symm) ?_
  refine qk_aload_n hx dX9_init_64 0 rfl ?_
  refine qk_mk (n1 := 3) (ty := tyX0) (fs := [.null, .null]) hx q_lay0 tyX0_ok q_cl_9_47 q_ins_0 q_ini_0 rfl q_df0 (c_X0_init (q_Xl X) G x) q_ml_X9_49 q_mn_X0_init rfl q_mi_X0_init (by decide) (Nat.le_of_ble_eq_true rfl) (Nat.le_of_ble_eq_true rfl) (Nat.le_of_ble_eq_true rfl) dX9_init_65 dX9_init_68 dX9_init_69 (by omega) (by decide) (fun c h1 h2 => (q_ko_ne (by omega))) ?_
  refine qk_put (ty := tyX9 6) (e2 := q_ko G x 0 9 [.ref (G.2.1 + 1), .ref (G.2.1 + 2), .ref (G.2.1 + 27), .ref (G.2.1 + 28), .int 0, .ref (G.2.1 + 53), .ref (G.2.1 + 280), .null, .int 0, .null, .int 0, .null]) hx rfl q_lay9 tyX9_ok nmX9 (by decide) q_fi_9_50 rfl rfl (by decide) (tyX9_ok 6 (by decide)) rfl rfl (Nat.le_of_ble_eq_true rfl) (by omega) (by omega) q_ko_at dX9_init_72 q_ko_at (fun c2 h => (q_ko_ne h).trans (q_ko_ne h).symm) ?_
  refine qk_aload_n hx dX9_init_75 0 rfl ?_
  refine qk_bipush (v := 60) hx dX9_init_76 (by decide) ?_
  refine qk_na (t := 1) (N := 60) (ty := .char) (r := q_s0 283) hx rfl q_ac_char rfl (fun _ _ => rfl) rfl (by decide) (by decide) (Nat.le_of_ble_eq_true rfl) (Nat.le_of_ble_eq_true rfl) (Nat.le_of_ble_eq_true rfl) dX9_init_78 (by omega) ((q_ko_ne (by omega)).trans (q_ea1 kd_283 (by decide))) (q_s0_k kd_283 (by decide)) ?_
  refine qk_put (ty := tyX9 7) (e2 := q_ko G x 0 9 [.ref (G.2.1 + 1), .ref (G.2.1 + 2), .ref (G.2.1 + 27), .ref (G.2.1 + 28), .int 0, .ref (G.2.1 + 53), .ref (G.2.1 + 280), .ref (G.2.1 + 283), .int 0, .null, .int 0, .null]) hx rfl q_lay9 tyX9_ok nmX9 (by decide) q_fi_9_54 rfl rfl (by decide) (tyX9_ok 7 (by decide)) rfl rfl (Nat.le_of_ble_eq_true rfl) (by omega) (by omega) q_ko_at dX9_init_80 q_ko_at (fun c2 h => (q_ko_ne h).trans (q_ko_ne h).symm) ?_
  refine qk_aload_n hx dX9_init_83 0 rfl ?_
  refine qk_iconst (v := 0) hx dX9_init_84 (by decide) ?_
  refine qk_put (ty := tyX9 8) (e2 := q_ko G x 0 9 [.ref (G.2.1 + 1), .ref (G.2.1 + 2), .ref (G.2.1 + 27), .ref (G.2.1 + 28), .int 0, .ref (G.2.1 + 53), .ref (G.2.1 + 280), .ref (G.2.1 + 283), .int 0, .null, .int 0, .null]) hx rfl q_lay9 tyX9_ok nmX9 (by decide) q_fi_9_58 rfl rfl (by decide) (tyX9_ok 8 (by decide)) rfl rfl (Nat.le_of_ble_eq_true rfl) (by omega) (by omega) q_ko_at dX9_init_85 q_ko_at (fun c2 h => (q_ko_ne h).trans (q_ko_ne h).symm) ?_
  refine qk_aload_n hx dX9_init_88 0 rfl ?_
  refine qk_mk (n1 := 6) (ty := tyX1) (fs := [.int 0, .null, .null, .null, .null, .null]) hx q_lay1 tyX1_ok q_cl_9_62 q_ins_1 q_ini_1 rfl q_df1 (c_X1_init (q_Xl X) G x) q_ml_X9_64 q_mn_X1_init rfl q_mi_X1_init (by decide) (Nat.le_of_ble_eq_true rfl) (Nat.le_of_ble_eq_true rfl) (Nat.le_of_ble_eq_true rfl) dX9_init_89 dX9_init_92 dX9_init_93 (by omega) (by decide) (fun c h1 h2 => (q_ko_ne (by omega))) ?_
  refine qk_put (ty := tyX9 9) (e2 := q_ko G x 0 9 [.ref (G.2.1 + 1), .ref (G.2.1 + 2), .ref (G.2.1 + 27), .ref (G.2.1 + 28), .int 0, .ref (G.2.1 + 53), .ref (G.2.1 + 280), .ref (G.2.1 + 283), .int 0, .ref (G.2.1 + 284), .int 0, .null]) hx rfl q_lay9 tyX9_ok nmX9 (by decide) q_fi_9_65 rfl rfl (by decide) (tyX9_ok 9 (by decide)) rfl rfl (Nat.le_of_ble_eq_true rfl) (by omega) (by omega) q_ko_at dX9_init_96 q_ko_at (fun c2 h => (q_ko_ne h).trans (q_ko_ne h).symm) ?_
  refine qk_aload_n hx dX9_init_99 0 rfl ?_
  refine qk_iconst (v := (-1)) hx dX9_init_100 (by decide) ?_
  refine qk_put (ty := tyX9 10) (e2 := q_ko G x 0 9 [.ref (G.2.1 + 1), .ref (G.2.1 + 2), .ref (G.2.1 + 27), .ref (G.2.1 + 28), .int 0, .ref (G.2.1 + 53), .ref (G.2.1 + 280), .ref (G.2.1 + 283), .int 0, .ref (G.2.1 + 284), .int (-1), .null]) hx rfl q_lay9 tyX9_ok nmX9 (by decide) q_fi_9_69 rfl rfl (by decide) (tyX9_ok 10 (by decide)) rfl rfl (Nat.le_of_ble_eq_true rfl) (by omega) (by omega) q_ko_at dX9_init_101 q_ko_at (fun c2 h => (q_ko_ne h).trans (q_ko_ne h).symm) ?_
  refine qk_aload_n hx dX9_init_104 0 rfl ?_
  refine qk_mk (n1 := 2) (ty := tyX4) (fs := [.null, .int 0]) hx q_lay4 tyX4_ok q_cl_9_72 q_ins_4 q_ini_4 rfl q_df4 (c_X4_init (q_Xl X) G x) q_ml_X9_74 q_mn_X4_init rfl q_mi_X4_init (by decide) (Nat.le_of_ble_eq_true rfl) (Nat.le_of_ble_eq_true rfl) (Nat.le_of_ble_eq_true rfl) dX9_init_105 dX9_init_108 dX9_init_109 (by omega) (by decide) (fun c h1 h2 => (q_ko_ne (by omega))) ?_
  refine qk_put (ty := tyX9 11) (e2 := q_ko G x 0 9 [.ref (G.2.1 + 1), .ref (G.2.1 + 2), .ref (G.2.1 + 27), .ref (G.2.1 + 28), .int 0, .ref (G.2.1 + 53), .ref (G.2.1 + 280), .ref (G.2.1 + 283), .int 0, .ref (G.2.1 + 284), .int (-1), .ref (G.2.1 + 290)]) hx rfl q_lay9 tyX9_ok nmX9 (by decide) q_fi_9_75 rfl rfl (by decide) (tyX9_ok 11 (by decide)) rfl rfl (Nat.le_of_ble_eq_true rfl) (by omega) (by omega) q_ko_at dX9_init_112 q_ko_at (fun c2 h => (q_ko_ne h).trans (q_ko_ne h).symm) ?_
  refine qk_ret hx hr (Nat.le_refl _) (Nat.le_refl _) dX9_init_115 (by omega) (fun c h1 h2 => q_ko_fin ?_ c)
  show Sum.inr _ = q_ent G (q_s0 0) x 0
  rw [q_e9 kd_0]
  rfl
set_option maxHeartbeats 8000000 in
set_option maxRecDepth 100000 in
theorem c_X10_init (l : Launch) (G : q_G) (x : q_A) : q_MetC l yX10_init cX10_init 1 1 10 2790 G x 292 11 (.inr (10, [.null, .null, .null, .null, .int 0, .int 0, .int 0, .int 0, .int 0, .int 0, .int 0, .int 0, .int 0, .int 0, .int 0, .int 0, .null, .int 0, .null, .null, .null, .null, .int 0, .int 0, .int 0, .int 0, .int 0, .int 0, .null, .int 0])) := by
  refine q_ofC (by decide) rfl (Nat.le_of_ble_eq_true rfl) (fun X hl0 hx hr => ?_)
  subst hl0
  have hx : q_Cc X G RX10 cX10_init 1 1 10 2790 292 := hx
  refine q_Wc.to (e2 := q_ko G x 292 10 [.null, .null, .null, .null, .int 0, .int 0, .int 0, .int 0, .int 0, .int 0, .int 0, .int 0, .int 0, .int 0, .int 0, .int 0, .null, .int 0, .null, .null, .null, .null, .int 0, .int 0, .int 0, .int 0, .int 0, .int 0, .null, .int 0]) (fun c _ h => rfl) ?_
  refine qk_aload_n hx dX10_init_0 0 rfl ?_
  refine qk_obj hx (by decide) q_ol_10_1 q_oi q_oc (Nat.le_of_ble_eq_true rfl) dX10_init_1 ?_
  refine qk_aload_n hx dX10_init_4 0 rfl ?_
  refine qk_sipush (v := 220) hx dX10_init_5 (by decide) ?_
  refine qk_na (t := 0) (N := 220) (ty := .int) (r := q_s0 293) hx rfl q_ac_int rfl (fun _ _ => rfl) rfl (by decide) (by decide) (Nat.le_of_ble_eq_true rfl) (Nat.le_of_ble_eq_true rfl) (Nat.le_of_ble_eq_true rfl) dX10_init_8 (by omega) ((q_ko_ne (by omega)).trans (q_ea0 kd_293 (by decide))) (q_s0_k kd_293 (by decide)) ?_
  refine qk_put (ty := tyX10 0) (e2 := q_ko G x 292 10 [.ref (G.2.1 + 293), .null, .null, .null, .int 0, .int 0, .int 0, .int 0, .int 0, .int 0, .int 0, .int 0, .int 0, .int 0, .int 0, .int 0, .null, .int 0, .null, .null, .null, .null, .int 0, .int 0, .int 0, .int 0, .int 0, .int 0, .null, .int 0]) hx rfl q_lay10 tyX10_ok nmX10 (by decide) q_fi_10_7 rfl rfl (by decide) (tyX10_ok 0 (by decide)) rfl rfl (Nat.le_of_ble_eq_true rfl) (by omega) (by omega) q_ko_at dX10_init_10 q_ko_at (fun c2 h => (q_ko_ne h).trans (q_ko_ne h).symm) ?_
  refine qk_aload_n hx dX10_init_13 0 rfl ?_
  refine qk_sipush (v := 220) hx dX10_init_14 (by decide) ?_
  refine qk_na (t := 0) (N := 220) (ty := .int) (r := q_s0 294) hx rfl q_ac_int rfl (fun _ _ => rfl) rfl (by decide) (by decide) (Nat.le_of_ble_eq_true rfl) (Nat.le_of_ble_eq_true rfl) (Nat.le_of_ble_eq_true rfl) dX10_init_17 (by omega) ((q_ko_ne (by omega)).trans (q_ea0 kd_294 (by decide))) (q_s0_k kd_294 (by decide)) ?_
  refine qk_put (ty := tyX10 1) (e2 := q_ko G x 292 10 [.ref (G.2.1 + 293), .ref (G.2.1 + 294), .null, .null, .int 0, .int 0, .int 0, .int 0, .int 0, .int 0, .int 0, .int 0, .int 0, .int 0, .int 0, .int 0, .null, .int 0, .null, .null, .null, .null, .int 0, .int 0, .int 0, .int 0, .int 0, .int 0, .null, .int 0]) hx rfl q_lay10 tyX10_ok nmX10 (by decide) q_fi_10_13 rfl rfl (by decide) (tyX10_ok 1 (by decide)) rfl rfl (Nat.le_of_ble_eq_true rfl) (by omega) (by omega) q_ko_at dX10_init_19 q_ko_at (fun c2 h => (q_ko_ne h).trans (q_ko_ne h).symm) ?_
  refine qk_aload_n hx dX10_init_22 0 rfl ?_
  refine qk_sipush (v := 220) hx dX10_init_23 (by decide) ?_
  refine qk_na (t := 0) (N := 220) (ty := .int) (r := q_s0 295) hx rfl q_ac_int rfl (fun _ _ => rfl) rfl (by decide) (by decide) (Nat.le_of_ble_eq_true rfl) (Nat.le_of_ble_eq_true rfl) (Nat.le_of_ble_eq_true rfl) dX10_init_26 (by omega) ((q_ko_ne (by omega)).trans (q_ea0 kd_295 (by decide))) (q_s0_k kd_295 (by decide)) ?_
  refine qk_put (ty := tyX10 2) (e2 := q_ko G x 292 10 [.ref (G.2.1 + 293), .ref (G.2.1 + 294), .ref (G.2.1 + 295), .null, .int 0, .int 0, .int 0, .int 0, .int 0, .int 0, .int 0, .int 0, .int 0, .int 0, .int 0, .int 0, .null, .int 0, .null, .null, .null, .null, .int 0, .int 0, .int 0, .int 0, .int 0, .int 0, .null, .int 0]) hx rfl q_lay10 tyX10_ok nmX10 (by decide) q_fi_10_16 rfl rfl (by decide) (tyX10_ok 2 (by decide)) rfl rfl (Nat.le_of_ble_eq_true rfl) (by omega) (by omega) q_ko_at dX10_init_28 q_ko_at (fun c2 h => (q_ko_ne h).trans (q_ko_ne h).symm) ?_
  refine qk_aload_n hx dX10_init_31 0 rfl ?_
  refine qk_sipush (v := 1760) hx dX10_init_32 (by decide) ?_
  refine qk_na (t := 0) (N := 1760) (ty := .int) (r := q_s0 296) hx rfl q_ac_int rfl (fun _ _ => rfl) rfl (by decide) (by decide) (Nat.le_of_ble_eq_true rfl) (Nat.le_of_ble_eq_true rfl) (Nat.le_of_ble_eq_true rfl) dX10_init_35 (by omega) ((q_ko_ne (by omega)).trans (q_ea0 kd_296 (by decide))) (q_s0_k kd_296 (by decide)) ?_
  refine qk_put (ty := tyX10 3) (e2 := q_ko G x 292 10 [.ref (G.2.1 + 293), .ref (G.2.1 + 294), .ref (G.2.1 + 295), .ref (G.2.1 + 296), .int 0, .int 0, .int 0, .int 0, .int 0, .int 0, .int 0, .int 0, .int 0, .int 0, .int 0, .int 0, .null, .int 0, .null, .null, .null, .null, .int 0, .int 0, .int 0, .int 0, .int 0, .int 0, .null, .int 0]) hx rfl q_lay10 tyX10_ok nmX10 (by decide) q_fi_10_19 rfl rfl (by decide) (tyX10_ok 3 (by decide)) rfl rfl (Nat.le_of_ble_eq_true rfl) (by omega) (by omega) q_ko_at dX10_init_37 q_ko_at (fun c2 h => (q_ko_ne h).trans (q_ko_ne h).symm) ?_
  refine qk_aload_n hx dX10_init_40 0 rfl ?_
  refine qk_iconst (v := 0) hx dX10_init_41 (by decide) ?_
  refine qk_put (ty := tyX10 4) (e2 := q_ko G x 292 10 [.ref (G.2.1 + 293), .ref (G.2.1 + 294), .ref (G.2.1 + 295), .ref (G.2.1 + 296), .int 0, .int 0, .int 0, .int 0, .int 0, .int 0, .int 0, .int 0, .int 0, .int 0, .int 0, .int 0, .null, .int 0, .null, .null, .null, .null, .int 0, .int 0, .int 0, .int 0, .int 0, .int 0, .null, .int 0]) hx rfl q_lay10 tyX10_ok nmX10 (by decide) q_fi_10_22 rfl rfl (by decide) (tyX10_ok 4 (by decide)) rfl rfl (Nat.le_of_ble_eq_true rfl) (by omega) (by omega) q_ko_at dX10_init_42 q_ko_at (fun c2 h => (q_ko_ne h).trans (q_ko_ne h).symm) ?_
  refine qk_aload_n hx dX10_init_45 0 rfl ?_
  refine qk_iconst (v := 0) hx dX10_init_46 (by decide) ?_
  refine qk_put (ty := tyX10 5) (e2 := q_ko G x 292 10 [.ref (G.2.1 + 293), .ref (G.2.1 + 294), .ref (G.2.1 + 295), .ref (G.2.1 + 296), .int 0, .int 0, .int 0, .int 0, .int 0, .int 0, .int 0, .int 0, .int 0, .int 0, .int 0, .int 0, .null, .int 0, .null, .null, .null, .null, .int 0, .int 0, .int 0, .int 0, .int 0, .int 0, .null, .int 0]) hx rfl q_lay10 tyX10_ok nmX10 (by decide) q_fi_10_26 rfl rfl (by decide) (tyX10_ok 5 (by decide)) rfl rfl (Nat.le_of_ble_eq_true rfl) (by omega) (by omega) q_ko_at dX10_init_47 q_ko_at (fun c2 h => (q_ko_ne h).trans (q_ko_ne h).symm) ?_
  refine qk_aload_n hx dX10_init_50 0 rfl ?_
  refine qk_iconst (v := 0) hx dX10_init_51 (by decide) ?_
  refine qk_put (ty := tyX10 6) (e2 := q_ko G x 292 10 [.ref (G.2.1 + 293), .ref (G.2.1 + 294), .ref (G.2.1 + 295), .ref (G.2.1 + 296), .int 0, .int 0, .int 0, .int 0, .int 0, .int 0, .int 0, .int 0, .int 0, .int 0, .int 0, .int 0, .null, .int 0, .null, .null, .null, .null, .int 0, .int 0, .int 0, .int 0, .int 0, .int 0, .null, .int 0]) hx rfl q_lay10 tyX10_ok nmX10 (by decide) q_fi_10_29 rfl rfl (by decide) (tyX10_ok 6 (by decide)) rfl rfl (Nat.le_of_ble_eq_true rfl) (by omega) (by omega) q_ko_at dX10_init_52 q_ko_at (fun c2 h => (q_ko_ne h).trans (q_ko_ne h).symm) ?_
  refine qk_aload_n hx dX10_init_55 0 rfl ?_
  refine qk_iconst (v := 0) hx dX10_init_56 (by decide) ?_
  refine qk_put (ty := tyX10 7) (e2 := q_ko G x 292 10 [.ref (G.2.1 + 293), .ref (G.2.1 + 294), .ref (G.2.1 + 295), .ref (G.2.1 + 296), .int 0, .int 0, .int 0, .int 0, .int 0, .int 0, .int 0, .int 0, .int 0, .int 0, .int 0, .int 0, .null, .int 0, .null, .null, .null, .null, .int 0, .int 0, .int 0, .int 0, .int 0, .int 0, .null, .int 0]) hx rfl q_lay10 tyX10_ok nmX10 (by decide) q_fi_10_32 rfl rfl (by decide) (tyX10_ok 7 (by decide)) rfl rfl (Nat.le_of_ble_eq_true rfl) (by omega) (by omega) q_ko_at dX10_init_57 q_ko_at (fun c2 h => (q_ko_ne h).trans (q_ko_ne h).symm) ?_
  refine qk_aload_n hx dX10_init_60 0 rfl ?_
  refine qk_iconst (v := 0) hx dX10_init_61 (by decide) ?_
  refine qk_put (ty := tyX10 8) (e2 := q_ko G x 292 10 [.ref (G.2.1 + 293), .ref (G.2.1 + 294), .ref (G.2.1 + 295), .ref (G.2.1 + 296), .int 0, .int 0, .int 0, .int 0, .int 0, .int 0, .int 0, .int 0, .int 0, .int 0, .int 0, .int 0, .null, .int 0, .null, .null, .null, .null, .int 0, .int 0, .int 0, .int 0, .int 0, .int 0, .null, .int 0]) hx rfl q_lay10 tyX10_ok nmX10 (by decide) q_fi_10_35 rfl rfl (by decide) (tyX10_ok 8 (by decide)) rfl rfl (Nat.le_of_ble_eq_true rfl) (by omega) (by omega) q_ko_at dX10_init_62 q_ko_at (fun c2 h => (q_ko_ne h).trans (q_ko_ne h).symm) ?_
  refine qk_aload_n hx dX10_init_65 0 rfl ?_
  refine qk_iconst (v := 0) hx dX10_init_66 (by decide) ?_
  refine qk_put (ty := tyX10 9) (e2 := q_ko G x 292 10 [.ref (G.2.1 + 293), .ref (G.2.1 + 294), .ref (G.2.1 + 295), .ref (G.2.1 + 296), .int 0, .int 0, .int 0, .int 0, .int 0, .int 0, .int 0, .int 0, .int 0, .int 0, .int 0, .int 0, .null, .int 0, .null, .null, .null, .null, .int 0, .int 0, .int 0, .int 0, .int 0, .int 0, .null, .int 0]) hx rfl q_lay10 tyX10_ok nmX10 (by decide) q_fi_10_38 rfl rfl (by decide) (tyX10_ok 9 (by decide)) rfl rfl (Nat.le_of_ble_eq_true rfl) (by omega) (by omega) q_ko_at dX10_init_67 q_ko_at (fun c2 h => (q_ko_ne h).trans (q_ko_ne h).symm) ?_
  refine qk_aload_n hx dX10_init_70 0 rfl ?_
  refine qk_iconst (v := 0) hx dX10_init_71 (by decide) ?_
  refine qk_put (ty := tyX10 10) (e2 := q_ko G x 292 10 [.ref (G.2.1 + 293), .ref (G.2.1 + 294), .ref (G.2.1 + 295), .ref (G.2.1 + 296), .int 0, .int 0, .int 0, .int 0, .int 0, .int 0, .int 0, .int 0, .int 0, .int 0, .int 0, .int 0, .null, .int 0, .null, .null, .null, .null, .int 0, .int 0, .int 0, .int 0, .int 0, .int 0, .null, .int 0]) hx rfl q_lay10 tyX10_ok nmX10 (by decide) q_fi_10_41 rfl rfl (by decide) (tyX10_ok 10 (by decide)) rfl rfl (Nat.le_of_ble_eq_true rfl) (by omega) (by omega) q_ko_at dX10_init_72 q_ko_at (fun c2 h => (q_ko_ne h).trans (q_ko_ne h).symm) ?_
  refine qk_aload_n hx dX10_init_75 0 rfl ?_
  refine qk_iconst (v := 0) hx dX10_init_76 (by decide) ?_
  refine qk_put (ty := tyX10 11) (e2 := q_ko G x 292 10 [.ref (G.2.1 + 293), .ref (G.2.1 + 294), .ref (G.2.1 + 295), .ref (G.2.1 + 296), .int 0, .int 0, .int 0, .int 0, .int 0, .int 0, .int 0, .int 0, .int 0, .int 0, .int 0, .int 0, .null, .int 0, .null, .null, .null, .null, .int 0, .int 0, .int 0, .int 0, .int 0, .int 0, .null, .int 0]) hx rfl q_lay10 tyX10_ok nmX10 (by decide) q_fi_10_44 rfl rfl (by decide) (tyX10_ok 11 (by decide)) rfl rfl (Nat.le_of_ble_eq_true rfl) (by omega) (by omega) q_ko_at dX10_init_77 q_ko_at (fun c2 h => (q_ko_ne h).trans (q_ko_ne h).symm) ?_
  refine qk_aload_n hx dX10_init_80 0 rfl ?_
  refine qk_iconst (v := (-1)) hx dX10_init_81 (by decide) ?_
  refine qk_put (ty := tyX10 12) (e2 := q_ko G x 292 10 [.ref (G.2.1 + 293), .ref (G.2.1 + 294), .ref (G.2.1 + 295), .ref (G.2.1 + 296), .int 0, .int 0, .int 0, .int 0, .int 0, .int 0, .int 0, .int 0, .int (-1), .int 0, .int 0, .int 0, .null, .int 0, .null, .null, .null, .null, .int 0, .int 0, .int 0, .int 0, .int 0, .int 0, .null, .int 0]) hx rfl q_lay10 tyX10_ok nmX10 (by decide) q_fi_10_47 rfl rfl (by decide) (tyX10_ok 12 (by decide)) rfl rfl (Nat.le_of_ble_eq_true rfl) (by omega) (by omega) q_ko_at dX10_init_82 q_ko_at (fun c2 h => (q_ko_ne h).trans (q_ko_ne h).symm) ?_
  refine qk_aload_n hx dX10_init_85 0 rfl ?_
  refine qk_iconst (v := 0) hx dX10_init_86 (by decide) ?_
  refine qk_put (ty := tyX10 13) (e2 := q_ko G x 292 10 [.ref (G.2.1 + 293), .ref (G.2.1 + 294), .ref (G.2.1 + 295), .ref (G.2.1 + 296), .int 0, .int 0, .int 0, .int 0, .int 0, .int 0, .int 0, .int 0, .int (-1), .int 0, .int 0, .int 0, .null, .int 0, .null, .null, .null, .null, .int 0, .int 0, .int 0, .int 0, .int 0, .int 0, .null, .int 0]) hx rfl q_lay10 tyX10_ok nmX10 (by decide) q_fi_10_50 rfl rfl (by decide) (tyX10_ok 13 (by decide)) rfl rfl (Nat.le_of_ble_eq_true rfl) (by omega) (by omega) q_ko_at dX10_init_87 q_ko_at (fun c2 h => (q_ko_ne h).trans (q_ko_ne h).symm) ?_
  refine qk_aload_n hx dX10_init_90 0 rfl ?_
  refine qk_iconst (v := 0) hx dX10_init_91 (by decide) ?_
  refine qk_put (ty := tyX10 14) (e2 := q_ko G x 292 10 [.ref (G.2.1 + 293), .ref (G.2.1 + 294), .ref (G.2.1 + 295), .ref (G.2.1 + 296), .int 0, .int 0, .int 0, .int 0, .int 0, .int 0, .int 0, .int 0, .int (-1), .int 0, .int 0, .int 0, .null, .int 0, .null, .null, .null, .null, .int 0, .int 0, .int 0, .int 0, .int 0, .int 0, .null, .int 0]) hx rfl q_lay10 tyX10_ok nmX10 (by decide) q_fi_10_54 rfl rfl (by decide) (tyX10_ok 14 (by decide)) rfl rfl (Nat.le_of_ble_eq_true rfl) (by omega) (by omega) q_ko_at dX10_init_92 q_ko_at (fun c2 h => (q_ko_ne h).trans (q_ko_ne h).symm) ?_
  refine qk_aload_n hx dX10_init_95 0 rfl ?_
  refine qk_iconst (v := 0) hx dX10_init_96 (by decide) ?_
  refine qk_put (ty := tyX10 15) (e2 := q_ko G x 292 10 [.ref (G.2.1 + 293), .ref (G.2.1 + 294), .ref (G.2.1 + 295), .ref (G.2.1 + 296), .int 0, .int 0, .int 0, .int 0, .int 0, .int 0, .int 0, .int 0, .int (-1), .int 0, .int 0, .int 0, .null, .int 0, .null, .null, .null, .null, .int 0, .int 0, .int 0, .int 0, .int 0, .int 0, .null, .int 0]) hx rfl q_lay10 tyX10_ok nmX10 (by decide) q_fi_10_57 rfl rfl (by decide) (tyX10_ok 15 (by decide)) rfl rfl (Nat.le_of_ble_eq_true rfl) (by omega) (by omega) q_ko_at dX10_init_97 q_ko_at (fun c2 h => (q_ko_ne h).trans (q_ko_ne h).symm) ?_
  refine qk_aload_n hx dX10_init_100 0 rfl ?_
  refine qk_bipush (v := 117) hx dX10_init_101 (by decide) ?_
  refine qk_na (t := 2) (N := 117) (ty := .boolean) (r := q_s0 297) hx rfl q_ac_boolean rfl (fun _ _ => rfl) rfl (by decide) (by decide) (Nat.le_of_ble_eq_true rfl) (Nat.le_of_ble_eq_true rfl) (Nat.le_of_ble_eq_true rfl) dX10_init_103 (by omega) ((q_ko_ne (by omega)).trans (q_ea2 kd_297 (by decide))) (q_s0_k kd_297 (by decide)) ?_
  refine qk_put (ty := tyX10 16) (e2 := q_ko G x 292 10 [.ref (G.2.1 + 293), .ref (G.2.1 + 294), .ref (G.2.1 + 295), .ref (G.2.1 + 296), .int 0, .int 0, .int 0, .int 0, .int 0, .int 0, .int 0, .int 0, .int (-1), .int 0, .int 0, .int 0, .ref (G.2.1 + 297), .int 0, .null, .null, .null, .null, .int 0, .int 0, .int 0, .int 0, .int 0, .int 0, .null, .int 0]) hx rfl q_lay10 tyX10_ok nmX10 (by decide) q_fi_10_60 rfl rfl (by decide) (tyX10_ok 16 (by decide)) rfl rfl (Nat.le_of_ble_eq_true rfl) (by omega) (by omega) q_ko_at dX10_init_105 q_ko_at (fun c2 h => (q_ko_ne h).trans (q_ko_ne h).symm) ?_
  refine qk_aload_n hx dX10_init_108 0 rfl ?_
  refine qk_iconst (v := 0) hx dX10_init_109 (by decide) ?_
  refine qk_put (ty := tyX10 17) (e2 := q_ko G x 292 10 [.ref (G.2.1 + 293), .ref (G.2.1 + 294), .ref (G.2.1 + 295), .ref (G.2.1 + 296), .int 0, .int 0, .int 0, .int 0, .int 0, .int 0, .int 0, .int 0, .int (-1), .int 0, .int 0, .int 0, .ref (G.2.1 + 297), .int 0, .null, .null, .null, .null, .int 0, .int 0, .int 0, .int 0, .int 0, .int 0, .null, .int 0]) hx rfl q_lay10 tyX10_ok nmX10 (by decide) q_fi_10_64 rfl rfl (by decide) (tyX10_ok 17 (by decide)) rfl rfl (Nat.le_of_ble_eq_true rfl) (by omega) (by omega) q_ko_at dX10_init_110 q_ko_at (fun c2 h => (q_ko_ne h).trans (q_ko_ne h).symm) ?_
  refine qk_aload_n hx dX10_init_113 0 rfl ?_
  refine qk_iconst (v := 5) hx dX10_init_114 (by decide) ?_
  refine qk_na (t := 0) (N := 5) (ty := .int) (r := q_s0 298) hx rfl q_ac_int rfl (fun _ _ => rfl) rfl (by decide) (by decide) (Nat.le_of_ble_eq_true rfl) (Nat.le_of_ble_eq_true rfl) (Nat.le_of_ble_eq_true rfl) dX10_init_115 (by omega) ((q_ko_ne (by omega)).trans (q_ea0 kd_298 (by decide))) (q_s0_k kd_298 (by decide)) ?_
  refine qk_put (ty := tyX10 18) (e2 := q_ko G x 292 10 [.ref (G.2.1 + 293), .ref (G.2.1 + 294), .ref (G.2.1 + 295), .ref (G.2.1 + 296), .int 0, .int 0, .int 0, .int 0, .int 0, .int 0, .int 0, .int 0, .int (-1), .int 0, .int 0, .int 0, .ref (G.2.1 + 297), .int 0, .ref (G.2.1 + 298), .null, .null, .null, .int 0, .int 0, .int 0, .int 0, .int 0, .int 0, .null, .int 0]) hx rfl q_lay10 tyX10_ok nmX10 (by decide) q_fi_10_67 rfl rfl (by decide) (tyX10_ok 18 (by decide)) rfl rfl (Nat.le_of_ble_eq_true rfl) (by omega) (by omega) q_ko_at dX10_init_117 q_ko_at (fun c2 h => (q_ko_ne h).trans (q_ko_ne h).symm) ?_
  refine qk_aload_n hx dX10_init_120 0 rfl ?_
  refine qk_bipush (v := 60) hx dX10_init_121 (by decide) ?_
  refine qk_na (t := 0) (N := 60) (ty := .int) (r := q_s0 299) hx rfl q_ac_int rfl (fun _ _ => rfl) rfl (by decide) (by decide) (Nat.le_of_ble_eq_true rfl) (Nat.le_of_ble_eq_true rfl) (Nat.le_of_ble_eq_true rfl) dX10_init_123 (by omega) ((q_ko_ne (by omega)).trans (q_ea0 kd_299 (by decide))) (q_s0_k kd_299 (by decide)) ?_
  refine qk_put (ty := tyX10 19) (e2 := q_ko G x 292 10 [.ref (G.2.1 + 293), .ref (G.2.1 + 294), .ref (G.2.1 + 295), .ref (G.2.1 + 296), .int 0, .int 0, .int 0, .int 0, .int 0, .int 0, .int 0, .int 0, .int (-1), .int 0, .int 0, .int 0, .ref (G.2.1 + 297), .int 0, .ref (G.2.1 + 298), .ref (G.2.1 + 299), .null, .null, .int 0, .int 0, .int 0, .int 0, .int 0, .int 0, .null, .int 0]) hx rfl q_lay10 tyX10_ok nmX10 (by decide) q_fi_10_70 rfl rfl (by decide) (tyX10_ok 19 (by decide)) rfl rfl (Nat.le_of_ble_eq_true rfl) (by omega) (by omega) q_ko_at dX10_init_125 q_ko_at (fun c2 h => (q_ko_ne h).trans (q_ko_ne h).symm) ?_
  refine qk_aload_n hx dX10_init_128 0 rfl ?_
  refine qk_bipush (v := 32) hx dX10_init_129 (by decide) ?_
  refine qk_na (t := 0) (N := 32) (ty := .int) (r := q_s0 300) hx rfl q_ac_int rfl (fun _ _ => rfl) rfl (by decide) (by decide) (Nat.le_of_ble_eq_true rfl) (Nat.le_of_ble_eq_true rfl) (Nat.le_of_ble_eq_true rfl) dX10_init_131 (by omega) ((q_ko_ne (by omega)).trans (q_ea0 kd_300 (by decide))) (q_s0_k kd_300 (by decide)) ?_
  refine qk_put (ty := tyX10 20) (e2 := q_ko G x 292 10 [.ref (G.2.1 + 293), .ref (G.2.1 + 294), .ref (G.2.1 + 295), .ref (G.2.1 + 296), .int 0, .int 0, .int 0, .int 0, .int 0, .int 0, .int 0, .int 0, .int (-1), .int 0, .int 0, .int 0, .ref (G.2.1 + 297), .int 0, .ref (G.2.1 + 298), .ref (G.2.1 + 299), .ref (G.2.1 + 300), .null, .int 0, .int 0, .int 0, .int 0, .int 0, .int 0, .null, .int 0]) hx rfl q_lay10 tyX10_ok nmX10 (by decide) q_fi_10_73 rfl rfl (by decide) (tyX10_ok 20 (by decide)) rfl rfl (Nat.le_of_ble_eq_true rfl) (by omega) (by omega) q_ko_at dX10_init_133 q_ko_at (fun c2 h => (q_ko_ne h).trans (q_ko_ne h).symm) ?_
  refine qk_aload_n hx dX10_init_136 0 rfl ?_
  refine qk_bipush (v := 96) hx dX10_init_137 (by decide) ?_
  refine qk_na (t := 0) (N := 96) (ty := .int) (r := q_s0 301) hx rfl q_ac_int rfl (fun _ _ => rfl) rfl (by decide) (by decide) (Nat.le_of_ble_eq_true rfl) (Nat.le_of_ble_eq_true rfl) (Nat.le_of_ble_eq_true rfl) dX10_init_139 (by omega) ((q_ko_ne (by omega)).trans (q_ea0 kd_301 (by decide))) (q_s0_k kd_301 (by decide)) ?_
  refine qk_put (ty := tyX10 21) (e2 := q_ko G x 292 10 [.ref (G.2.1 + 293), .ref (G.2.1 + 294), .ref (G.2.1 + 295), .ref (G.2.1 + 296), .int 0, .int 0, .int 0, .int 0, .int 0, .int 0, .int 0, .int 0, .int (-1), .int 0, .int 0, .int 0, .ref (G.2.1 + 297), .int 0, .ref (G.2.1 + 298), .ref (G.2.1 + 299), .ref (G.2.1 + 300), .ref (G.2.1 + 301), .int 0, .int 0, .int 0, .int 0, .int 0, .int 0, .null, .int 0]) hx rfl q_lay10 tyX10_ok nmX10 (by decide) q_fi_10_76 rfl rfl (by decide) (tyX10_ok 21 (by decide)) rfl rfl (Nat.le_of_ble_eq_true rfl) (by omega) (by omega) q_ko_at dX10_init_141 q_ko_at (fun c2 h => (q_ko_ne h).trans (q_ko_ne h).symm) ?_
  refine qk_aload_n hx dX10_init_144 0 rfl ?_
  refine qk_iconst (v := 0) hx dX10_init_145 (by decide) ?_
  refine qk_put (ty := tyX10 22) (e2 := q_ko G x 292 10 [.ref (G.2.1 + 293), .ref (G.2.1 + 294), .ref (G.2.1 + 295), .ref (G.2.1 + 296), .int 0, .int 0, .int 0, .int 0, .int 0, .int 0, .int 0, .int 0, .int (-1), .int 0, .int 0, .int 0, .ref (G.2.1 + 297), .int 0, .ref (G.2.1 + 298), .ref (G.2.1 + 299), .ref (G.2.1 + 300), .ref (G.2.1 + 301), .int 0, .int 0, .int 0, .int 0, .int 0, .int 0, .null, .int 0]) hx rfl q_lay10 tyX10_ok nmX10 (by decide) q_fi_10_79 rfl rfl (by decide) (tyX10_ok 22 (by decide)) rfl rfl (Nat.le_of_ble_eq_true rfl) (by omega) (by omega) q_ko_at dX10_init_146 q_ko_at (fun c2 h => (q_ko_ne h).trans (q_ko_ne h).symm) ?_
  refine qk_aload_n hx dX10_init_149 0 rfl ?_
  refine qk_iconst (v := 0) hx dX10_init_150 (by decide) ?_
  refine qk_put (ty := tyX10 23) (e2 := q_ko G x 292 10 [.ref (G.2.1 + 293), .ref (G.2.1 + 294), .ref (G.2.1 + 295), .ref (G.2.1 + 296), .int 0, .int 0, .int 0, .int 0, .int 0, .int 0, .int 0, .int 0, .int (-1), .int 0, .int 0, .int 0, .ref (G.2.1 + 297), .int 0, .ref (G.2.1 + 298), .ref (G.2.1 + 299), .ref (G.2.1 + 300), .ref (G.2.1 + 301), .int 0, .int 0, .int 0, .int 0, .int 0, .int 0, .null, .int 0]) hx rfl q_lay10 tyX10_ok nmX10 (by decide) q_fi_10_82 rfl rfl (by decide) (tyX10_ok 23 (by decide)) rfl rfl (Nat.le_of_ble_eq_true rfl) (by omega) (by omega) q_ko_at dX10_init_151 q_ko_at (fun c2 h => (q_ko_ne h).trans (q_ko_ne h).symm) ?_
  refine qk_aload_n hx dX10_init_154 0 rfl ?_
  refine qk_iconst (v := 0) hx dX10_init_155 (by decide) ?_
  refine qk_put (ty := tyX10 24) (e2 := q_ko G x 292 10 [.ref (G.2.1 + 293), .ref (G.2.1 + 294), .ref (G.2.1 + 295), .ref (G.2.1 + 296), .int 0, .int 0, .int 0, .int 0, .int 0, .int 0, .int 0, .int 0, .int (-1), .int 0, .int 0, .int 0, .ref (G.2.1 + 297), .int 0, .ref (G.2.1 + 298), .ref (G.2.1 + 299), .ref (G.2.1 + 300), .ref (G.2.1 + 301), .int 0, .int 0, .int 0, .int 0, .int 0, .int 0, .null, .int 0]) hx rfl q_lay10 tyX10_ok nmX10 (by decide) q_fi_10_85 rfl rfl (by decide) (tyX10_ok 24 (by decide)) rfl rfl (Nat.le_of_ble_eq_true rfl) (by omega) (by omega) q_ko_at dX10_init_156 q_ko_at (fun c2 h => (q_ko_ne h).trans (q_ko_ne h).symm) ?_
  refine qk_aload_n hx dX10_init_159 0 rfl ?_
  refine qk_iconst (v := 0) hx dX10_init_160 (by decide) ?_
  refine qk_put (ty := tyX10 25) (e2 := q_ko G x 292 10 [.ref (G.2.1 + 293), .ref (G.2.1 + 294), .ref (G.2.1 + 295), .ref (G.2.1 + 296), .int 0, .int 0, .int 0, .int 0, .int 0, .int 0, .int 0, .int 0, .int (-1), .int 0, .int 0, .int 0, .ref (G.2.1 + 297), .int 0, .ref (G.2.1 + 298), .ref (G.2.1 + 299), .ref (G.2.1 + 300), .ref (G.2.1 + 301), .int 0, .int 0, .int 0, .int 0, .int 0, .int 0, .null, .int 0]) hx rfl q_lay10 tyX10_ok nmX10 (by decide) q_fi_10_88 rfl rfl (by decide) (tyX10_ok 25 (by decide)) rfl rfl (Nat.le_of_ble_eq_true rfl) (by omega) (by omega) q_ko_at dX10_init_161 q_ko_at (fun c2 h => (q_ko_ne h).trans (q_ko_ne h).symm) ?_
  refine qk_aload_n hx dX10_init_164 0 rfl ?_
  refine qk_iconst (v := 0) hx dX10_init_165 (by decide) ?_
  refine qk_put (ty := tyX10 26) (e2 := q_ko G x 292 10 [.ref (G.2.1 + 293), .ref (G.2.1 + 294), .ref (G.2.1 + 295), .ref (G.2.1 + 296), .int 0, .int 0, .int 0, .int 0, .int 0, .int 0, .int 0, .int 0, .int (-1), .int 0, .int 0, .int 0, .ref (G.2.1 + 297), .int 0, .ref (G.2.1 + 298), .ref (G.2.1 + 299), .ref (G.2.1 + 300), .ref (G.2.1 + 301), .int 0, .int 0, .int 0, .int 0, .int 0, .int 0, .null, .int 0]) hx rfl q_lay10 tyX10_ok nmX10 (by decide) q_fi_10_91 rfl rfl (by decide) (tyX10_ok 26 (by decide)) rfl rfl (Nat.le_of_ble_eq_true rfl) (by omega) (by omega) q_ko_at dX10_init_166 q_ko_at (fun c2 h => (q_ko_ne h).trans (q_ko_ne h).symm) ?_
  refine qk_aload_n hx dX10_init_169 0 rfl ?_
  refine qk_iconst (v := 0) hx dX10_init_170 (by decide) ?_
  refine qk_put (ty := tyX10 27) (e2 := q_ko G x 292 10 [.ref (G.2.1 + 293), .ref (G.2.1 + 294), .ref (G.2.1 + 295), .ref (G.2.1 + 296), .int 0, .int 0, .int 0, .int 0, .int 0, .int 0, .int 0, .int 0, .int (-1), .int 0, .int 0, .int 0, .ref (G.2.1 + 297), .int 0, .ref (G.2.1 + 298), .ref (G.2.1 + 299), .ref (G.2.1 + 300), .ref (G.2.1 + 301), .int 0, .int 0, .int 0, .int 0, .int 0, .int 0, .null, .int 0]) hx rfl q_lay10 tyX10_ok nmX10 (by decide) q_fi_10_94 rfl rfl (by decide) (tyX10_ok 27 (by decide)) rfl rfl (Nat.le_of_ble_eq_true rfl) (by omega) (by omega) q_ko_at dX10_init_171 q_ko_at (fun c2 h => (q_ko_ne h).trans (q_ko_ne h).symm) ?_
  refine qk_aload_n hx dX10_init_174 0 rfl ?_
  refine qk_bipush (v := 60) hx dX10_init_175 (by decide) ?_
  refine qk_na (t := 0) (N := 60) (ty := .int) (r := q_s0 302) hx rfl q_ac_int rfl (fun _ _ => rfl) rfl (by decide) (by decide) (Nat.le_of_ble_eq_true rfl) (Nat.le_of_ble_eq_true rfl) (Nat.le_of_ble_eq_true rfl) dX10_init_177 (by omega) ((q_ko_ne (by omega)).trans (q_ea0 kd_302 (by decide))) (q_s0_k kd_302 (by decide)) ?_
  refine qk_put (ty := tyX10 28) (e2 := q_ko G x 292 10 [.ref (G.2.1 + 293), .ref (G.2.1 + 294), .ref (G.2.1 + 295), .ref (G.2.1 + 296), .int 0, .int 0, .int 0, .int 0, .int 0, .int 0, .int 0, .int 0, .int (-1), .int 0, .int 0, .int 0, .ref (G.2.1 + 297), .int 0, .ref (G.2.1 + 298), .ref (G.2.1 + 299), .ref (G.2.1 + 300), .ref (G.2.1 + 301), .int 0, .int 0, .int 0, .int 0, .int 0, .int 0, .ref (G.2.1 + 302), .int 0]) hx rfl q_lay10 tyX10_ok nmX10 (by decide) q_fi_10_97 rfl rfl (by decide) (tyX10_ok 28 (by decide)) rfl rfl (Nat.le_of_ble_eq_true rfl) (by omega) (by omega) q_ko_at dX10_init_179 q_ko_at (fun c2 h => (q_ko_ne h).trans (q_ko_ne h).symm) ?_
  refine qk_aload_n hx dX10_init_182 0 rfl ?_
  refine qk_iconst (v := 0) hx dX10_init_183 (by decide) ?_
  refine qk_put (ty := tyX10 29) (e2 := q_ko G x 292 10 [.ref (G.2.1 + 293), .ref (G.2.1 + 294), .ref (G.2.1 + 295), .ref (G.2.1 + 296), .int 0, .int 0, .int 0, .int 0, .int 0, .int 0, .int 0, .int 0, .int (-1), .int 0, .int 0, .int 0, .ref (G.2.1 + 297), .int 0, .ref (G.2.1 + 298), .ref (G.2.1 + 299), .ref (G.2.1 + 300), .ref (G.2.1 + 301), .int 0, .int 0, .int 0, .int 0, .int 0, .int 0, .ref (G.2.1 + 302), .int 0]) hx rfl q_lay10 tyX10_ok nmX10 (by decide) q_fi_10_100 rfl rfl (by decide) (tyX10_ok 29 (by decide)) rfl rfl (Nat.le_of_ble_eq_true rfl) (by omega) (by omega) q_ko_at dX10_init_184 q_ko_at (fun c2 h => (q_ko_ne h).trans (q_ko_ne h).symm) ?_
  refine qk_ret hx hr (Nat.le_refl _) (Nat.le_refl _) dX10_init_187 (by omega) (fun c h1 h2 => q_ko_fin ?_ c)
  show Sum.inr _ = q_ent G (q_s0 292) x 292
  rw [q_e10 kd_292]
  rfl
