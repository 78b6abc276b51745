-- X9_carryOut
def f_X9_carryOut (σ : q_S) (a1 : Int32) : Option (Int32 × q_S) :=
  if ((f_X9_numberAt σ 285 10 a1)) = 0 then (some (((f_X8_letCome σ ((f_X9_numberAt σ 286 10 a1))).1, (f_X8_letCome σ ((f_X9_numberAt σ 286 10 a1))).2))) else if ((f_X9_numberAt σ 285 10 a1)) = 1 then (Option.bind (f_X8_setPeg σ ((f_X9_numberAt σ 286 10 a1)) ((f_X9_numberAt σ 287 10 a1)) ((f_X9_numberAt σ 288 10 a1))) (fun q3 => some ((q3.1, q3.2)))) else if ((f_X9_numberAt σ 285 10 a1)) = 2 then (Option.bind (f_X8_beginPlot σ ((f_X9_numberAt σ 286 10 a1)) ((f_X9_numberAt σ 287 10 a1)) ((f_X9_numberAt σ 288 10 a1))) (fun q5 => some ((q5.1, q5.2)))) else if ((f_X9_numberAt σ 285 10 a1)) = 3 then (Option.bind (f_X8_layChain σ ((f_X9_numberAt σ 286 10 a1)) ((f_X9_numberAt σ 287 10 a1)) ((f_X9_numberAt σ 288 10 a1))) (fun q7 => some ((q7.1, q7.2)))) else if ((f_X9_numberAt σ 285 10 a1)) = 4 then (Option.bind (f_X8_bendChain σ ((f_X9_numberAt σ 286 10 a1)) ((f_X9_numberAt σ 287 10 a1)) ((f_X9_numberAt σ 288 10 a1))) (fun q9 => some ((q9.1, q9.2)))) else if ((f_X9_numberAt σ 285 10 a1)) = 5 then (some (((f_X8_giveUp σ ((f_X9_numberAt σ 286 10 a1))).1, (f_X8_giveUp σ ((f_X9_numberAt σ 286 10 a1))).2))) else if ((f_X9_numberAt σ 285 10 a1)) = 6 then (some (((f_X8_giveDepth σ ((f_X9_numberAt σ 286 10 a1)) ((f_X9_numberAt σ 287 10 a1))).1, (f_X8_giveDepth σ ((f_X9_numberAt σ 286 10 a1)) ((f_X9_numberAt σ 287 10 a1))).2))) else Option.bind (f_X8_letHoursGoBy σ ((f_X9_numberAt σ 286 10 a1))) (fun q12 => some ((q12.1, q12.2)))
set_option maxHeartbeats 4000000 in
set_option maxRecDepth 100000 in
theorem c_X9_carryOut (l : Launch) (G : q_G) (x : q_A) (σ : q_S) (a1 : Int32)  {res : Int32 × q_S} (h : f_X9_carryOut σ a1 = some res) : q_Met l yX9_carryOut cX9_carryOut 5 (some .int) 6 G [.ref (G.2.1 + 0), .int a1] σ x (q_Qi G x res.1 res.2) := by
  refine q_of (by decide) (Nat.le_of_ble_eq_true rfl) (fun X hl0 hx hr => ?_)
  subst hl0
  have hx : q_Cx X G RX9 cX9_carryOut 5 6 := hx
  unfold f_X9_carryOut at h
  show q_Wq X G x 5 (q_MQ X G (q_Qi G x res.1 res.2)) 0 0 0 [(0, .ref (G.2.1 + 0)), (1, .int a1)] [] σ
  refine q_aload_n hx dX9_carryOut_0 0 rfl ?_
  refine q_get (v := .ref (G.2.1 + 284)) hx q_fl_X9_65 dX9_carryOut_1 (q_ne kd_0 (by decide)) (q_e9 kd_0) rfl ?_
  refine q_get (v := .ref (G.2.1 + 286)) hx q_fl_X9_415 dX9_carryOut_4 (q_ne kd_284 (by decide)) (q_e1 kd_284) rfl ?_
  refine q_iload_n hx dX9_carryOut_7 1 rfl ?_
  refine q_callSi (As := [.ref (G.2.1 + 286), .int a1]) (rest := []) hx q_kR0 (c_X9_numberAt (q_Xl X) G x σ 286 10 a1 kd_286) q_ml_X9_217 q_mn_X9_numberAt q_ms_X9_numberAt (by decide) rfl (Nat.le_of_ble_eq_true rfl) dX9_carryOut_8 rfl ?_
  refine q_istore_n hx [(2, .int ((f_X9_numberAt σ 286 10 a1))), (0, .ref (G.2.1 + 0)), (1, .int a1)] dX9_carryOut_11 (by decide) rfl ?_
  refine q_aload_n hx dX9_carryOut_12 1 rfl ?_
  refine q_get (v := .ref (G.2.1 + 284)) hx q_fl_X9_65 dX9_carryOut_13 (q_ne kd_0 (by decide)) (q_e9 kd_0) rfl ?_
  refine q_get (v := .ref (G.2.1 + 287)) hx q_fl_X9_418 dX9_carryOut_16 (q_ne kd_284 (by decide)) (q_e1 kd_284) rfl ?_
  refine q_iload_n hx dX9_carryOut_19 2 rfl ?_
  refine q_callSi (As := [.ref (G.2.1 + 287), .int a1]) (rest := []) hx q_kR0 (c_X9_numberAt (q_Xl X) G x σ 287 10 a1 kd_287) q_ml_X9_217 q_mn_X9_numberAt q_ms_X9_numberAt (by decide) rfl (Nat.le_of_ble_eq_true rfl) dX9_carryOut_20 rfl ?_
  refine q_istore_n hx [(3, .int ((f_X9_numberAt σ 287 10 a1))), (2, .int ((f_X9_numberAt σ 286 10 a1))), (0, .ref (G.2.1 + 0)), (1, .int a1)] dX9_carryOut_23 (by decide) rfl ?_
  refine q_aload_n hx dX9_carryOut_24 2 rfl ?_
  refine q_get (v := .ref (G.2.1 + 284)) hx q_fl_X9_65 dX9_carryOut_25 (q_ne kd_0 (by decide)) (q_e9 kd_0) rfl ?_
  refine q_get (v := .ref (G.2.1 + 288)) hx q_fl_X9_421 dX9_carryOut_28 (q_ne kd_284 (by decide)) (q_e1 kd_284) rfl ?_
  refine q_iload_n hx dX9_carryOut_31 3 rfl ?_
  refine q_callSi (As := [.ref (G.2.1 + 288), .int a1]) (rest := []) hx q_kR0 (c_X9_numberAt (q_Xl X) G x σ 288 10 a1 kd_288) q_ml_X9_217 q_mn_X9_numberAt q_ms_X9_numberAt (by decide) rfl (Nat.le_of_ble_eq_true rfl) dX9_carryOut_32 rfl ?_
  refine q_istore hx [(4, .int ((f_X9_numberAt σ 288 10 a1))), (3, .int ((f_X9_numberAt σ 287 10 a1))), (2, .int ((f_X9_numberAt σ 286 10 a1))), (0, .ref (G.2.1 + 0)), (1, .int a1)] dX9_carryOut_35 (by decide) rfl ?_
  refine q_aload_n hx dX9_carryOut_37 3 rfl ?_
  refine q_get (v := .ref (G.2.1 + 284)) hx q_fl_X9_65 dX9_carryOut_38 (q_ne kd_0 (by decide)) (q_e9 kd_0) rfl ?_
  refine q_get (v := .ref (G.2.1 + 285)) hx q_fl_X9_424 dX9_carryOut_41 (q_ne kd_284 (by decide)) (q_e1 kd_284) rfl ?_
  refine q_iload_n hx dX9_carryOut_44 4 rfl ?_
  refine q_callSi (As := [.ref (G.2.1 + 285), .int a1]) (rest := []) hx q_kR0 (c_X9_numberAt (q_Xl X) G x σ 285 10 a1 kd_285) q_ml_X9_217 q_mn_X9_numberAt q_ms_X9_numberAt (by decide) rfl (Nat.le_of_ble_eq_true rfl) dX9_carryOut_45 rfl ?_
  by_cases hc1 : (f_X9_numberAt σ 285 10 a1) = 0
  · replace h := (if_pos hc1).symm.trans h
    refine q_tin hx 92 dX9_carryOut_48 (by rw [hc1] <;> decide) (by rw [hc1] <;> decide) (by rw [hc1] <;> rfl) (by decide) ?_
    refine q_aload_n hx dX9_carryOut_92 3 rfl ?_
    refine q_get (v := .ref (G.2.1 + 1)) hx q_fl_X9_12 dX9_carryOut_93 (q_ne kd_0 (by decide)) (q_e9 kd_0) rfl ?_
    refine q_iload_n hx dX9_carryOut_96 2 rfl ?_
    refine q_callVi (As := [.int ((f_X9_numberAt σ 286 10 a1))]) (rest := []) hx q_kR0 (c_X8_letCome (q_Xl X) G x σ ((f_X9_numberAt σ 286 10 a1))) q_ml_X9_83 q_mn_X8_letCome q_mi_X8_letCome q_se_X8_letCome (by decide) rfl (Nat.le_of_ble_eq_true rfl) dX9_carryOut_97 (q_ne kd_1 (by decide)) (q_e8 kd_1) rfl rfl rfl ?_
    cases h
    exact q_iret hx hr dX9_carryOut_100
  replace h := (if_neg hc1).symm.trans h
  by_cases hc2 : (f_X9_numberAt σ 285 10 a1) = 1
  · replace h := (if_pos hc2).symm.trans h
    refine q_tin hx 101 dX9_carryOut_48 (by rw [hc2] <;> decide) (by rw [hc2] <;> decide) (by rw [hc2] <;> rfl) (by decide) ?_
    refine q_aload_n hx dX9_carryOut_101 3 rfl ?_
    refine q_get (v := .ref (G.2.1 + 1)) hx q_fl_X9_12 dX9_carryOut_102 (q_ne kd_0 (by decide)) (q_e9 kd_0) rfl ?_
    refine q_iload_n hx dX9_carryOut_105 2 rfl ?_
    refine q_iload_n hx dX9_carryOut_106 1 rfl ?_
    refine q_iload hx dX9_carryOut_107 0 rfl ?_
    refine q_bindE h (fun q3 hq3 h => ?_)
    refine q_callVi (As := [.int ((f_X9_numberAt σ 286 10 a1)), .int ((f_X9_numberAt σ 287 10 a1)), .int ((f_X9_numberAt σ 288 10 a1))]) (rest := []) hx q_kR0 (c_X8_setPeg (q_Xl X) G x σ ((f_X9_numberAt σ 286 10 a1)) ((f_X9_numberAt σ 287 10 a1)) ((f_X9_numberAt σ 288 10 a1)) hq3) q_ml_X9_102 q_mn_X8_setPeg q_mi_X8_setPeg q_se_X8_setPeg (by decide) rfl (Nat.le_of_ble_eq_true rfl) dX9_carryOut_109 (q_ne kd_1 (by decide)) (q_e8 kd_1) rfl rfl rfl ?_
    cases h
    exact q_iret hx hr dX9_carryOut_112
  replace h := (if_neg hc2).symm.trans h
  by_cases hc4 : (f_X9_numberAt σ 285 10 a1) = 2
  · replace h := (if_pos hc4).symm.trans h
    refine q_tin hx 113 dX9_carryOut_48 (by rw [hc4] <;> decide) (by rw [hc4] <;> decide) (by rw [hc4] <;> rfl) (by decide) ?_
    refine q_aload_n hx dX9_carryOut_113 3 rfl ?_
    refine q_get (v := .ref (G.2.1 + 1)) hx q_fl_X9_12 dX9_carryOut_114 (q_ne kd_0 (by decide)) (q_e9 kd_0) rfl ?_
    refine q_iload_n hx dX9_carryOut_117 2 rfl ?_
    refine q_iload_n hx dX9_carryOut_118 1 rfl ?_
    refine q_iload hx dX9_carryOut_119 0 rfl ?_
    refine q_bindE h (fun q5 hq5 h => ?_)
    refine q_callVi (As := [.int ((f_X9_numberAt σ 286 10 a1)), .int ((f_X9_numberAt σ 287 10 a1)), .int ((f_X9_numberAt σ 288 10 a1))]) (rest := []) hx q_kR0 (c_X8_beginPlot (q_Xl X) G x σ ((f_X9_numberAt σ 286 10 a1)) ((f_X9_numberAt σ 287 10 a1)) ((f_X9_numberAt σ 288 10 a1)) hq5) q_ml_X9_113 q_mn_X8_beginPlot q_mi_X8_beginPlot q_se_X8_beginPlot (by decide) rfl (Nat.le_of_ble_eq_true rfl) dX9_carryOut_121 (q_ne kd_1 (by decide)) (q_e8 kd_1) rfl rfl rfl ?_
    cases h
    exact q_iret hx hr dX9_carryOut_124
  replace h := (if_neg hc4).symm.trans h
  by_cases hc6 : (f_X9_numberAt σ 285 10 a1) = 3
  · replace h := (if_pos hc6).symm.trans h
    refine q_tin hx 125 dX9_carryOut_48 (by rw [hc6] <;> decide) (by rw [hc6] <;> decide) (by rw [hc6] <;> rfl) (by decide) ?_
    refine q_aload_n hx dX9_carryOut_125 3 rfl ?_
    refine q_get (v := .ref (G.2.1 + 1)) hx q_fl_X9_12 dX9_carryOut_126 (q_ne kd_0 (by decide)) (q_e9 kd_0) rfl ?_
    refine q_iload_n hx dX9_carryOut_129 2 rfl ?_
    refine q_iload_n hx dX9_carryOut_130 1 rfl ?_
    refine q_iload hx dX9_carryOut_131 0 rfl ?_
    refine q_bindE h (fun q7 hq7 h => ?_)
    refine q_callVi (As := [.int ((f_X9_numberAt σ 286 10 a1)), .int ((f_X9_numberAt σ 287 10 a1)), .int ((f_X9_numberAt σ 288 10 a1))]) (rest := []) hx q_kR0 (c_X8_layChain (q_Xl X) G x σ ((f_X9_numberAt σ 286 10 a1)) ((f_X9_numberAt σ 287 10 a1)) ((f_X9_numberAt σ 288 10 a1)) hq7) q_ml_X9_118 q_mn_X8_layChain q_mi_X8_layChain q_se_X8_layChain (by decide) rfl (Nat.le_of_ble_eq_true rfl) dX9_carryOut_133 (q_ne kd_1 (by decide)) (q_e8 kd_1) rfl rfl rfl ?_
    cases h
    exact q_iret hx hr dX9_carryOut_136
  replace h := (if_neg hc6).symm.trans h
  by_cases hc8 : (f_X9_numberAt σ 285 10 a1) = 4
  · replace h := (if_pos hc8).symm.trans h
    refine q_tin hx 137 dX9_carryOut_48 (by rw [hc8] <;> decide) (by rw [hc8] <;> decide) (by rw [hc8] <;> rfl) (by decide) ?_
    refine q_aload_n hx dX9_carryOut_137 3 rfl ?_
    refine q_get (v := .ref (G.2.1 + 1)) hx q_fl_X9_12 dX9_carryOut_138 (q_ne kd_0 (by decide)) (q_e9 kd_0) rfl ?_
    refine q_iload_n hx dX9_carryOut_141 2 rfl ?_
    refine q_iload_n hx dX9_carryOut_142 1 rfl ?_
    refine q_iload hx dX9_carryOut_143 0 rfl ?_
    refine q_bindE h (fun q9 hq9 h => ?_)
    refine q_callVi (As := [.int ((f_X9_numberAt σ 286 10 a1)), .int ((f_X9_numberAt σ 287 10 a1)), .int ((f_X9_numberAt σ 288 10 a1))]) (rest := []) hx q_kR0 (c_X8_bendChain (q_Xl X) G x σ ((f_X9_numberAt σ 286 10 a1)) ((f_X9_numberAt σ 287 10 a1)) ((f_X9_numberAt σ 288 10 a1)) hq9) q_ml_X9_125 q_mn_X8_bendChain q_mi_X8_bendChain q_se_X8_bendChain (by decide) rfl (Nat.le_of_ble_eq_true rfl) dX9_carryOut_145 (q_ne kd_1 (by decide)) (q_e8 kd_1) rfl rfl rfl ?_
    cases h
    exact q_iret hx hr dX9_carryOut_148
  replace h := (if_neg hc8).symm.trans h
  by_cases hc10 : (f_X9_numberAt σ 285 10 a1) = 5
  · replace h := (if_pos hc10).symm.trans h
    refine q_tin hx 149 dX9_carryOut_48 (by rw [hc10] <;> decide) (by rw [hc10] <;> decide) (by rw [hc10] <;> rfl) (by decide) ?_
    refine q_aload_n hx dX9_carryOut_149 3 rfl ?_
    refine q_get (v := .ref (G.2.1 + 1)) hx q_fl_X9_12 dX9_carryOut_150 (q_ne kd_0 (by decide)) (q_e9 kd_0) rfl ?_
    refine q_iload_n hx dX9_carryOut_153 2 rfl ?_
    refine q_callVi (As := [.int ((f_X9_numberAt σ 286 10 a1))]) (rest := []) hx q_kR0 (c_X8_giveUp (q_Xl X) G x σ ((f_X9_numberAt σ 286 10 a1))) q_ml_X9_132 q_mn_X8_giveUp q_mi_X8_giveUp q_se_X8_giveUp (by decide) rfl (Nat.le_of_ble_eq_true rfl) dX9_carryOut_154 (q_ne kd_1 (by decide)) (q_e8 kd_1) rfl rfl rfl ?_
    cases h
    exact q_iret hx hr dX9_carryOut_157
  replace h := (if_neg hc10).symm.trans h
  by_cases hc11 : (f_X9_numberAt σ 285 10 a1) = 6
  · replace h := (if_pos hc11).symm.trans h
    refine q_tin hx 158 dX9_carryOut_48 (by rw [hc11] <;> decide) (by rw [hc11] <;> decide) (by rw [hc11] <;> rfl) (by decide) ?_
    refine q_aload_n hx dX9_carryOut_158 3 rfl ?_
    refine q_get (v := .ref (G.2.1 + 1)) hx q_fl_X9_12 dX9_carryOut_159 (q_ne kd_0 (by decide)) (q_e9 kd_0) rfl ?_
    refine q_iload_n hx dX9_carryOut_162 2 rfl ?_
    refine q_iload_n hx dX9_carryOut_163 1 rfl ?_
    refine q_callVi (As := [.int ((f_X9_numberAt σ 286 10 a1)), .int ((f_X9_numberAt σ 287 10 a1))]) (rest := []) hx q_kR0 (c_X8_giveDepth (q_Xl X) G x σ ((f_X9_numberAt σ 286 10 a1)) ((f_X9_numberAt σ 287 10 a1))) q_ml_X9_135 q_mn_X8_giveDepth q_mi_X8_giveDepth q_se_X8_giveDepth (by decide) rfl (Nat.le_of_ble_eq_true rfl) dX9_carryOut_164 (q_ne kd_1 (by decide)) (q_e8 kd_1) rfl rfl rfl ?_
    cases h
    exact q_iret hx hr dX9_carryOut_167
  replace h := (if_neg hc11).symm.trans h
  have hc1T := lv_neT (k := 0) (a := 0) hc1 (by decide)
  have hc2T := lv_neT (k := 1) (a := 1) hc2 (by decide)
  have hc4T := lv_neT (k := 2) (a := 2) hc4 (by decide)
  have hc6T := lv_neT (k := 3) (a := 3) hc6 (by decide)
  have hc8T := lv_neT (k := 4) (a := 4) hc8 (by decide)
  have hc10T := lv_neT (k := 5) (a := 5) hc10 (by decide)
  have hc11T := lv_neT (k := 6) (a := 6) hc11 (by decide)
  refine q_tout hx 168 dX9_carryOut_48 (by omega) (by decide) ?_
  refine q_aload_n hx dX9_carryOut_168 3 rfl ?_
  refine q_get (v := .ref (G.2.1 + 1)) hx q_fl_X9_12 dX9_carryOut_169 (q_ne kd_0 (by decide)) (q_e9 kd_0) rfl ?_
  refine q_iload_n hx dX9_carryOut_172 2 rfl ?_
  refine q_bindE h (fun q12 hq12 h => ?_)
  refine q_callVi (As := [.int ((f_X9_numberAt σ 286 10 a1))]) (rest := []) hx q_kR0 (c_X8_letHoursGoBy (q_Xl X) G x σ ((f_X9_numberAt σ 286 10 a1)) hq12) q_ml_X9_139 q_mn_X8_letHoursGoBy q_mi_X8_letHoursGoBy q_se_X8_letHoursGoBy (by decide) rfl (Nat.le_of_ble_eq_true rfl) dX9_carryOut_173 (q_ne kd_1 (by decide)) (q_e8 kd_1) rfl rfl rfl ?_
  cases h
  exact q_iret hx hr dX9_carryOut_176
-- X9_isAhead
def f_X9_isAhead (σ : q_S) (a1 : Int32) (a2 : Int32) : Int32 :=
  if (((f_X0_countOf σ a1)) - ((f_X0_countOf σ a2))) = 0 then (if (((f_X2_depthOf σ 2 a1)) - ((f_X2_depthOf σ 2 a2))) = 0 then (if a2 ≤ a1 then (0) else (1)) else (if (((f_X2_depthOf σ 2 a1)) - ((f_X2_depthOf σ 2 a2))) ≤ 0 then (0) else (1))) else (if (((f_X0_countOf σ a1)) - ((f_X0_countOf σ a2))) ≤ 0 then (0) else (1))
set_option maxHeartbeats 4000000 in
set_option maxRecDepth 100000 in
theorem ca_X9_isAhead (l : Launch) (G : q_G) (x : q_A) (σ : q_S) (a1 : Int32) (a2 : Int32)  {res : Int32} (h : f_X9_isAhead σ a1 a2 = res) : q_Met l yX9_isAhead cX9_isAhead 5 (some .boolean) 3 G [.ref (G.2.1 + 0), .int a1, .int a2] σ x (q_Qi G x res σ) := by
  refine q_of (by decide) (Nat.le_of_ble_eq_true rfl) (fun X hl0 hx hr => ?_)
  subst hl0
  have hx : q_Cx X G RX9 cX9_isAhead 5 3 := hx
  unfold f_X9_isAhead at h
  show q_Wq X G x 5 (q_MQ X G (q_Qi G x res σ)) 0 0 0 [(0, .ref (G.2.1 + 0)), (1, .int a1), (2, .int a2)] [] σ
  refine q_aload_n hx dX9_isAhead_0 0 rfl ?_
  refine q_get (v := .ref (G.2.1 + 280)) hx q_fl_X9_50 dX9_isAhead_1 (q_ne kd_0 (by decide)) (q_e9 kd_0) rfl ?_
  refine q_iload_n hx dX9_isAhead_4 1 rfl ?_
  refine q_callVi (As := [.int a1]) (rest := []) hx q_kR0 (c_X0_countOf (q_Xl X) G x σ a1) q_ml_X9_180 q_mn_X0_countOf q_mi_X0_countOf q_se_X0_countOf (by decide) rfl (Nat.le_of_ble_eq_true rfl) dX9_isAhead_5 (q_ne kd_280 (by decide)) (q_e0 kd_280) rfl rfl rfl ?_
  refine q_aload_n hx dX9_isAhead_8 0 rfl ?_
  refine q_get (v := .ref (G.2.1 + 280)) hx q_fl_X9_50 dX9_isAhead_9 (q_ne kd_0 (by decide)) (q_e9 kd_0) rfl ?_
  refine q_iload_n hx dX9_isAhead_12 2 rfl ?_
  refine q_callVi (As := [.int a2]) (rest := [.int ((f_X0_countOf σ a1))]) hx q_kR0 (c_X0_countOf (q_Xl X) G x σ a2) q_ml_X9_180 q_mn_X0_countOf q_mi_X0_countOf q_se_X0_countOf (by decide) rfl (Nat.le_of_ble_eq_true rfl) dX9_isAhead_13 (q_ne kd_280 (by decide)) (q_e0 kd_280) rfl rfl rfl ?_
  refine q_isub hx dX9_isAhead_16 ?_
  refine q_istore_n hx [(3, .int (((f_X0_countOf σ a1)) - ((f_X0_countOf σ a2)))), (0, .ref (G.2.1 + 0)), (1, .int a1), (2, .int a2)] dX9_isAhead_17 (by decide) rfl ?_
  refine q_iload_n hx dX9_isAhead_18 0 rfl ?_
  refine q_if_eq hx 32 dX9_isAhead_19 (by decide) (fun hc1 => ?_) (fun hc1 => ?_)
  · replace h := (if_pos hc1).symm.trans h
    refine q_aload_n hx dX9_isAhead_32 1 rfl ?_
    refine q_get (v := .ref (G.2.1 + 2)) hx q_fl_X9_20 dX9_isAhead_33 (q_ne kd_0 (by decide)) (q_e9 kd_0) rfl ?_
    refine q_iload_n hx dX9_isAhead_36 2 rfl ?_
    refine q_callVi (As := [.int a1]) (rest := []) hx q_kR0 (c_X2_depthOf (q_Xl X) G x σ 2 a1 dr_2) q_ml_X9_152 q_mn_X2_depthOf q_mi_X2_depthOf q_se_X2_depthOf (by decide) rfl (Nat.le_of_ble_eq_true rfl) dX9_isAhead_37 (q_ne dr_2.1 (by decide)) (q_e2 dr_2.1) rfl rfl rfl ?_
    refine q_aload_n hx dX9_isAhead_40 1 rfl ?_
    refine q_get (v := .ref (G.2.1 + 2)) hx q_fl_X9_20 dX9_isAhead_41 (q_ne kd_0 (by decide)) (q_e9 kd_0) rfl ?_
    refine q_iload_n hx dX9_isAhead_44 3 rfl ?_
    refine q_callVi (As := [.int a2]) (rest := [.int ((f_X2_depthOf σ 2 a1))]) hx q_kR0 (c_X2_depthOf (q_Xl X) G x σ 2 a2 dr_2) q_ml_X9_152 q_mn_X2_depthOf q_mi_X2_depthOf q_se_X2_depthOf (by decide) rfl (Nat.le_of_ble_eq_true rfl) dX9_isAhead_45 (q_ne dr_2.1 (by decide)) (q_e2 dr_2.1) rfl rfl rfl ?_
    refine q_isub hx dX9_isAhead_48 ?_
    refine q_istore hx [(4, .int (((f_X2_depthOf σ 2 a1)) - ((f_X2_depthOf σ 2 a2)))), (3, .int (((f_X0_countOf σ a1)) - ((f_X0_countOf σ a2)))), (0, .ref (G.2.1 + 0)), (1, .int a1), (2, .int a2)] dX9_isAhead_49 (by decide) rfl ?_
    refine q_iload hx dX9_isAhead_51 0 rfl ?_
    refine q_if_eq hx 69 dX9_isAhead_53 (by decide) (fun hc2 => ?_) (fun hc2 => ?_)
    · replace h := (if_pos hc2).symm.trans h
      refine q_iload_n hx dX9_isAhead_69 3 rfl ?_
      refine q_iload_n hx dX9_isAhead_70 4 rfl ?_
      refine q_icmp_ge hx 78 dX9_isAhead_71 (by decide) (fun hc3 => ?_) (fun hc3 => ?_)
      · replace h := (if_pos hc3).symm.trans h
        refine q_iconst (v := 0) hx dX9_isAhead_78 (by decide) ?_
        subst h
        exact q_zret hx hr rfl dX9_isAhead_79
      · replace h := (if_neg hc3).symm.trans h
        refine q_iconst (v := 1) hx dX9_isAhead_74 (by decide) ?_
        refine q_goto hx 79 dX9_isAhead_75 (by decide) ?_
        subst h
        exact q_zret hx hr rfl dX9_isAhead_79
    · replace h := (if_neg hc2).symm.trans h
      refine q_iload hx dX9_isAhead_56 0 rfl ?_
      refine q_if_le hx 65 dX9_isAhead_58 (by decide) (fun hc4 => ?_) (fun hc4 => ?_)
      · replace h := (if_pos hc4).symm.trans h
        refine q_iconst (v := 0) hx dX9_isAhead_65 (by decide) ?_
        refine q_goto hx 79 dX9_isAhead_66 (by decide) ?_
        subst h
        exact q_zret hx hr rfl dX9_isAhead_79
      · replace h := (if_neg hc4).symm.trans h
        refine q_iconst (v := 1) hx dX9_isAhead_61 (by decide) ?_
        refine q_goto hx 79 dX9_isAhead_62 (by decide) ?_
        subst h
        exact q_zret hx hr rfl dX9_isAhead_79
  · replace h := (if_neg hc1).symm.trans h
    refine q_iload_n hx dX9_isAhead_22 0 rfl ?_
    refine q_if_le hx 30 dX9_isAhead_23 (by decide) (fun hc5 => ?_) (fun hc5 => ?_)
    · replace h := (if_pos hc5).symm.trans h
      refine q_iconst (v := 0) hx dX9_isAhead_30 (by decide) ?_
      subst h
      exact q_zret hx hr rfl dX9_isAhead_31
    · replace h := (if_neg hc5).symm.trans h
      refine q_iconst (v := 1) hx dX9_isAhead_26 (by decide) ?_
      refine q_goto hx 31 dX9_isAhead_27 (by decide) ?_
      subst h
      exact q_zret hx hr rfl dX9_isAhead_31
theorem c_X9_isAhead (l : Launch) (G : q_G) (x : q_A) (σ : q_S) (a1 : Int32) (a2 : Int32)  : q_Met l yX9_isAhead cX9_isAhead 5 (some .boolean) 3 G [.ref (G.2.1 + 0), .int a1, .int a2] σ x (q_Qi G x (f_X9_isAhead σ a1 a2) σ) := ca_X9_isAhead l G x σ a1 a2 rfl
-- X9_sleepersAheadOf
def f_X9_sleepersAheadOf_4 (σ : q_S) : Nat → Int32 → Int32 → Int32 → Option (Int32)
  | 0, _, _, _ => none
  | n + 1, v1, v2, v3 =>
    if (σ 2 0) ≤ v3 then (some v2) else (if ((f_X9_isAhead σ v3 v1)) = 0 then (f_X9_sleepersAheadOf_4 σ n v1 v2 (v3 + 1)) else (f_X9_sleepersAheadOf_4 σ n v1 (v2 + 1) (v3 + 1)))
set_option maxHeartbeats 4000000 in
set_option maxRecDepth 100000 in
theorem s_X9_sleepersAheadOf_4 {X : q_X} {G : q_G} {x : q_A} (σ : q_S) (hx : q_Cx X G RX9 cX9_sleepersAheadOf 4 4) (hr : (q_Xm X).sig.returnType = some .int) {res : Int32} : ∀ (n : Nat) (v1 : Int32) (v2 : Int32) (v3 : Int32), f_X9_sleepersAheadOf_4 σ n v1 v2 v3 = some res → q_Wq X G x 4 (q_MQ X G (q_Qi G x res σ)) 0 0 4 [(0, .ref (G.2.1 + 0)), (1, .int v1), (2, .int v2), (3, .int v3)] [] σ := by
  intro n
  induction n with
  | zero => exact fun _ _ _ h => nomatch (show (none : Option (Int32)) = some res from h)
  | succ n ih =>
    intro v1 v2 v3 h
    rw [f_X9_sleepersAheadOf_4] at h
    refine q_iload_n hx dX9_sleepersAheadOf_4 3 rfl ?_
    refine q_aload_n hx dX9_sleepersAheadOf_5 0 rfl ?_
    refine q_get (v := .ref (G.2.1 + 2)) hx q_fl_X9_20 dX9_sleepersAheadOf_6 (q_ne kd_0 (by decide)) (q_e9 kd_0) rfl ?_
    refine q_get (v := .int (σ 2 0)) hx q_fl_X9_280 dX9_sleepersAheadOf_9 (q_ne dr_2.1 (by decide)) (q_e2 dr_2.1) rfl ?_
    refine q_icmp_ge hx 33 dX9_sleepersAheadOf_12 (by decide) (fun hc1 => ?_) (fun hc1 => ?_)
    · replace h := (if_pos hc1).symm.trans h
      refine q_iload_n hx dX9_sleepersAheadOf_33 2 rfl ?_
      cases h
      exact q_iret hx hr dX9_sleepersAheadOf_34
    · replace h := (if_neg hc1).symm.trans h
      refine q_aload_n hx dX9_sleepersAheadOf_15 0 rfl ?_
      refine q_iload_n hx dX9_sleepersAheadOf_16 3 rfl ?_
      refine q_iload_n hx dX9_sleepersAheadOf_17 1 rfl ?_
      refine q_callVi (As := [.int v3, .int v1]) (rest := []) hx q_kR0 (c_X9_isAhead (q_Xl X) G x σ v3 v1) q_ml_X9_427 q_mn_X9_isAhead q_mi_X9_isAhead q_se_X9_isAhead (by decide) rfl (Nat.le_of_ble_eq_true rfl) dX9_sleepersAheadOf_18 (q_ne kd_0 (by decide)) (q_e9 kd_0) rfl rfl rfl ?_
      refine q_if_eq hx 27 dX9_sleepersAheadOf_21 (by decide) (fun hc2 => ?_) (fun hc2 => ?_)
      · replace h := (if_pos hc2).symm.trans h
        refine q_iinc hx [(3, .int (v3 + 1)), (0, .ref (G.2.1 + 0)), (1, .int v1), (2, .int v2)] dX9_sleepersAheadOf_27 3 rfl rfl (by decide) rfl ?_
        refine q_goto hx 4 dX9_sleepersAheadOf_30 (by decide) ?_
        refine q_sub [1, 2, 3, 0] rfl ?_
        exact ih v1 v2 (v3 + 1) h
      · replace h := (if_neg hc2).symm.trans h
        refine q_iinc hx [(2, .int (v2 + 1)), (0, .ref (G.2.1 + 0)), (1, .int v1), (3, .int v3)] dX9_sleepersAheadOf_24 2 rfl rfl (by decide) rfl ?_
        refine q_iinc hx [(3, .int (v3 + 1)), (2, .int (v2 + 1)), (0, .ref (G.2.1 + 0)), (1, .int v1)] dX9_sleepersAheadOf_27 3 rfl rfl (by decide) rfl ?_
        refine q_goto hx 4 dX9_sleepersAheadOf_30 (by decide) ?_
        refine q_sub [2, 3, 1, 0] rfl ?_
        exact ih v1 (v2 + 1) (v3 + 1) h
def f_X9_sleepersAheadOf (σ : q_S) (a1 : Int32) : Option (Int32) :=
  f_X9_sleepersAheadOf_4 σ q_fu a1 0 0
set_option maxHeartbeats 4000000 in
set_option maxRecDepth 100000 in
theorem c_X9_sleepersAheadOf (l : Launch) (G : q_G) (x : q_A) (σ : q_S) (a1 : Int32)  {res : Int32} (h : f_X9_sleepersAheadOf σ a1 = some res) : q_Met l yX9_sleepersAheadOf cX9_sleepersAheadOf 4 (some .int) 4 G [.ref (G.2.1 + 0), .int a1] σ x (q_Qi G x res σ) := by
  refine q_of (by decide) (Nat.le_of_ble_eq_true rfl) (fun X hl0 hx hr => ?_)
  subst hl0
  have hx : q_Cx X G RX9 cX9_sleepersAheadOf 4 4 := hx
  unfold f_X9_sleepersAheadOf at h
  show q_Wq X G x 4 (q_MQ X G (q_Qi G x res σ)) 0 0 0 [(0, .ref (G.2.1 + 0)), (1, .int a1)] [] σ
  refine q_iconst (v := 0) hx dX9_sleepersAheadOf_0 (by decide) ?_
  refine q_istore_n hx [(2, .int 0), (0, .ref (G.2.1 + 0)), (1, .int a1)] dX9_sleepersAheadOf_1 (by decide) rfl ?_
  refine q_iconst (v := 0) hx dX9_sleepersAheadOf_2 (by decide) ?_
  refine q_istore_n hx [(3, .int 0), (2, .int 0), (0, .ref (G.2.1 + 0)), (1, .int a1)] dX9_sleepersAheadOf_3 (by decide) rfl ?_
  refine q_sub [2, 3, 1, 0] rfl ?_
  exact s_X9_sleepersAheadOf_4 σ hx hr q_fu a1 0 0 h
-- X9_areAreasAlike
def f_X9_areAreasAlike_2 (σ : q_S) : Nat → Int32 → Option (Int32)
  | 0, _ => none
  | n + 1, v1 =>
    if (σ 2 0) ≤ v1 then (some 1) else (Option.bind (f_X6_areaByChains σ ((f_X2_plotOf 2 v1))) (fun q2 => Option.bind (f_X6_areaByCells σ ((f_X2_plotOf 2 v1))) (fun q3 => if q2 = q3 then (f_X9_areAreasAlike_2 σ n (v1 + 1)) else (some 0))))
set_option maxHeartbeats 4000000 in
set_option maxRecDepth 100000 in
theorem s_X9_areAreasAlike_2 {X : q_X} {G : q_G} {x : q_A} (σ : q_S) (hx : q_Cx X G RX9 cX9_areAreasAlike 3 5) (hr : (q_Xm X).sig.returnType = some .boolean) {res : Int32} : ∀ (n : Nat) (v1 : Int32), f_X9_areAreasAlike_2 σ n v1 = some res → q_Wq X G x 3 (q_MQ X G (q_Qi G x res σ)) 0 0 2 [(0, .ref (G.2.1 + 0)), (1, .int v1)] [] σ := by
  intro n
  induction n with
  | zero => exact fun _ h => nomatch (show (none : Option (Int32)) = some res from h)
  | succ n ih =>
    intro v1 h
    rw [f_X9_areAreasAlike_2] at h
    refine q_iload_n hx dX9_areAreasAlike_2 1 rfl ?_
    refine q_aload_n hx dX9_areAreasAlike_3 0 rfl ?_
    refine q_get (v := .ref (G.2.1 + 2)) hx q_fl_X9_20 dX9_areAreasAlike_4 (q_ne kd_0 (by decide)) (q_e9 kd_0) rfl ?_
    refine q_get (v := .int (σ 2 0)) hx q_fl_X9_280 dX9_areAreasAlike_7 (q_ne dr_2.1 (by decide)) (q_e2 dr_2.1) rfl ?_
    refine q_icmp_ge hx 41 dX9_areAreasAlike_10 (by decide) (fun hc1 => ?_) (fun hc1 => ?_)
    · replace h := (if_pos hc1).symm.trans h
      refine q_iconst (v := 1) hx dX9_areAreasAlike_41 (by decide) ?_
      cases h
      exact q_zret hx hr rfl dX9_areAreasAlike_42
    · replace h := (if_neg hc1).symm.trans h
      refine q_aload_n hx dX9_areAreasAlike_13 0 rfl ?_
      refine q_get (v := .ref (G.2.1 + 2)) hx q_fl_X9_20 dX9_areAreasAlike_14 (q_ne kd_0 (by decide)) (q_e9 kd_0) rfl ?_
      refine q_iload_n hx dX9_areAreasAlike_17 1 rfl ?_
      refine q_callVr (As := [.int v1]) (rest := []) hx q_kR0 (c_X2_plotOf (q_Xl X) G x σ 2 v1 dr_2) q_ml_X9_148 q_mn_X2_plotOf q_mi_X2_plotOf q_se_X2_plotOf (by decide) rfl (Nat.le_of_ble_eq_true rfl) dX9_areAreasAlike_18 (q_ne dr_2.1 (by decide)) (q_e2 dr_2.1) rfl rfl rfl ?_
      refine q_astore_n hx [(2, .ref (G.2.1 + (f_X2_plotOf 2 v1))), (0, .ref (G.2.1 + 0)), (1, .int v1)] dX9_areAreasAlike_21 (by decide) rfl ?_
      refine q_aload_n hx dX9_areAreasAlike_22 0 rfl ?_
      refine q_bindE h (fun q2 hq2 h => ?_)
      refine q_callVi (As := []) (rest := []) hx q_kR0 (c_X6_areaByChains (q_Xl X) G x σ ((f_X2_plotOf 2 v1)) ((q_plotOf_ok dr_2 v1)) hq2) q_ml_X9_247 q_mn_X6_areaByChains q_mi_X6_areaByChains q_se_X6_areaByChains (by decide) rfl (Nat.le_of_ble_eq_true rfl) dX9_areAreasAlike_23 (q_ne (q_plotOf_ok dr_2 v1).1 (by decide)) (q_e6 (q_plotOf_ok dr_2 v1).1) rfl rfl rfl ?_
      refine q_aload_n hx dX9_areAreasAlike_26 0 rfl ?_
      refine q_bindE h (fun q3 hq3 h => ?_)
      refine q_callVi (As := []) (rest := [.int q2]) hx q_kR0 (c_X6_areaByCells (q_Xl X) G x σ ((f_X2_plotOf 2 v1)) ((q_plotOf_ok dr_2 v1)) hq3) q_ml_X9_250 q_mn_X6_areaByCells q_mi_X6_areaByCells q_se_X6_areaByCells (by decide) rfl (Nat.le_of_ble_eq_true rfl) dX9_areAreasAlike_27 (q_ne (q_plotOf_ok dr_2 v1).1 (by decide)) (q_e6 (q_plotOf_ok dr_2 v1).1) rfl rfl rfl ?_
      refine q_icmp_eq hx 35 dX9_areAreasAlike_30 (by decide) (fun hc4 => ?_) (fun hc4 => ?_)
      · replace h := (if_pos hc4).symm.trans h
        refine q_iinc hx [(1, .int (v1 + 1)), (2, .ref (G.2.1 + (f_X2_plotOf 2 v1))), (0, .ref (G.2.1 + 0))] dX9_areAreasAlike_35 2 rfl rfl (by decide) rfl ?_
        refine q_goto hx 2 dX9_areAreasAlike_38 (by decide) ?_
        refine q_sub [2, 0] rfl ?_
        exact ih (v1 + 1) h
      · replace h := (if_neg hc4).symm.trans h
        refine q_iconst (v := 0) hx dX9_areAreasAlike_33 (by decide) ?_
        cases h
        exact q_zret hx hr rfl dX9_areAreasAlike_34
def f_X9_areAreasAlike (σ : q_S) : Option (Int32) :=
  f_X9_areAreasAlike_2 σ q_fu 0
set_option maxHeartbeats 4000000 in
set_option maxRecDepth 100000 in
theorem c_X9_areAreasAlike (l : Launch) (G : q_G) (x : q_A) (σ : q_S)   {res : Int32} (h : f_X9_areAreasAlike σ = some res) : q_Met l yX9_areAreasAlike cX9_areAreasAlike 3 (some .boolean) 5 G [.ref (G.2.1 + 0)] σ x (q_Qi G x res σ) := by
  refine q_of (by decide) (Nat.le_of_ble_eq_true rfl) (fun X hl0 hx hr => ?_)
  subst hl0
  have hx : q_Cx X G RX9 cX9_areAreasAlike 3 5 := hx
  unfold f_X9_areAreasAlike at h
  show q_Wq X G x 3 (q_MQ X G (q_Qi G x res σ)) 0 0 0 [(0, .ref (G.2.1 + 0))] [] σ
  refine q_iconst (v := 0) hx dX9_areAreasAlike_0 (by decide) ?_
  refine q_istore_n hx [(1, .int 0), (0, .ref (G.2.1 + 0))] dX9_areAreasAlike_1 (by decide) rfl ?_
  refine q_sub [1, 0] rfl ?_
  exact s_X9_areAreasAlike_2 σ hx hr q_fu 0 h
-- X9_areBordersAlike
def f_X9_areBordersAlike_15 (σ : q_S) (k2 : Int32 → Option (Int32)) : Nat → Int32 → Int32 → Option (Int32)
  | 0, _, _ => none
  | n + 1, v1, v2 =>
    if (σ 2 0) ≤ v2 then (k2 (v1 + 1)) else (Option.bind (f_X0_borderByCells σ v1 v2) (fun q3 => Option.bind (f_X0_borderAround σ v1 v2) (fun q4 => if q3 = q4 then (f_X9_areBordersAlike_15 σ k2 n v1 (v2 + 1)) else (some 0))))
set_option maxHeartbeats 4000000 in
set_option maxRecDepth 100000 in
theorem s_X9_areBordersAlike_15 {X : q_X} {G : q_G} {x : q_A} (σ : q_S) (hx : q_Cx X G RX9 cX9_areBordersAlike 3 6) (hr : (q_Xm X).sig.returnType = some .boolean) {res : Int32} {k2 : Int32 → Option (Int32)} (hk2 : ∀ (v1 : Int32), k2 v1 = some res → q_Wq X G x 3 (q_MQ X G (q_Qi G x res σ)) 0 0 2 [(0, .ref (G.2.1 + 0)), (1, .int v1)] [] σ) : ∀ (n : Nat) (v1 : Int32) (v2 : Int32), f_X9_areBordersAlike_15 σ k2 n v1 v2 = some res → q_Wq X G x 3 (q_MQ X G (q_Qi G x res σ)) 0 0 15 [(0, .ref (G.2.1 + 0)), (1, .int v1), (2, .int v2)] [] σ := by
  intro n
  induction n with
  | zero => exact fun _ _ h => nomatch (show (none : Option (Int32)) = some res from h)
  | succ n ih =>
    intro v1 v2 h
    rw [f_X9_areBordersAlike_15] at h
    refine q_iload_n hx dX9_areBordersAlike_15 2 rfl ?_
    refine q_aload_n hx dX9_areBordersAlike_16 0 rfl ?_
    refine q_get (v := .ref (G.2.1 + 2)) hx q_fl_X9_20 dX9_areBordersAlike_17 (q_ne kd_0 (by decide)) (q_e9 kd_0) rfl ?_
    refine q_get (v := .int (σ 2 0)) hx q_fl_X9_280 dX9_areBordersAlike_20 (q_ne dr_2.1 (by decide)) (q_e2 dr_2.1) rfl ?_
    refine q_icmp_ge hx 55 dX9_areBordersAlike_23 (by decide) (fun hc2 => ?_) (fun hc2 => ?_)
    · replace h := (if_pos hc2).symm.trans h
      refine q_iinc hx [(1, .int (v1 + 1)), (0, .ref (G.2.1 + 0)), (2, .int v2)] dX9_areBordersAlike_55 1 rfl rfl (by decide) rfl ?_
      refine q_goto hx 2 dX9_areBordersAlike_58 (by decide) ?_
      refine q_sub [1, 0] rfl ?_
      exact hk2 (v1 + 1) h
    · replace h := (if_neg hc2).symm.trans h
      refine q_aload_n hx dX9_areBordersAlike_26 0 rfl ?_
      refine q_get (v := .ref (G.2.1 + 280)) hx q_fl_X9_50 dX9_areBordersAlike_27 (q_ne kd_0 (by decide)) (q_e9 kd_0) rfl ?_
      refine q_iload_n hx dX9_areBordersAlike_30 1 rfl ?_
      refine q_iload_n hx dX9_areBordersAlike_31 2 rfl ?_
      refine q_bindE h (fun q3 hq3 h => ?_)
      refine q_callVi (As := [.int v1, .int v2]) (rest := []) hx q_kR0 (c_X0_borderByCells (q_Xl X) G x σ v1 v2 hq3) q_ml_X9_253 q_mn_X0_borderByCells q_mi_X0_borderByCells q_se_X0_borderByCells (by decide) rfl (Nat.le_of_ble_eq_true rfl) dX9_areBordersAlike_32 (q_ne kd_280 (by decide)) (q_e0 kd_280) rfl rfl rfl ?_
      refine q_aload_n hx dX9_areBordersAlike_35 0 rfl ?_
      refine q_get (v := .ref (G.2.1 + 280)) hx q_fl_X9_50 dX9_areBordersAlike_36 (q_ne kd_0 (by decide)) (q_e9 kd_0) rfl ?_
      refine q_iload_n hx dX9_areBordersAlike_39 1 rfl ?_
      refine q_iload_n hx dX9_areBordersAlike_40 2 rfl ?_
      refine q_bindE h (fun q4 hq4 h => ?_)
      refine q_callVi (As := [.int v1, .int v2]) (rest := [.int q3]) hx q_kR0 (c_X0_borderAround (q_Xl X) G x σ v1 v2 hq4) q_ml_X9_256 q_mn_X0_borderAround q_mi_X0_borderAround q_se_X0_borderAround (by decide) rfl (Nat.le_of_ble_eq_true rfl) dX9_areBordersAlike_41 (q_ne kd_280 (by decide)) (q_e0 kd_280) rfl rfl rfl ?_
      refine q_icmp_eq hx 49 dX9_areBordersAlike_44 (by decide) (fun hc5 => ?_) (fun hc5 => ?_)
      · replace h := (if_pos hc5).symm.trans h
        refine q_iinc hx [(2, .int (v2 + 1)), (0, .ref (G.2.1 + 0)), (1, .int v1)] dX9_areBordersAlike_49 2 rfl rfl (by decide) rfl ?_
        refine q_goto hx 15 dX9_areBordersAlike_52 (by decide) ?_
        refine q_sub [1, 2, 0] rfl ?_
        exact ih v1 (v2 + 1) h
      · replace h := (if_neg hc5).symm.trans h
        refine q_iconst (v := 0) hx dX9_areBordersAlike_47 (by decide) ?_
        cases h
        exact q_zret hx hr rfl dX9_areBordersAlike_48
def f_X9_areBordersAlike_2 (σ : q_S) : Nat → Int32 → Option (Int32)
  | 0, _ => none
  | n + 1, v1 =>
    if (σ 2 0) ≤ v1 then (some 1) else (f_X9_areBordersAlike_15 σ (f_X9_areBordersAlike_2 σ n) q_fu v1 0)
set_option maxHeartbeats 4000000 in
set_option maxRecDepth 100000 in
theorem s_X9_areBordersAlike_2 {X : q_X} {G : q_G} {x : q_A} (σ : q_S) (hx : q_Cx X G RX9 cX9_areBordersAlike 3 6) (hr : (q_Xm X).sig.returnType = some .boolean) {res : Int32} : ∀ (n : Nat) (v1 : Int32), f_X9_areBordersAlike_2 σ n v1 = some res → q_Wq X G x 3 (q_MQ X G (q_Qi G x res σ)) 0 0 2 [(0, .ref (G.2.1 + 0)), (1, .int v1)] [] σ := by
  intro n
  induction n with
  | zero => exact fun _ h => nomatch (show (none : Option (Int32)) = some res from h)
  | succ n ih =>
    intro v1 h
    rw [f_X9_areBordersAlike_2] at h
    refine q_iload_n hx dX9_areBordersAlike_2 1 rfl ?_
    refine q_aload_n hx dX9_areBordersAlike_3 0 rfl ?_
    refine q_get (v := .ref (G.2.1 + 2)) hx q_fl_X9_20 dX9_areBordersAlike_4 (q_ne kd_0 (by decide)) (q_e9 kd_0) rfl ?_
    refine q_get (v := .int (σ 2 0)) hx q_fl_X9_280 dX9_areBordersAlike_7 (q_ne dr_2.1 (by decide)) (q_e2 dr_2.1) rfl ?_
    refine q_icmp_ge hx 61 dX9_areBordersAlike_10 (by decide) (fun hc1 => ?_) (fun hc1 => ?_)
    · replace h := (if_pos hc1).symm.trans h
      refine q_iconst (v := 1) hx dX9_areBordersAlike_61 (by decide) ?_
      cases h
      exact q_zret hx hr rfl dX9_areBordersAlike_62
    · replace h := (if_neg hc1).symm.trans h
      refine q_iconst (v := 0) hx dX9_areBordersAlike_13 (by decide) ?_
      refine q_istore_n hx [(2, .int 0), (0, .ref (G.2.1 + 0)), (1, .int v1)] dX9_areBordersAlike_14 (by decide) rfl ?_
      refine q_sub [1, 2, 0] rfl ?_
      exact s_X9_areBordersAlike_15 σ hx hr (fun v1 h => ih v1 h) q_fu v1 0 h
def f_X9_areBordersAlike (σ : q_S) : Option (Int32) :=
  f_X9_areBordersAlike_2 σ q_fu 0
set_option maxHeartbeats 4000000 in
set_option maxRecDepth 100000 in
theorem c_X9_areBordersAlike (l : Launch) (G : q_G) (x : q_A) (σ : q_S)   {res : Int32} (h : f_X9_areBordersAlike σ = some res) : q_Met l yX9_areBordersAlike cX9_areBordersAlike 3 (some .boolean) 6 G [.ref (G.2.1 + 0)] σ x (q_Qi G x res σ) := by
  refine q_of (by decide) (Nat.le_of_ble_eq_true rfl) (fun X hl0 hx hr => ?_)
  subst hl0
  have hx : q_Cx X G RX9 cX9_areBordersAlike 3 6 := hx
  unfold f_X9_areBordersAlike at h
  show q_Wq X G x 3 (q_MQ X G (q_Qi G x res σ)) 0 0 0 [(0, .ref (G.2.1 + 0))] [] σ
  refine q_iconst (v := 0) hx dX9_areBordersAlike_0 (by decide) ?_
  refine q_istore_n hx [(1, .int 0), (0, .ref (G.2.1 + 0))] dX9_areBordersAlike_1 (by decide) rfl ?_
  refine q_sub [1, 0] rfl ?_
  exact s_X9_areBordersAlike_2 σ hx hr q_fu 0 h
-- X9_areOwnersRight
def f_X9_areOwnersRight_10 (σ : q_S) (k2 : Int32 → Option (Int32)) : Nat → Int32 → Int32 → Option (Int32)
  | 0, _, _ => none
  | n + 1, v1, v2 =>
    if 12 ≤ v2 then (k2 (v1 + 1)) else (if ((f_X0_ownerAt σ v2 v1)) = ((-1)) then (f_X9_areOwnersRight_10 σ k2 n v1 (v2 + 1)) else (if ((f_X2_depthOf σ 2 ((f_X0_ownerAt σ v2 v1)))) = 0 then (some 0) else (Option.bind (f_X6_holds σ ((f_X2_plotOf 2 ((f_X0_ownerAt σ v2 v1)))) v2 v1) (fun q5 => if q5 = 0 then (some 0) else (f_X9_areOwnersRight_10 σ k2 n v1 (v2 + 1))))))
set_option maxHeartbeats 4000000 in
set_option maxRecDepth 100000 in
theorem s_X9_areOwnersRight_10 {X : q_X} {G : q_G} {x : q_A} (σ : q_S) (hx : q_Cx X G RX9 cX9_areOwnersRight 4 4) (hr : (q_Xm X).sig.returnType = some .boolean) {res : Int32} {k2 : Int32 → Option (Int32)} (hk2 : ∀ (v1 : Int32), k2 v1 = some res → q_Wq X G x 4 (q_MQ X G (q_Qi G x res σ)) 0 0 2 [(0, .ref (G.2.1 + 0)), (1, .int v1)] [] σ) : ∀ (n : Nat) (v1 : Int32) (v2 : Int32), f_X9_areOwnersRight_10 σ k2 n v1 v2 = some res → q_Wq X G x 4 (q_MQ X G (q_Qi G x res σ)) 0 0 10 [(0, .ref (G.2.1 + 0)), (1, .int v1), (2, .int v2)] [] σ := by
  intro n
  induction n with
  | zero => exact fun _ _ h => nomatch (show (none : Option (Int32)) = some res from h)
  | succ n ih =>
    intro v1 v2 h
    rw [f_X9_areOwnersRight_10] at h
    refine q_iload_n hx dX9_areOwnersRight_10 2 rfl ?_
    refine q_bipush (v := 12) hx dX9_areOwnersRight_11 (by decide) ?_
    refine q_icmp_ge hx 66 dX9_areOwnersRight_13 (by decide) (fun hc2 => ?_) (fun hc2 => ?_)
    · replace h := (if_pos hc2).symm.trans h
      refine q_iinc hx [(1, .int (v1 + 1)), (0, .ref (G.2.1 + 0)), (2, .int v2)] dX9_areOwnersRight_66 1 rfl rfl (by decide) rfl ?_
      refine q_goto hx 2 dX9_areOwnersRight_69 (by decide) ?_
      refine q_sub [1, 0] rfl ?_
      exact hk2 (v1 + 1) h
    · replace h := (if_neg hc2).symm.trans h
      refine q_aload_n hx dX9_areOwnersRight_16 0 rfl ?_
      refine q_get (v := .ref (G.2.1 + 280)) hx q_fl_X9_50 dX9_areOwnersRight_17 (q_ne kd_0 (by decide)) (q_e9 kd_0) rfl ?_
      refine q_iload_n hx dX9_areOwnersRight_20 2 rfl ?_
      refine q_iload_n hx dX9_areOwnersRight_21 1 rfl ?_
      refine q_callVi (As := [.int v2, .int v1]) (rest := []) hx q_kR0 (c_X0_ownerAt (q_Xl X) G x σ v2 v1) q_ml_X9_348 q_mn_X0_ownerAt q_mi_X0_ownerAt q_se_X0_ownerAt (by decide) rfl (Nat.le_of_ble_eq_true rfl) dX9_areOwnersRight_22 (q_ne kd_280 (by decide)) (q_e0 kd_280) rfl rfl rfl ?_
      refine q_istore_n hx [(3, .int ((f_X0_ownerAt σ v2 v1))), (0, .ref (G.2.1 + 0)), (1, .int v1), (2, .int v2)] dX9_areOwnersRight_25 (by decide) rfl ?_
      refine q_iload_n hx dX9_areOwnersRight_26 0 rfl ?_
      refine q_iconst (v := (-1)) hx dX9_areOwnersRight_27 (by decide) ?_
      refine q_icmp_eq hx 60 dX9_areOwnersRight_28 (by decide) (fun hc3 => ?_) (fun hc3 => ?_)
      · replace h := (if_pos hc3).symm.trans h
        refine q_iinc hx [(2, .int (v2 + 1)), (3, .int ((f_X0_ownerAt σ v2 v1))), (0, .ref (G.2.1 + 0)), (1, .int v1)] dX9_areOwnersRight_60 3 rfl rfl (by decide) rfl ?_
        refine q_goto hx 10 dX9_areOwnersRight_63 (by decide) ?_
        refine q_sub [2, 3, 0] rfl ?_
        exact ih v1 (v2 + 1) h
      · replace h := (if_neg hc3).symm.trans h
        refine q_aload_n hx dX9_areOwnersRight_31 1 rfl ?_
        refine q_get (v := .ref (G.2.1 + 2)) hx q_fl_X9_20 dX9_areOwnersRight_32 (q_ne kd_0 (by decide)) (q_e9 kd_0) rfl ?_
        refine q_iload_n hx dX9_areOwnersRight_35 0 rfl ?_
        refine q_callVi (As := [.int ((f_X0_ownerAt σ v2 v1))]) (rest := []) hx q_kR0 (c_X2_depthOf (q_Xl X) G x σ 2 ((f_X0_ownerAt σ v2 v1)) dr_2) q_ml_X9_152 q_mn_X2_depthOf q_mi_X2_depthOf q_se_X2_depthOf (by decide) rfl (Nat.le_of_ble_eq_true rfl) dX9_areOwnersRight_36 (q_ne dr_2.1 (by decide)) (q_e2 dr_2.1) rfl rfl rfl ?_
        refine q_if_eq hx 58 dX9_areOwnersRight_39 (by decide) (fun hc4 => ?_) (fun hc4 => ?_)
        · replace h := (if_pos hc4).symm.trans h
          refine q_iconst (v := 0) hx dX9_areOwnersRight_58 (by decide) ?_
          cases h
          exact q_zret hx hr rfl dX9_areOwnersRight_59
        · replace h := (if_neg hc4).symm.trans h
          refine q_aload_n hx dX9_areOwnersRight_42 1 rfl ?_
          refine q_get (v := .ref (G.2.1 + 2)) hx q_fl_X9_20 dX9_areOwnersRight_43 (q_ne kd_0 (by decide)) (q_e9 kd_0) rfl ?_
          refine q_iload_n hx dX9_areOwnersRight_46 0 rfl ?_
          refine q_callVr (As := [.int ((f_X0_ownerAt σ v2 v1))]) (rest := []) hx q_kR0 (c_X2_plotOf (q_Xl X) G x σ 2 ((f_X0_ownerAt σ v2 v1)) dr_2) q_ml_X9_148 q_mn_X2_plotOf q_mi_X2_plotOf q_se_X2_plotOf (by decide) rfl (Nat.le_of_ble_eq_true rfl) dX9_areOwnersRight_47 (q_ne dr_2.1 (by decide)) (q_e2 dr_2.1) rfl rfl rfl ?_
          refine q_iload_n hx dX9_areOwnersRight_50 3 rfl ?_
          refine q_iload_n hx dX9_areOwnersRight_51 2 rfl ?_
          refine q_bindE h (fun q5 hq5 h => ?_)
          refine q_callVi (As := [.int v2, .int v1]) (rest := []) hx q_kR0 (c_X6_holds (q_Xl X) G x σ ((f_X2_plotOf 2 ((f_X0_ownerAt σ v2 v1)))) v2 v1 ((q_plotOf_ok dr_2 ((f_X0_ownerAt σ v2 v1)))) hq5) q_ml_X9_244 q_mn_X6_holds q_mi_X6_holds q_se_X6_holds (by decide) rfl (Nat.le_of_ble_eq_true rfl) dX9_areOwnersRight_52 (q_ne (q_plotOf_ok dr_2 ((f_X0_ownerAt σ v2 v1))).1 (by decide)) (q_e6 (q_plotOf_ok dr_2 ((f_X0_ownerAt σ v2 v1))).1) rfl rfl rfl ?_
          refine q_if_ne hx 60 dX9_areOwnersRight_55 (by decide) (fun hc6 => ?_) (fun hc6 => ?_)
          · replace h := (if_neg hc6).symm.trans h
            refine q_iinc hx [(2, .int (v2 + 1)), (3, .int ((f_X0_ownerAt σ v2 v1))), (0, .ref (G.2.1 + 0)), (1, .int v1)] dX9_areOwnersRight_60 3 rfl rfl (by decide) rfl ?_
            refine q_goto hx 10 dX9_areOwnersRight_63 (by decide) ?_
            refine q_sub [2, 3, 0] rfl ?_
            exact ih v1 (v2 + 1) h
          · replace h := (if_pos hc6).symm.trans h
            refine q_iconst (v := 0) hx dX9_areOwnersRight_58 (by decide) ?_
            cases h
            exact q_zret hx hr rfl dX9_areOwnersRight_59
def f_X9_areOwnersRight_2 (σ : q_S) : Nat → Int32 → Option (Int32)
  | 0, _ => none
  | n + 1, v1 =>
    if 8 ≤ v1 then (some 1) else (f_X9_areOwnersRight_10 σ (f_X9_areOwnersRight_2 σ n) q_fu v1 0)
set_option maxHeartbeats 4000000 in
set_option maxRecDepth 100000 in
theorem s_X9_areOwnersRight_2 {X : q_X} {G : q_G} {x : q_A} (σ : q_S) (hx : q_Cx X G RX9 cX9_areOwnersRight 4 4) (hr : (q_Xm X).sig.returnType = some .boolean) {res : Int32} : ∀ (n : Nat) (v1 : Int32), f_X9_areOwnersRight_2 σ n v1 = some res → q_Wq X G x 4 (q_MQ X G (q_Qi G x res σ)) 0 0 2 [(0, .ref (G.2.1 + 0)), (1, .int v1)] [] σ := by
  intro n
  induction n with
  | zero => exact fun _ h => nomatch (show (none : Option (Int32)) = some res from h)
  | succ n ih =>
    intro v1 h
    rw [f_X9_areOwnersRight_2] at h
    refine q_iload_n hx dX9_areOwnersRight_2 1 rfl ?_
    refine q_bipush (v := 8) hx dX9_areOwnersRight_3 (by decide) ?_
    refine q_icmp_ge hx 72 dX9_areOwnersRight_5 (by decide) (fun hc1 => ?_) (fun hc1 => ?_)
    · replace h := (if_pos hc1).symm.trans h
      refine q_iconst (v := 1) hx dX9_areOwnersRight_72 (by decide) ?_
      cases h
      exact q_zret hx hr rfl dX9_areOwnersRight_73
    · replace h := (if_neg hc1).symm.trans h
      refine q_iconst (v := 0) hx dX9_areOwnersRight_8 (by decide) ?_
      refine q_istore_n hx [(2, .int 0), (0, .ref (G.2.1 + 0)), (1, .int v1)] dX9_areOwnersRight_9 (by decide) rfl ?_
      refine q_sub [1, 2, 0] rfl ?_
      exact s_X9_areOwnersRight_10 σ hx hr (fun v1 h => ih v1 h) q_fu v1 0 h
def f_X9_areOwnersRight (σ : q_S) : Option (Int32) :=
  f_X9_areOwnersRight_2 σ q_fu 0
set_option maxHeartbeats 4000000 in
set_option maxRecDepth 100000 in
theorem c_X9_areOwnersRight (l : Launch) (G : q_G) (x : q_A) (σ : q_S)   {res : Int32} (h : f_X9_areOwnersRight σ = some res) : q_Met l yX9_areOwnersRight cX9_areOwnersRight 4 (some .boolean) 4 G [.ref (G.2.1 + 0)] σ x (q_Qi G x res σ) := by
  refine q_of (by decide) (Nat.le_of_ble_eq_true rfl) (fun X hl0 hx hr => ?_)
  subst hl0
  have hx : q_Cx X G RX9 cX9_areOwnersRight 4 4 := hx
  unfold f_X9_areOwnersRight at h
  show q_Wq X G x 4 (q_MQ X G (q_Qi G x res σ)) 0 0 0 [(0, .ref (G.2.1 + 0))] [] σ
  refine q_iconst (v := 0) hx dX9_areOwnersRight_0 (by decide) ?_
  refine q_istore_n hx [(1, .int 0), (0, .ref (G.2.1 + 0))] dX9_areOwnersRight_1 (by decide) rfl ?_
  refine q_sub [1, 0] rfl ?_
  exact s_X9_areOwnersRight_2 σ hx hr q_fu 0 h
-- X9_isWell
def f_X9_isWell (σ : q_S) : Option (Int32 × q_S) :=
  Option.bind (f_X0_survey σ 2 0) (fun q1 => Option.bind (f_X9_areAreasAlike q1) (fun q2 => if q2 = 0 then (some ((0, q1))) else (Option.bind (f_X9_areBordersAlike q1) (fun q4 => if q4 = 0 then (some ((0, q1))) else (Option.bind (f_X9_areOwnersRight q1) (fun q6 => if q6 = 0 then (some ((0, q1))) else (some ((1, q1)))))))))
set_option maxHeartbeats 4000000 in
set_option maxRecDepth 100000 in
theorem c_X9_isWell (l : Launch) (G : q_G) (x : q_A) (σ : q_S)   {res : Int32 × q_S} (h : f_X9_isWell σ = some res) : q_Met l yX9_isWell cX9_isWell 1 (some .boolean) 7 G [.ref (G.2.1 + 0)] σ x (q_Qi G x res.1 res.2) := by
  refine q_of (by decide) (Nat.le_of_ble_eq_true rfl) (fun X hl0 hx hr => ?_)
  subst hl0
  have hx : q_Cx X G RX9 cX9_isWell 1 7 := hx
  unfold f_X9_isWell at h
  show q_Wq X G x 1 (q_MQ X G (q_Qi G x res.1 res.2)) 0 0 0 [(0, .ref (G.2.1 + 0))] [] σ
  refine q_aload_n hx dX9_isWell_0 0 rfl ?_
  refine q_get (v := .ref (G.2.1 + 280)) hx q_fl_X9_50 dX9_isWell_1 (q_ne kd_0 (by decide)) (q_e9 kd_0) rfl ?_
  refine q_aload_n hx dX9_isWell_4 0 rfl ?_
  refine q_get (v := .ref (G.2.1 + 2)) hx q_fl_X9_20 dX9_isWell_5 (q_ne kd_0 (by decide)) (q_e9 kd_0) rfl ?_
  refine q_iconst (v := 0) hx dX9_isWell_8 (by decide) ?_
  refine q_bindE h (fun q1 hq1 h => ?_)
  refine q_callVv (As := [.ref (G.2.1 + 2), .int 0]) (rest := []) hx q_kR0 (c_X0_survey (q_Xl X) G x σ 2 0 dr_2 hq1) q_ml_X9_176 q_mn_X0_survey q_mi_X0_survey q_se_X0_survey (by decide) rfl (Nat.le_of_ble_eq_true rfl) dX9_isWell_9 (q_ne kd_280 (by decide)) (q_e0 kd_280) rfl rfl rfl ?_
  refine q_aload_n hx dX9_isWell_12 0 rfl ?_
  refine q_bindE h (fun q2 hq2 h => ?_)
  refine q_callVi (As := []) (rest := []) hx q_kR0 (c_X9_areAreasAlike (q_Xl X) G x q1  hq2) q_ml_X9_293 q_mn_X9_areAreasAlike q_mi_X9_areAreasAlike q_se_X9_areAreasAlike (by decide) rfl (Nat.le_of_ble_eq_true rfl) dX9_isWell_13 (q_ne kd_0 (by decide)) (q_e9 kd_0) rfl rfl rfl ?_
  refine q_if_eq hx 37 dX9_isWell_16 (by decide) (fun hc3 => ?_) (fun hc3 => ?_)
  · replace h := (if_pos hc3).symm.trans h
    refine q_iconst (v := 0) hx dX9_isWell_37 (by decide) ?_
    cases h
    exact q_zret (v := 0) hx hr rfl dX9_isWell_38
  · replace h := (if_neg hc3).symm.trans h
    refine q_aload_n hx dX9_isWell_19 0 rfl ?_
    refine q_bindE h (fun q4 hq4 h => ?_)
    refine q_callVi (As := []) (rest := []) hx q_kR0 (c_X9_areBordersAlike (q_Xl X) G x q1  hq4) q_ml_X9_297 q_mn_X9_areBordersAlike q_mi_X9_areBordersAlike q_se_X9_areBordersAlike (by decide) rfl (Nat.le_of_ble_eq_true rfl) dX9_isWell_20 (q_ne kd_0 (by decide)) (q_e9 kd_0) rfl rfl rfl ?_
    refine q_if_eq hx 37 dX9_isWell_23 (by decide) (fun hc5 => ?_) (fun hc5 => ?_)
    · replace h := (if_pos hc5).symm.trans h
      refine q_iconst (v := 0) hx dX9_isWell_37 (by decide) ?_
      cases h
      exact q_zret (v := 0) hx hr rfl dX9_isWell_38
    · replace h := (if_neg hc5).symm.trans h
      refine q_aload_n hx dX9_isWell_26 0 rfl ?_
      refine q_bindE h (fun q6 hq6 h => ?_)
      refine q_callVi (As := []) (rest := []) hx q_kR0 (c_X9_areOwnersRight (q_Xl X) G x q1  hq6) q_ml_X9_300 q_mn_X9_areOwnersRight q_mi_X9_areOwnersRight q_se_X9_areOwnersRight (by decide) rfl (Nat.le_of_ble_eq_true rfl) dX9_isWell_27 (q_ne kd_0 (by decide)) (q_e9 kd_0) rfl rfl rfl ?_
      refine q_if_eq hx 37 dX9_isWell_30 (by decide) (fun hc7 => ?_) (fun hc7 => ?_)
      · replace h := (if_pos hc7).symm.trans h
        refine q_iconst (v := 0) hx dX9_isWell_37 (by decide) ?_
        cases h
        exact q_zret (v := 0) hx hr rfl dX9_isWell_38
      · replace h := (if_neg hc7).symm.trans h
        refine q_iconst (v := 1) hx dX9_isWell_33 (by decide) ?_
        refine q_goto hx 38 dX9_isWell_34 (by decide) ?_
        cases h
        exact q_zret (v := 1) hx hr rfl dX9_isWell_38
-- X9_save
def f_X9_save (σ : q_S) : Option (Int32 × q_S) :=
  Option.bind (f_X2_copyFrom σ 28 2) (fun q1 => some (((q_up q1 0 4 1) 2 0, q_up q1 0 4 1)))
set_option maxHeartbeats 4000000 in
set_option maxRecDepth 100000 in
theorem c_X9_save (l : Launch) (G : q_G) (x : q_A) (σ : q_S)   {res : Int32 × q_S} (h : f_X9_save σ = some res) : q_Met l yX9_save cX9_save 1 (some .int) 5 G [.ref (G.2.1 + 0)] σ x (q_Qi G x res.1 res.2) := by
  refine q_of (by decide) (Nat.le_of_ble_eq_true rfl) (fun X hl0 hx hr => ?_)
  subst hl0
  have hx : q_Cx X G RX9 cX9_save 1 5 := hx
  unfold f_X9_save at h
  show q_Wq X G x 1 (q_MQ X G (q_Qi G x res.1 res.2)) 0 0 0 [(0, .ref (G.2.1 + 0))] [] σ
  refine q_aload_n hx dX9_save_0 0 rfl ?_
  refine q_get (v := .ref (G.2.1 + 28)) hx q_fl_X9_33 dX9_save_1 (q_ne kd_0 (by decide)) (q_e9 kd_0) rfl ?_
  refine q_aload_n hx dX9_save_4 0 rfl ?_
  refine q_get (v := .ref (G.2.1 + 2)) hx q_fl_X9_20 dX9_save_5 (q_ne kd_0 (by decide)) (q_e9 kd_0) rfl ?_
  refine q_bindE h (fun q1 hq1 h => ?_)
  refine q_callVv (As := [.ref (G.2.1 + 2)]) (rest := []) hx q_kR0 (c_X2_copyFrom (q_Xl X) G x σ 28 2 dr_28 dr_2 hq1) q_ml_X9_409 q_mn_X2_copyFrom q_mi_X2_copyFrom q_se_X2_copyFrom (by decide) rfl (Nat.le_of_ble_eq_true rfl) dX9_save_8 (q_ne dr_28.1 (by decide)) (q_e2 dr_28.1) rfl rfl rfl ?_
  refine q_aload_n hx dX9_save_11 0 rfl ?_
  refine q_iconst (v := 1) hx dX9_save_12 (by decide) ?_
  refine q_put (v := 1) hx q_fl_X9_36 q_fp_9_4 dX9_save_13 (q_ne kd_0 (by decide)) (q_e9 kd_0) (by rw [q_l9]; decide) rfl rfl (by rw [q_e9 kd_0, q_s9_4]) ?_
  refine q_aload_n hx dX9_save_16 0 rfl ?_
  refine q_get (v := .ref (G.2.1 + 2)) hx q_fl_X9_20 dX9_save_17 (q_ne kd_0 (by decide)) (q_e9 kd_0) rfl ?_
  refine q_get (v := .int ((q_up q1 0 4 1) 2 0)) hx q_fl_X9_280 dX9_save_20 (q_ne dr_2.1 (by decide)) (q_e2 dr_2.1) rfl ?_
  cases h
  exact q_iret hx hr dX9_save_23
