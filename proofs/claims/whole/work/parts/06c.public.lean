-- X9_sleeper
def f_X9_sleeper (σ : q_S) (a1 : Int32) : Option (Nat × Int32 × q_S) :=
  Option.bind (f_X3_note σ 2) (fun q1 => if ((f_X8_letCome q1 a1).1) = ((-2)) then (some ((2, 0, (f_X8_letCome q1 a1).2))) else (if 0 ≤ ((f_X8_letCome q1 a1).1) then (Option.bind (f_X3_keep ((f_X8_letCome q1 a1).2)) (fun q4 => some ((0, (f_X8_letCome q1 a1).1, q4)))) else (some ((3, 0, (f_X8_letCome q1 a1).2)))))
set_option maxHeartbeats 4000000 in
set_option maxRecDepth 100000 in
theorem c_X9_sleeper (l : Launch) (G : q_G) (x : q_A) (σ : q_S) (a1 : Int32)  {res : Nat × Int32 × q_S} (h : f_X9_sleeper σ a1 = some res) (hfl : l.stackTraces = false) : q_MetX l yX9_sleeper cX9_sleeper 3 (some .int) 7 G [.ref (G.2.1 + 0), .int a1] σ x (q_QiX G x res.1 res.2.1 res.2.2) res.1 res.2.2 := by
  refine q_ofX (by decide) (Nat.le_of_ble_eq_true rfl) (fun X hl0 hx hr hE hR6 => ?_)
  subst hl0
  have hx : q_Cx X G RX9 cX9_sleeper 3 7 := hx
  unfold f_X9_sleeper at h
  show q_Wq X G x 3 (q_MQX X G x (q_QiX G x res.1 res.2.1 res.2.2) res.1 res.2.2) 0 0 0 [(0, .ref (G.2.1 + 0)), (1, .int a1)] [] σ
  refine q_aload_n hx dX9_sleeper_0 0 rfl ?_
  refine q_get (v := .ref (G.2.1 + 53)) hx q_fl_X9_43 dX9_sleeper_1 (q_ne kd_0 (by decide)) (q_e9 kd_0) rfl ?_
  refine q_aload_n hx dX9_sleeper_4 0 rfl ?_
  refine q_get (v := .ref (G.2.1 + 2)) hx q_fl_X9_20 dX9_sleeper_5 (q_ne kd_0 (by decide)) (q_e9 kd_0) rfl ?_
  refine q_bindE h (fun q1 hq1 h => ?_)
  refine q_callVv (As := [.ref (G.2.1 + 2)]) (rest := []) hx q_kR0 (c_X3_note (q_Xl X) G x σ 2 dr_2 hq1) q_ml_X9_79 q_mn_X3_note q_mi_X3_note q_se_X3_note (by decide) rfl (Nat.le_of_ble_eq_true rfl) dX9_sleeper_8 (q_ne kd_53 (by decide)) (q_e3 kd_53) rfl rfl rfl ?_
  refine q_aload_n hx dX9_sleeper_11 0 rfl ?_
  refine q_get (v := .ref (G.2.1 + 1)) hx q_fl_X9_12 dX9_sleeper_12 (q_ne kd_0 (by decide)) (q_e9 kd_0) rfl ?_
  refine q_iload_n hx dX9_sleeper_15 1 rfl ?_
  refine q_callVi (As := [.int a1]) (rest := []) hx q_kR0 (c_X8_letCome (q_Xl X) G x q1 a1) q_ml_X9_83 q_mn_X8_letCome q_mi_X8_letCome q_se_X8_letCome (by decide) rfl (Nat.le_of_ble_eq_true rfl) dX9_sleeper_16 (q_ne kd_1 (by decide)) (q_e8 kd_1) rfl rfl rfl ?_
  refine q_istore_n hx [(2, .int ((f_X8_letCome q1 a1).1)), (0, .ref (G.2.1 + 0)), (1, .int a1)] dX9_sleeper_19 (by decide) rfl ?_
  refine q_iload_n hx dX9_sleeper_20 0 rfl ?_
  refine q_bipush (v := (-2)) hx dX9_sleeper_21 (by decide) ?_
  refine q_icmp_ne hx 36 dX9_sleeper_23 (by decide) (fun hc2 => ?_) (fun hc2 => ?_)
  · replace h := (if_neg hc2).symm.trans h
    refine q_iload_n hx dX9_sleeper_36 0 rfl ?_
    refine q_if_ge hx 50 dX9_sleeper_37 (by decide) (fun hc3 => ?_) (fun hc3 => ?_)
    · replace h := (if_pos hc3).symm.trans h
      refine q_aload_n hx dX9_sleeper_50 1 rfl ?_
      refine q_get (v := .ref (G.2.1 + 53)) hx q_fl_X9_43 dX9_sleeper_51 (q_ne kd_0 (by decide)) (q_e9 kd_0) rfl ?_
      refine q_bindE h (fun q4 hq4 h => ?_)
      refine q_callVv (As := []) (rest := []) hx q_kR0 (c_X3_keep (q_Xl X) G x ((f_X8_letCome q1 a1).2)  hq4) q_ml_X9_99 q_mn_X3_keep q_mi_X3_keep q_se_X3_keep (by decide) rfl (Nat.le_of_ble_eq_true rfl) dX9_sleeper_54 (q_ne kd_53 (by decide)) (q_e3 kd_53) rfl rfl rfl ?_
      refine q_iload_n hx dX9_sleeper_57 0 rfl ?_
      cases h
      exact q_iretX hx hr dX9_sleeper_58
    · replace h := (if_neg hc3).symm.trans h
      cases h
      exact q_throwS hx hE hR6 (by decide) hfl q_th_X9_94_96_98 3 (by decide) rfl (by decide) dX9_sleeper_40 dX9_sleeper_43 dX9_sleeper_44 dX9_sleeper_46 dX9_sleeper_49
  · replace h := (if_pos hc2).symm.trans h
    cases h
    exact q_throwS hx hE hR6 (by decide) hfl q_th_X9_87_89_91 2 (by decide) rfl (by decide) dX9_sleeper_26 dX9_sleeper_29 dX9_sleeper_30 dX9_sleeper_32 dX9_sleeper_35
-- X9_peg
def f_X9_peg (σ : q_S) (a1 : Int32) (a2 : Int32) (a3 : Int32) : Option (Nat × Int32 × q_S) :=
  Option.bind (f_X3_note σ 2) (fun q1 => Option.bind (f_X8_setPeg q1 a1 a2 a3) (fun q2 => if q2.1 = ((-1)) then (some ((1, 0, q2.2))) else (if q2.1 = ((-2)) then (some ((2, 0, q2.2))) else (if 0 ≤ q2.1 then (Option.bind (f_X3_keep q2.2) (fun q6 => some ((0, q2.1, q6)))) else (some ((3, 0, q2.2)))))))
set_option maxHeartbeats 4000000 in
set_option maxRecDepth 100000 in
theorem c_X9_peg (l : Launch) (G : q_G) (x : q_A) (σ : q_S) (a1 : Int32) (a2 : Int32) (a3 : Int32)  {res : Nat × Int32 × q_S} (h : f_X9_peg σ a1 a2 a3 = some res) (hfl : l.stackTraces = false) : q_MetX l yX9_peg cX9_peg 5 (some .int) 7 G [.ref (G.2.1 + 0), .int a1, .int a2, .int a3] σ x (q_QiX G x res.1 res.2.1 res.2.2) res.1 res.2.2 := by
  refine q_ofX (by decide) (Nat.le_of_ble_eq_true rfl) (fun X hl0 hx hr hE hR6 => ?_)
  subst hl0
  have hx : q_Cx X G RX9 cX9_peg 5 7 := hx
  unfold f_X9_peg at h
  show q_Wq X G x 5 (q_MQX X G x (q_QiX G x res.1 res.2.1 res.2.2) res.1 res.2.2) 0 0 0 [(0, .ref (G.2.1 + 0)), (1, .int a1), (2, .int a2), (3, .int a3)] [] σ
  refine q_aload_n hx dX9_peg_0 0 rfl ?_
  refine q_get (v := .ref (G.2.1 + 53)) hx q_fl_X9_43 dX9_peg_1 (q_ne kd_0 (by decide)) (q_e9 kd_0) rfl ?_
  refine q_aload_n hx dX9_peg_4 0 rfl ?_
  refine q_get (v := .ref (G.2.1 + 2)) hx q_fl_X9_20 dX9_peg_5 (q_ne kd_0 (by decide)) (q_e9 kd_0) rfl ?_
  refine q_bindE h (fun q1 hq1 h => ?_)
  refine q_callVv (As := [.ref (G.2.1 + 2)]) (rest := []) hx q_kR0 (c_X3_note (q_Xl X) G x σ 2 dr_2 hq1) q_ml_X9_79 q_mn_X3_note q_mi_X3_note q_se_X3_note (by decide) rfl (Nat.le_of_ble_eq_true rfl) dX9_peg_8 (q_ne kd_53 (by decide)) (q_e3 kd_53) rfl rfl rfl ?_
  refine q_aload_n hx dX9_peg_11 0 rfl ?_
  refine q_get (v := .ref (G.2.1 + 1)) hx q_fl_X9_12 dX9_peg_12 (q_ne kd_0 (by decide)) (q_e9 kd_0) rfl ?_
  refine q_iload_n hx dX9_peg_15 1 rfl ?_
  refine q_iload_n hx dX9_peg_16 2 rfl ?_
  refine q_iload_n hx dX9_peg_17 3 rfl ?_
  refine q_bindE h (fun q2 hq2 h => ?_)
  refine q_callVi (As := [.int a1, .int a2, .int a3]) (rest := []) hx q_kR0 (c_X8_setPeg (q_Xl X) G x q1 a1 a2 a3 hq2) q_ml_X9_102 q_mn_X8_setPeg q_mi_X8_setPeg q_se_X8_setPeg (by decide) rfl (Nat.le_of_ble_eq_true rfl) dX9_peg_18 (q_ne kd_1 (by decide)) (q_e8 kd_1) rfl rfl rfl ?_
  refine q_istore hx [(4, .int q2.1), (0, .ref (G.2.1 + 0)), (1, .int a1), (2, .int a2), (3, .int a3)] dX9_peg_21 (by decide) rfl ?_
  refine q_iload hx dX9_peg_23 0 rfl ?_
  refine q_iconst (v := (-1)) hx dX9_peg_25 (by decide) ?_
  refine q_icmp_ne hx 39 dX9_peg_26 (by decide) (fun hc3 => ?_) (fun hc3 => ?_)
  · replace h := (if_neg hc3).symm.trans h
    refine q_iload hx dX9_peg_39 0 rfl ?_
    refine q_bipush (v := (-2)) hx dX9_peg_41 (by decide) ?_
    refine q_icmp_ne hx 56 dX9_peg_43 (by decide) (fun hc4 => ?_) (fun hc4 => ?_)
    · replace h := (if_neg hc4).symm.trans h
      refine q_iload hx dX9_peg_56 0 rfl ?_
      refine q_if_ge hx 71 dX9_peg_58 (by decide) (fun hc5 => ?_) (fun hc5 => ?_)
      · replace h := (if_pos hc5).symm.trans h
        refine q_aload_n hx dX9_peg_71 1 rfl ?_
        refine q_get (v := .ref (G.2.1 + 53)) hx q_fl_X9_43 dX9_peg_72 (q_ne kd_0 (by decide)) (q_e9 kd_0) rfl ?_
        refine q_bindE h (fun q6 hq6 h => ?_)
        refine q_callVv (As := []) (rest := []) hx q_kR0 (c_X3_keep (q_Xl X) G x q2.2  hq6) q_ml_X9_99 q_mn_X3_keep q_mi_X3_keep q_se_X3_keep (by decide) rfl (Nat.le_of_ble_eq_true rfl) dX9_peg_75 (q_ne kd_53 (by decide)) (q_e3 kd_53) rfl rfl rfl ?_
        refine q_iload hx dX9_peg_78 0 rfl ?_
        cases h
        exact q_iretX hx hr dX9_peg_80
      · replace h := (if_neg hc5).symm.trans h
        cases h
        exact q_throwS hx hE hR6 (by decide) hfl q_th_X9_94_96_98 3 (by decide) rfl (by decide) dX9_peg_61 dX9_peg_64 dX9_peg_65 dX9_peg_67 dX9_peg_70
    · replace h := (if_pos hc4).symm.trans h
      cases h
      exact q_throwS hx hE hR6 (by decide) hfl q_th_X9_87_111_91 2 (by decide) rfl (by decide) dX9_peg_46 dX9_peg_49 dX9_peg_50 dX9_peg_52 dX9_peg_55
  · replace h := (if_pos hc3).symm.trans h
    cases h
    exact q_throwS hx hE hR6 (by decide) hfl q_th_X9_106_108_110 1 (by decide) rfl (by decide) dX9_peg_29 dX9_peg_32 dX9_peg_33 dX9_peg_35 dX9_peg_38
-- X9_plot
def f_X9_plot (σ : q_S) (a1 : Int32) (a2 : Int32) (a3 : Int32) : Option (Nat × Int32 × q_S) :=
  Option.bind (f_X3_note σ 2) (fun q1 => Option.bind (f_X8_beginPlot q1 a1 a2 a3) (fun q2 => if q2.1 = ((-1)) then (some ((1, 0, q2.2))) else (if 0 ≤ q2.1 then (Option.bind (f_X3_keep q2.2) (fun q5 => some ((0, q2.1, q5)))) else (some ((3, 0, q2.2))))))
set_option maxHeartbeats 4000000 in
set_option maxRecDepth 100000 in
theorem c_X9_plot (l : Launch) (G : q_G) (x : q_A) (σ : q_S) (a1 : Int32) (a2 : Int32) (a3 : Int32)  {res : Nat × Int32 × q_S} (h : f_X9_plot σ a1 a2 a3 = some res) (hfl : l.stackTraces = false) : q_MetX l yX9_plot cX9_plot 5 (some .int) 7 G [.ref (G.2.1 + 0), .int a1, .int a2, .int a3] σ x (q_QiX G x res.1 res.2.1 res.2.2) res.1 res.2.2 := by
  refine q_ofX (by decide) (Nat.le_of_ble_eq_true rfl) (fun X hl0 hx hr hE hR6 => ?_)
  subst hl0
  have hx : q_Cx X G RX9 cX9_plot 5 7 := hx
  unfold f_X9_plot at h
  show q_Wq X G x 5 (q_MQX X G x (q_QiX G x res.1 res.2.1 res.2.2) res.1 res.2.2) 0 0 0 [(0, .ref (G.2.1 + 0)), (1, .int a1), (2, .int a2), (3, .int a3)] [] σ
  refine q_aload_n hx dX9_plot_0 0 rfl ?_
  refine q_get (v := .ref (G.2.1 + 53)) hx q_fl_X9_43 dX9_plot_1 (q_ne kd_0 (by decide)) (q_e9 kd_0) rfl ?_
  refine q_aload_n hx dX9_plot_4 0 rfl ?_
  refine q_get (v := .ref (G.2.1 + 2)) hx q_fl_X9_20 dX9_plot_5 (q_ne kd_0 (by decide)) (q_e9 kd_0) rfl ?_
  refine q_bindE h (fun q1 hq1 h => ?_)
  refine q_callVv (As := [.ref (G.2.1 + 2)]) (rest := []) hx q_kR0 (c_X3_note (q_Xl X) G x σ 2 dr_2 hq1) q_ml_X9_79 q_mn_X3_note q_mi_X3_note q_se_X3_note (by decide) rfl (Nat.le_of_ble_eq_true rfl) dX9_plot_8 (q_ne kd_53 (by decide)) (q_e3 kd_53) rfl rfl rfl ?_
  refine q_aload_n hx dX9_plot_11 0 rfl ?_
  refine q_get (v := .ref (G.2.1 + 1)) hx q_fl_X9_12 dX9_plot_12 (q_ne kd_0 (by decide)) (q_e9 kd_0) rfl ?_
  refine q_iload_n hx dX9_plot_15 1 rfl ?_
  refine q_iload_n hx dX9_plot_16 2 rfl ?_
  refine q_iload_n hx dX9_plot_17 3 rfl ?_
  refine q_bindE h (fun q2 hq2 h => ?_)
  refine q_callVi (As := [.int a1, .int a2, .int a3]) (rest := []) hx q_kR0 (c_X8_beginPlot (q_Xl X) G x q1 a1 a2 a3 hq2) q_ml_X9_113 q_mn_X8_beginPlot q_mi_X8_beginPlot q_se_X8_beginPlot (by decide) rfl (Nat.le_of_ble_eq_true rfl) dX9_plot_18 (q_ne kd_1 (by decide)) (q_e8 kd_1) rfl rfl rfl ?_
  refine q_istore hx [(4, .int q2.1), (0, .ref (G.2.1 + 0)), (1, .int a1), (2, .int a2), (3, .int a3)] dX9_plot_21 (by decide) rfl ?_
  refine q_iload hx dX9_plot_23 0 rfl ?_
  refine q_iconst (v := (-1)) hx dX9_plot_25 (by decide) ?_
  refine q_icmp_ne hx 39 dX9_plot_26 (by decide) (fun hc3 => ?_) (fun hc3 => ?_)
  · replace h := (if_neg hc3).symm.trans h
    refine q_iload hx dX9_plot_39 0 rfl ?_
    refine q_if_ge hx 54 dX9_plot_41 (by decide) (fun hc4 => ?_) (fun hc4 => ?_)
    · replace h := (if_pos hc4).symm.trans h
      refine q_aload_n hx dX9_plot_54 1 rfl ?_
      refine q_get (v := .ref (G.2.1 + 53)) hx q_fl_X9_43 dX9_plot_55 (q_ne kd_0 (by decide)) (q_e9 kd_0) rfl ?_
      refine q_bindE h (fun q5 hq5 h => ?_)
      refine q_callVv (As := []) (rest := []) hx q_kR0 (c_X3_keep (q_Xl X) G x q2.2  hq5) q_ml_X9_99 q_mn_X3_keep q_mi_X3_keep q_se_X3_keep (by decide) rfl (Nat.le_of_ble_eq_true rfl) dX9_plot_58 (q_ne kd_53 (by decide)) (q_e3 kd_53) rfl rfl rfl ?_
      refine q_iload hx dX9_plot_61 0 rfl ?_
      cases h
      exact q_iretX hx hr dX9_plot_63
    · replace h := (if_neg hc4).symm.trans h
      cases h
      exact q_throwS hx hE hR6 (by decide) hfl q_th_X9_94_96_98 3 (by decide) rfl (by decide) dX9_plot_44 dX9_plot_47 dX9_plot_48 dX9_plot_50 dX9_plot_53
  · replace h := (if_pos hc3).symm.trans h
    cases h
    exact q_throwS hx hE hR6 (by decide) hfl q_th_X9_106_116_110 1 (by decide) rfl (by decide) dX9_plot_29 dX9_plot_32 dX9_plot_33 dX9_plot_35 dX9_plot_38
-- X9_chain
def f_X9_chain (σ : q_S) (a1 : Int32) (a2 : Int32) (a3 : Int32) : Option (Nat × Int32 × q_S) :=
  Option.bind (f_X3_note σ 2) (fun q1 => Option.bind (f_X8_layChain q1 a1 a2 a3) (fun q2 => if q2.1 = ((-1)) then (some ((1, 0, q2.2))) else (if q2.1 = ((-2)) then (some ((2, 0, q2.2))) else (if 0 ≤ q2.1 then (Option.bind (f_X3_keep q2.2) (fun q6 => some ((0, q2.1, q6)))) else (some ((3, 0, q2.2)))))))
set_option maxHeartbeats 4000000 in
set_option maxRecDepth 100000 in
theorem c_X9_chain (l : Launch) (G : q_G) (x : q_A) (σ : q_S) (a1 : Int32) (a2 : Int32) (a3 : Int32)  {res : Nat × Int32 × q_S} (h : f_X9_chain σ a1 a2 a3 = some res) (hfl : l.stackTraces = false) : q_MetX l yX9_chain cX9_chain 5 (some .int) 7 G [.ref (G.2.1 + 0), .int a1, .int a2, .int a3] σ x (q_QiX G x res.1 res.2.1 res.2.2) res.1 res.2.2 := by
  refine q_ofX (by decide) (Nat.le_of_ble_eq_true rfl) (fun X hl0 hx hr hE hR6 => ?_)
  subst hl0
  have hx : q_Cx X G RX9 cX9_chain 5 7 := hx
  unfold f_X9_chain at h
  show q_Wq X G x 5 (q_MQX X G x (q_QiX G x res.1 res.2.1 res.2.2) res.1 res.2.2) 0 0 0 [(0, .ref (G.2.1 + 0)), (1, .int a1), (2, .int a2), (3, .int a3)] [] σ
  refine q_aload_n hx dX9_chain_0 0 rfl ?_
  refine q_get (v := .ref (G.2.1 + 53)) hx q_fl_X9_43 dX9_chain_1 (q_ne kd_0 (by decide)) (q_e9 kd_0) rfl ?_
  refine q_aload_n hx dX9_chain_4 0 rfl ?_
  refine q_get (v := .ref (G.2.1 + 2)) hx q_fl_X9_20 dX9_chain_5 (q_ne kd_0 (by decide)) (q_e9 kd_0) rfl ?_
  refine q_bindE h (fun q1 hq1 h => ?_)
  refine q_callVv (As := [.ref (G.2.1 + 2)]) (rest := []) hx q_kR0 (c_X3_note (q_Xl X) G x σ 2 dr_2 hq1) q_ml_X9_79 q_mn_X3_note q_mi_X3_note q_se_X3_note (by decide) rfl (Nat.le_of_ble_eq_true rfl) dX9_chain_8 (q_ne kd_53 (by decide)) (q_e3 kd_53) rfl rfl rfl ?_
  refine q_aload_n hx dX9_chain_11 0 rfl ?_
  refine q_get (v := .ref (G.2.1 + 1)) hx q_fl_X9_12 dX9_chain_12 (q_ne kd_0 (by decide)) (q_e9 kd_0) rfl ?_
  refine q_iload_n hx dX9_chain_15 1 rfl ?_
  refine q_iload_n hx dX9_chain_16 2 rfl ?_
  refine q_iload_n hx dX9_chain_17 3 rfl ?_
  refine q_bindE h (fun q2 hq2 h => ?_)
  refine q_callVi (As := [.int a1, .int a2, .int a3]) (rest := []) hx q_kR0 (c_X8_layChain (q_Xl X) G x q1 a1 a2 a3 hq2) q_ml_X9_118 q_mn_X8_layChain q_mi_X8_layChain q_se_X8_layChain (by decide) rfl (Nat.le_of_ble_eq_true rfl) dX9_chain_18 (q_ne kd_1 (by decide)) (q_e8 kd_1) rfl rfl rfl ?_
  refine q_istore hx [(4, .int q2.1), (0, .ref (G.2.1 + 0)), (1, .int a1), (2, .int a2), (3, .int a3)] dX9_chain_21 (by decide) rfl ?_
  refine q_iload hx dX9_chain_23 0 rfl ?_
  refine q_iconst (v := (-1)) hx dX9_chain_25 (by decide) ?_
  refine q_icmp_ne hx 39 dX9_chain_26 (by decide) (fun hc3 => ?_) (fun hc3 => ?_)
  · replace h := (if_neg hc3).symm.trans h
    refine q_iload hx dX9_chain_39 0 rfl ?_
    refine q_bipush (v := (-2)) hx dX9_chain_41 (by decide) ?_
    refine q_icmp_ne hx 56 dX9_chain_43 (by decide) (fun hc4 => ?_) (fun hc4 => ?_)
    · replace h := (if_neg hc4).symm.trans h
      refine q_iload hx dX9_chain_56 0 rfl ?_
      refine q_if_ge hx 71 dX9_chain_58 (by decide) (fun hc5 => ?_) (fun hc5 => ?_)
      · replace h := (if_pos hc5).symm.trans h
        refine q_aload_n hx dX9_chain_71 1 rfl ?_
        refine q_get (v := .ref (G.2.1 + 53)) hx q_fl_X9_43 dX9_chain_72 (q_ne kd_0 (by decide)) (q_e9 kd_0) rfl ?_
        refine q_bindE h (fun q6 hq6 h => ?_)
        refine q_callVv (As := []) (rest := []) hx q_kR0 (c_X3_keep (q_Xl X) G x q2.2  hq6) q_ml_X9_99 q_mn_X3_keep q_mi_X3_keep q_se_X3_keep (by decide) rfl (Nat.le_of_ble_eq_true rfl) dX9_chain_75 (q_ne kd_53 (by decide)) (q_e3 kd_53) rfl rfl rfl ?_
        refine q_iload hx dX9_chain_78 0 rfl ?_
        cases h
        exact q_iretX hx hr dX9_chain_80
      · replace h := (if_neg hc5).symm.trans h
        cases h
        exact q_throwS hx hE hR6 (by decide) hfl q_th_X9_94_96_98 3 (by decide) rfl (by decide) dX9_chain_61 dX9_chain_64 dX9_chain_65 dX9_chain_67 dX9_chain_70
    · replace h := (if_pos hc4).symm.trans h
      cases h
      exact q_throwS hx hE hR6 (by decide) hfl q_th_X9_87_123_91 2 (by decide) rfl (by decide) dX9_chain_46 dX9_chain_49 dX9_chain_50 dX9_chain_52 dX9_chain_55
  · replace h := (if_pos hc3).symm.trans h
    cases h
    exact q_throwS hx hE hR6 (by decide) hfl q_th_X9_106_121_110 1 (by decide) rfl (by decide) dX9_chain_29 dX9_chain_32 dX9_chain_33 dX9_chain_35 dX9_chain_38
-- X9_bend
def f_X9_bend (σ : q_S) (a1 : Int32) (a2 : Int32) (a3 : Int32) : Option (Nat × Int32 × q_S) :=
  Option.bind (f_X3_note σ 2) (fun q1 => Option.bind (f_X8_bendChain q1 a1 a2 a3) (fun q2 => if q2.1 = ((-1)) then (some ((1, 0, q2.2))) else (if q2.1 = ((-2)) then (some ((2, 0, q2.2))) else (if 0 ≤ q2.1 then (Option.bind (f_X3_keep q2.2) (fun q6 => some ((0, q2.1, q6)))) else (some ((3, 0, q2.2)))))))
set_option maxHeartbeats 4000000 in
set_option maxRecDepth 100000 in
theorem c_X9_bend (l : Launch) (G : q_G) (x : q_A) (σ : q_S) (a1 : Int32) (a2 : Int32) (a3 : Int32)  {res : Nat × Int32 × q_S} (h : f_X9_bend σ a1 a2 a3 = some res) (hfl : l.stackTraces = false) : q_MetX l yX9_bend cX9_bend 5 (some .int) 7 G [.ref (G.2.1 + 0), .int a1, .int a2, .int a3] σ x (q_QiX G x res.1 res.2.1 res.2.2) res.1 res.2.2 := by
  refine q_ofX (by decide) (Nat.le_of_ble_eq_true rfl) (fun X hl0 hx hr hE hR6 => ?_)
  subst hl0
  have hx : q_Cx X G RX9 cX9_bend 5 7 := hx
  unfold f_X9_bend at h
  show q_Wq X G x 5 (q_MQX X G x (q_QiX G x res.1 res.2.1 res.2.2) res.1 res.2.2) 0 0 0 [(0, .ref (G.2.1 + 0)), (1, .int a1), (2, .int a2), (3, .int a3)] [] σ
  refine q_aload_n hx dX9_bend_0 0 rfl ?_
  refine q_get (v := .ref (G.2.1 + 53)) hx q_fl_X9_43 dX9_bend_1 (q_ne kd_0 (by decide)) (q_e9 kd_0) rfl ?_
  refine q_aload_n hx dX9_bend_4 0 rfl ?_
  refine q_get (v := .ref (G.2.1 + 2)) hx q_fl_X9_20 dX9_bend_5 (q_ne kd_0 (by decide)) (q_e9 kd_0) rfl ?_
  refine q_bindE h (fun q1 hq1 h => ?_)
  refine q_callVv (As := [.ref (G.2.1 + 2)]) (rest := []) hx q_kR0 (c_X3_note (q_Xl X) G x σ 2 dr_2 hq1) q_ml_X9_79 q_mn_X3_note q_mi_X3_note q_se_X3_note (by decide) rfl (Nat.le_of_ble_eq_true rfl) dX9_bend_8 (q_ne kd_53 (by decide)) (q_e3 kd_53) rfl rfl rfl ?_
  refine q_aload_n hx dX9_bend_11 0 rfl ?_
  refine q_get (v := .ref (G.2.1 + 1)) hx q_fl_X9_12 dX9_bend_12 (q_ne kd_0 (by decide)) (q_e9 kd_0) rfl ?_
  refine q_iload_n hx dX9_bend_15 1 rfl ?_
  refine q_iload_n hx dX9_bend_16 2 rfl ?_
  refine q_iload_n hx dX9_bend_17 3 rfl ?_
  refine q_bindE h (fun q2 hq2 h => ?_)
  refine q_callVi (As := [.int a1, .int a2, .int a3]) (rest := []) hx q_kR0 (c_X8_bendChain (q_Xl X) G x q1 a1 a2 a3 hq2) q_ml_X9_125 q_mn_X8_bendChain q_mi_X8_bendChain q_se_X8_bendChain (by decide) rfl (Nat.le_of_ble_eq_true rfl) dX9_bend_18 (q_ne kd_1 (by decide)) (q_e8 kd_1) rfl rfl rfl ?_
  refine q_istore hx [(4, .int q2.1), (0, .ref (G.2.1 + 0)), (1, .int a1), (2, .int a2), (3, .int a3)] dX9_bend_21 (by decide) rfl ?_
  refine q_iload hx dX9_bend_23 0 rfl ?_
  refine q_iconst (v := (-1)) hx dX9_bend_25 (by decide) ?_
  refine q_icmp_ne hx 39 dX9_bend_26 (by decide) (fun hc3 => ?_) (fun hc3 => ?_)
  · replace h := (if_neg hc3).symm.trans h
    refine q_iload hx dX9_bend_39 0 rfl ?_
    refine q_bipush (v := (-2)) hx dX9_bend_41 (by decide) ?_
    refine q_icmp_ne hx 56 dX9_bend_43 (by decide) (fun hc4 => ?_) (fun hc4 => ?_)
    · replace h := (if_neg hc4).symm.trans h
      refine q_iload hx dX9_bend_56 0 rfl ?_
      refine q_if_ge hx 71 dX9_bend_58 (by decide) (fun hc5 => ?_) (fun hc5 => ?_)
      · replace h := (if_pos hc5).symm.trans h
        refine q_aload_n hx dX9_bend_71 1 rfl ?_
        refine q_get (v := .ref (G.2.1 + 53)) hx q_fl_X9_43 dX9_bend_72 (q_ne kd_0 (by decide)) (q_e9 kd_0) rfl ?_
        refine q_bindE h (fun q6 hq6 h => ?_)
        refine q_callVv (As := []) (rest := []) hx q_kR0 (c_X3_keep (q_Xl X) G x q2.2  hq6) q_ml_X9_99 q_mn_X3_keep q_mi_X3_keep q_se_X3_keep (by decide) rfl (Nat.le_of_ble_eq_true rfl) dX9_bend_75 (q_ne kd_53 (by decide)) (q_e3 kd_53) rfl rfl rfl ?_
        refine q_iload hx dX9_bend_78 0 rfl ?_
        cases h
        exact q_iretX hx hr dX9_bend_80
      · replace h := (if_neg hc5).symm.trans h
        cases h
        exact q_throwS hx hE hR6 (by decide) hfl q_th_X9_94_96_98 3 (by decide) rfl (by decide) dX9_bend_61 dX9_bend_64 dX9_bend_65 dX9_bend_67 dX9_bend_70
    · replace h := (if_pos hc4).symm.trans h
      cases h
      exact q_throwS hx hE hR6 (by decide) hfl q_th_X9_87_130_91 2 (by decide) rfl (by decide) dX9_bend_46 dX9_bend_49 dX9_bend_50 dX9_bend_52 dX9_bend_55
  · replace h := (if_pos hc3).symm.trans h
    cases h
    exact q_throwS hx hE hR6 (by decide) hfl q_th_X9_106_128_110 1 (by decide) rfl (by decide) dX9_bend_29 dX9_bend_32 dX9_bend_33 dX9_bend_35 dX9_bend_38
-- X9_drop
def f_X9_drop (σ : q_S) (a1 : Int32) : Option (Nat × Int32 × q_S) :=
  Option.bind (f_X3_note σ 2) (fun q1 => if ((f_X8_giveUp q1 a1).1) = ((-1)) then (some ((1, 0, (f_X8_giveUp q1 a1).2))) else (if 0 ≤ ((f_X8_giveUp q1 a1).1) then (Option.bind (f_X3_keep ((f_X8_giveUp q1 a1).2)) (fun q4 => some ((0, (f_X8_giveUp q1 a1).1, q4)))) else (some ((3, 0, (f_X8_giveUp q1 a1).2)))))
set_option maxHeartbeats 4000000 in
set_option maxRecDepth 100000 in
theorem c_X9_drop (l : Launch) (G : q_G) (x : q_A) (σ : q_S) (a1 : Int32)  {res : Nat × Int32 × q_S} (h : f_X9_drop σ a1 = some res) (hfl : l.stackTraces = false) : q_MetX l yX9_drop cX9_drop 3 (some .int) 7 G [.ref (G.2.1 + 0), .int a1] σ x (q_QiX G x res.1 res.2.1 res.2.2) res.1 res.2.2 := by
  refine q_ofX (by decide) (Nat.le_of_ble_eq_true rfl) (fun X hl0 hx hr hE hR6 => ?_)
  subst hl0
  have hx : q_Cx X G RX9 cX9_drop 3 7 := hx
  unfold f_X9_drop at h
  show q_Wq X G x 3 (q_MQX X G x (q_QiX G x res.1 res.2.1 res.2.2) res.1 res.2.2) 0 0 0 [(0, .ref (G.2.1 + 0)), (1, .int a1)] [] σ
  refine q_aload_n hx dX9_drop_0 0 rfl ?_
  refine q_get (v := .ref (G.2.1 + 53)) hx q_fl_X9_43 dX9_drop_1 (q_ne kd_0 (by decide)) (q_e9 kd_0) rfl ?_
  refine q_aload_n hx dX9_drop_4 0 rfl ?_
  refine q_get (v := .ref (G.2.1 + 2)) hx q_fl_X9_20 dX9_drop_5 (q_ne kd_0 (by decide)) (q_e9 kd_0) rfl ?_
  refine q_bindE h (fun q1 hq1 h => ?_)
  refine q_callVv (As := [.ref (G.2.1 + 2)]) (rest := []) hx q_kR0 (c_X3_note (q_Xl X) G x σ 2 dr_2 hq1) q_ml_X9_79 q_mn_X3_note q_mi_X3_note q_se_X3_note (by decide) rfl (Nat.le_of_ble_eq_true rfl) dX9_drop_8 (q_ne kd_53 (by decide)) (q_e3 kd_53) rfl rfl rfl ?_
  refine q_aload_n hx dX9_drop_11 0 rfl ?_
  refine q_get (v := .ref (G.2.1 + 1)) hx q_fl_X9_12 dX9_drop_12 (q_ne kd_0 (by decide)) (q_e9 kd_0) rfl ?_
  refine q_iload_n hx dX9_drop_15 1 rfl ?_
  refine q_callVi (As := [.int a1]) (rest := []) hx q_kR0 (c_X8_giveUp (q_Xl X) G x q1 a1) q_ml_X9_132 q_mn_X8_giveUp q_mi_X8_giveUp q_se_X8_giveUp (by decide) rfl (Nat.le_of_ble_eq_true rfl) dX9_drop_16 (q_ne kd_1 (by decide)) (q_e8 kd_1) rfl rfl rfl ?_
  refine q_istore_n hx [(2, .int ((f_X8_giveUp q1 a1).1)), (0, .ref (G.2.1 + 0)), (1, .int a1)] dX9_drop_19 (by decide) rfl ?_
  refine q_iload_n hx dX9_drop_20 0 rfl ?_
  refine q_iconst (v := (-1)) hx dX9_drop_21 (by decide) ?_
  refine q_icmp_ne hx 35 dX9_drop_22 (by decide) (fun hc2 => ?_) (fun hc2 => ?_)
  · replace h := (if_neg hc2).symm.trans h
    refine q_iload_n hx dX9_drop_35 0 rfl ?_
    refine q_if_ge hx 49 dX9_drop_36 (by decide) (fun hc3 => ?_) (fun hc3 => ?_)
    · replace h := (if_pos hc3).symm.trans h
      refine q_aload_n hx dX9_drop_49 1 rfl ?_
      refine q_get (v := .ref (G.2.1 + 53)) hx q_fl_X9_43 dX9_drop_50 (q_ne kd_0 (by decide)) (q_e9 kd_0) rfl ?_
      refine q_bindE h (fun q4 hq4 h => ?_)
      refine q_callVv (As := []) (rest := []) hx q_kR0 (c_X3_keep (q_Xl X) G x ((f_X8_giveUp q1 a1).2)  hq4) q_ml_X9_99 q_mn_X3_keep q_mi_X3_keep q_se_X3_keep (by decide) rfl (Nat.le_of_ble_eq_true rfl) dX9_drop_53 (q_ne kd_53 (by decide)) (q_e3 kd_53) rfl rfl rfl ?_
      refine q_iload_n hx dX9_drop_56 0 rfl ?_
      cases h
      exact q_iretX hx hr dX9_drop_57
    · replace h := (if_neg hc3).symm.trans h
      cases h
      exact q_throwS hx hE hR6 (by decide) hfl q_th_X9_94_96_98 3 (by decide) rfl (by decide) dX9_drop_39 dX9_drop_42 dX9_drop_43 dX9_drop_45 dX9_drop_48
  · replace h := (if_pos hc2).symm.trans h
    cases h
    exact q_throwS hx hE hR6 (by decide) hfl q_th_X9_106_121_110 1 (by decide) rfl (by decide) dX9_drop_25 dX9_drop_28 dX9_drop_29 dX9_drop_31 dX9_drop_34
-- X9_deep
def f_X9_deep (σ : q_S) (a1 : Int32) (a2 : Int32) : Option (Nat × Int32 × q_S) :=
  Option.bind (f_X3_note σ 2) (fun q1 => if ((f_X8_giveDepth q1 a1 a2).1) = ((-1)) then (some ((1, 0, (f_X8_giveDepth q1 a1 a2).2))) else (if ((f_X8_giveDepth q1 a1 a2).1) = ((-2)) then (some ((2, 0, (f_X8_giveDepth q1 a1 a2).2))) else (if 0 ≤ ((f_X8_giveDepth q1 a1 a2).1) then (Option.bind (f_X3_keep ((f_X8_giveDepth q1 a1 a2).2)) (fun q5 => some ((0, (f_X8_giveDepth q1 a1 a2).1, q5)))) else (some ((3, 0, (f_X8_giveDepth q1 a1 a2).2))))))
set_option maxHeartbeats 4000000 in
set_option maxRecDepth 100000 in
theorem c_X9_deep (l : Launch) (G : q_G) (x : q_A) (σ : q_S) (a1 : Int32) (a2 : Int32)  {res : Nat × Int32 × q_S} (h : f_X9_deep σ a1 a2 = some res) (hfl : l.stackTraces = false) : q_MetX l yX9_deep cX9_deep 4 (some .int) 7 G [.ref (G.2.1 + 0), .int a1, .int a2] σ x (q_QiX G x res.1 res.2.1 res.2.2) res.1 res.2.2 := by
  refine q_ofX (by decide) (Nat.le_of_ble_eq_true rfl) (fun X hl0 hx hr hE hR6 => ?_)
  subst hl0
  have hx : q_Cx X G RX9 cX9_deep 4 7 := hx
  unfold f_X9_deep at h
  show q_Wq X G x 4 (q_MQX X G x (q_QiX G x res.1 res.2.1 res.2.2) res.1 res.2.2) 0 0 0 [(0, .ref (G.2.1 + 0)), (1, .int a1), (2, .int a2)] [] σ
  refine q_aload_n hx dX9_deep_0 0 rfl ?_
  refine q_get (v := .ref (G.2.1 + 53)) hx q_fl_X9_43 dX9_deep_1 (q_ne kd_0 (by decide)) (q_e9 kd_0) rfl ?_
  refine q_aload_n hx dX9_deep_4 0 rfl ?_
  refine q_get (v := .ref (G.2.1 + 2)) hx q_fl_X9_20 dX9_deep_5 (q_ne kd_0 (by decide)) (q_e9 kd_0) rfl ?_
  refine q_bindE h (fun q1 hq1 h => ?_)
  refine q_callVv (As := [.ref (G.2.1 + 2)]) (rest := []) hx q_kR0 (c_X3_note (q_Xl X) G x σ 2 dr_2 hq1) q_ml_X9_79 q_mn_X3_note q_mi_X3_note q_se_X3_note (by decide) rfl (Nat.le_of_ble_eq_true rfl) dX9_deep_8 (q_ne kd_53 (by decide)) (q_e3 kd_53) rfl rfl rfl ?_
  refine q_aload_n hx dX9_deep_11 0 rfl ?_
  refine q_get (v := .ref (G.2.1 + 1)) hx q_fl_X9_12 dX9_deep_12 (q_ne kd_0 (by decide)) (q_e9 kd_0) rfl ?_
  refine q_iload_n hx dX9_deep_15 1 rfl ?_
  refine q_iload_n hx dX9_deep_16 2 rfl ?_
  refine q_callVi (As := [.int a1, .int a2]) (rest := []) hx q_kR0 (c_X8_giveDepth (q_Xl X) G x q1 a1 a2) q_ml_X9_135 q_mn_X8_giveDepth q_mi_X8_giveDepth q_se_X8_giveDepth (by decide) rfl (Nat.le_of_ble_eq_true rfl) dX9_deep_17 (q_ne kd_1 (by decide)) (q_e8 kd_1) rfl rfl rfl ?_
  refine q_istore_n hx [(3, .int ((f_X8_giveDepth q1 a1 a2).1)), (0, .ref (G.2.1 + 0)), (1, .int a1), (2, .int a2)] dX9_deep_20 (by decide) rfl ?_
  refine q_iload_n hx dX9_deep_21 0 rfl ?_
  refine q_iconst (v := (-1)) hx dX9_deep_22 (by decide) ?_
  refine q_icmp_ne hx 36 dX9_deep_23 (by decide) (fun hc2 => ?_) (fun hc2 => ?_)
  · replace h := (if_neg hc2).symm.trans h
    refine q_iload_n hx dX9_deep_36 0 rfl ?_
    refine q_bipush (v := (-2)) hx dX9_deep_37 (by decide) ?_
    refine q_icmp_ne hx 52 dX9_deep_39 (by decide) (fun hc3 => ?_) (fun hc3 => ?_)
    · replace h := (if_neg hc3).symm.trans h
      refine q_iload_n hx dX9_deep_52 0 rfl ?_
      refine q_if_ge hx 66 dX9_deep_53 (by decide) (fun hc4 => ?_) (fun hc4 => ?_)
      · replace h := (if_pos hc4).symm.trans h
        refine q_aload_n hx dX9_deep_66 1 rfl ?_
        refine q_get (v := .ref (G.2.1 + 53)) hx q_fl_X9_43 dX9_deep_67 (q_ne kd_0 (by decide)) (q_e9 kd_0) rfl ?_
        refine q_bindE h (fun q5 hq5 h => ?_)
        refine q_callVv (As := []) (rest := []) hx q_kR0 (c_X3_keep (q_Xl X) G x ((f_X8_giveDepth q1 a1 a2).2)  hq5) q_ml_X9_99 q_mn_X3_keep q_mi_X3_keep q_se_X3_keep (by decide) rfl (Nat.le_of_ble_eq_true rfl) dX9_deep_70 (q_ne kd_53 (by decide)) (q_e3 kd_53) rfl rfl rfl ?_
        refine q_iload_n hx dX9_deep_73 0 rfl ?_
        cases h
        exact q_iretX hx hr dX9_deep_74
      · replace h := (if_neg hc4).symm.trans h
        cases h
        exact q_throwS hx hE hR6 (by decide) hfl q_th_X9_94_96_98 3 (by decide) rfl (by decide) dX9_deep_56 dX9_deep_59 dX9_deep_60 dX9_deep_62 dX9_deep_65
    · replace h := (if_pos hc3).symm.trans h
      cases h
      exact q_throwS hx hE hR6 (by decide) hfl q_th_X9_87_89_91 2 (by decide) rfl (by decide) dX9_deep_42 dX9_deep_45 dX9_deep_46 dX9_deep_48 dX9_deep_51
  · replace h := (if_pos hc2).symm.trans h
    cases h
    exact q_throwS hx hE hR6 (by decide) hfl q_th_X9_106_121_110 1 (by decide) rfl (by decide) dX9_deep_26 dX9_deep_29 dX9_deep_30 dX9_deep_32 dX9_deep_35
-- X9_dusk
def f_X9_dusk (σ : q_S) (a1 : Int32) : Option (Nat × Int32 × q_S) :=
  Option.bind (f_X3_note σ 2) (fun q1 => Option.bind (f_X8_letHoursGoBy q1 a1) (fun q2 => if 0 ≤ q2.1 then (Option.bind (f_X3_keep q2.2) (fun q4 => some ((0, q2.1, q4)))) else (some ((2, 0, q2.2)))))
set_option maxHeartbeats 4000000 in
set_option maxRecDepth 100000 in
theorem c_X9_dusk (l : Launch) (G : q_G) (x : q_A) (σ : q_S) (a1 : Int32)  {res : Nat × Int32 × q_S} (h : f_X9_dusk σ a1 = some res) (hfl : l.stackTraces = false) : q_MetX l yX9_dusk cX9_dusk 3 (some .int) 7 G [.ref (G.2.1 + 0), .int a1] σ x (q_QiX G x res.1 res.2.1 res.2.2) res.1 res.2.2 := by
  refine q_ofX (by decide) (Nat.le_of_ble_eq_true rfl) (fun X hl0 hx hr hE hR6 => ?_)
  subst hl0
  have hx : q_Cx X G RX9 cX9_dusk 3 7 := hx
  unfold f_X9_dusk at h
  show q_Wq X G x 3 (q_MQX X G x (q_QiX G x res.1 res.2.1 res.2.2) res.1 res.2.2) 0 0 0 [(0, .ref (G.2.1 + 0)), (1, .int a1)] [] σ
  refine q_aload_n hx dX9_dusk_0 0 rfl ?_
  refine q_get (v := .ref (G.2.1 + 53)) hx q_fl_X9_43 dX9_dusk_1 (q_ne kd_0 (by decide)) (q_e9 kd_0) rfl ?_
  refine q_aload_n hx dX9_dusk_4 0 rfl ?_
  refine q_get (v := .ref (G.2.1 + 2)) hx q_fl_X9_20 dX9_dusk_5 (q_ne kd_0 (by decide)) (q_e9 kd_0) rfl ?_
  refine q_bindE h (fun q1 hq1 h => ?_)
  refine q_callVv (As := [.ref (G.2.1 + 2)]) (rest := []) hx q_kR0 (c_X3_note (q_Xl X) G x σ 2 dr_2 hq1) q_ml_X9_79 q_mn_X3_note q_mi_X3_note q_se_X3_note (by decide) rfl (Nat.le_of_ble_eq_true rfl) dX9_dusk_8 (q_ne kd_53 (by decide)) (q_e3 kd_53) rfl rfl rfl ?_
  refine q_aload_n hx dX9_dusk_11 0 rfl ?_
  refine q_get (v := .ref (G.2.1 + 1)) hx q_fl_X9_12 dX9_dusk_12 (q_ne kd_0 (by decide)) (q_e9 kd_0) rfl ?_
  refine q_iload_n hx dX9_dusk_15 1 rfl ?_
  refine q_bindE h (fun q2 hq2 h => ?_)
  refine q_callVi (As := [.int a1]) (rest := []) hx q_kR0 (c_X8_letHoursGoBy (q_Xl X) G x q1 a1 hq2) q_ml_X9_139 q_mn_X8_letHoursGoBy q_mi_X8_letHoursGoBy q_se_X8_letHoursGoBy (by decide) rfl (Nat.le_of_ble_eq_true rfl) dX9_dusk_16 (q_ne kd_1 (by decide)) (q_e8 kd_1) rfl rfl rfl ?_
  refine q_istore_n hx [(2, .int q2.1), (0, .ref (G.2.1 + 0)), (1, .int a1)] dX9_dusk_19 (by decide) rfl ?_
  refine q_iload_n hx dX9_dusk_20 0 rfl ?_
  refine q_if_ge hx 34 dX9_dusk_21 (by decide) (fun hc3 => ?_) (fun hc3 => ?_)
  · replace h := (if_pos hc3).symm.trans h
    refine q_aload_n hx dX9_dusk_34 1 rfl ?_
    refine q_get (v := .ref (G.2.1 + 53)) hx q_fl_X9_43 dX9_dusk_35 (q_ne kd_0 (by decide)) (q_e9 kd_0) rfl ?_
    refine q_bindE h (fun q4 hq4 h => ?_)
    refine q_callVv (As := []) (rest := []) hx q_kR0 (c_X3_keep (q_Xl X) G x q2.2  hq4) q_ml_X9_99 q_mn_X3_keep q_mi_X3_keep q_se_X3_keep (by decide) rfl (Nat.le_of_ble_eq_true rfl) dX9_dusk_38 (q_ne kd_53 (by decide)) (q_e3 kd_53) rfl rfl rfl ?_
    refine q_iload_n hx dX9_dusk_41 0 rfl ?_
    cases h
    exact q_iretX hx hr dX9_dusk_42
  · replace h := (if_neg hc3).symm.trans h
    cases h
    exact q_throwS hx hE hR6 (by decide) hfl q_th_X9_87_142_91 2 (by decide) rfl (by decide) dX9_dusk_24 dX9_dusk_27 dX9_dusk_28 dX9_dusk_30 dX9_dusk_33
-- X9_sleeperOf
def f_X9_sleeperOf (σ : q_S) (a1 : Int32) (a2 : Int32) : Option (Nat × Int32 × q_S) :=
  if ((f_X2_hasSleeper σ 2 a1)) = 0 then (some ((1, 0, σ))) else (if a2 = 0 then (some ((0, (f_X2_depthOf σ 2 a1), σ))) else if a2 = 1 then (if (σ (f_X2_plotOf 2 a1) 1) = 0 then (if (σ (f_X2_plotOf 2 a1) 0) = 0 then (some ((0, 0, σ))) else (some ((0, 1, σ)))) else (some ((0, 2, σ)))) else if a2 = 2 then (some ((0, σ (f_X2_plotOf 2 a1) 6, σ))) else if a2 = 3 then (if (σ (f_X2_plotOf 2 a1) 0) = 0 then (some ((0, (-1), σ))) else (some ((0, σ (f_X2_plotOf 2 a1) 4, σ)))) else if a2 = 4 then (if (σ (f_X2_plotOf 2 a1) 0) = 0 then (some ((0, (-1), σ))) else (some ((0, σ (f_X2_plotOf 2 a1) 5, σ)))) else if a2 = 5 then (Option.bind (f_X6_corners σ ((f_X2_plotOf 2 a1))) (fun q12 => some ((0, q12, σ)))) else if a2 = 6 then (Option.bind (f_X0_survey σ 2 0) (fun q14 => some ((0, (f_X0_countOf q14 a1), q14)))) else some ((2, 0, σ)))
set_option maxHeartbeats 4000000 in
set_option maxRecDepth 100000 in
theorem c_X9_sleeperOf (l : Launch) (G : q_G) (x : q_A) (σ : q_S) (a1 : Int32) (a2 : Int32)  {res : Nat × Int32 × q_S} (h : f_X9_sleeperOf σ a1 a2 = some res) (hfl : l.stackTraces = false) : q_MetX l yX9_sleeperOf cX9_sleeperOf 4 (some .int) 7 G [.ref (G.2.1 + 0), .int a1, .int a2] σ x (q_QiX G x res.1 res.2.1 res.2.2) res.1 res.2.2 := by
  refine q_ofX (by decide) (Nat.le_of_ble_eq_true rfl) (fun X hl0 hx hr hE hR6 => ?_)
  subst hl0
  have hx : q_Cx X G RX9 cX9_sleeperOf 4 7 := hx
  unfold f_X9_sleeperOf at h
  show q_Wq X G x 4 (q_MQX X G x (q_QiX G x res.1 res.2.1 res.2.2) res.1 res.2.2) 0 0 0 [(0, .ref (G.2.1 + 0)), (1, .int a1), (2, .int a2)] [] σ
  refine q_aload_n hx dX9_sleeperOf_0 0 rfl ?_
  refine q_get (v := .ref (G.2.1 + 2)) hx q_fl_X9_20 dX9_sleeperOf_1 (q_ne kd_0 (by decide)) (q_e9 kd_0) rfl ?_
  refine q_iload_n hx dX9_sleeperOf_4 1 rfl ?_
  refine q_callVi (As := [.int a1]) (rest := []) hx q_kR0 (c_X2_hasSleeper (q_Xl X) G x σ 2 a1 dr_2) q_ml_X9_144 q_mn_X2_hasSleeper q_mi_X2_hasSleeper q_se_X2_hasSleeper (by decide) rfl (Nat.le_of_ble_eq_true rfl) dX9_sleeperOf_5 (q_ne dr_2.1 (by decide)) (q_e2 dr_2.1) rfl rfl rfl ?_
  refine q_if_ne hx 21 dX9_sleeperOf_8 (by decide) (fun hc1 => ?_) (fun hc1 => ?_)
  · replace h := (if_neg hc1).symm.trans h
    refine q_aload_n hx dX9_sleeperOf_21 0 rfl ?_
    refine q_get (v := .ref (G.2.1 + 2)) hx q_fl_X9_20 dX9_sleeperOf_22 (q_ne kd_0 (by decide)) (q_e9 kd_0) rfl ?_
    refine q_iload_n hx dX9_sleeperOf_25 1 rfl ?_
    refine q_callVr (As := [.int a1]) (rest := []) hx q_kR0 (c_X2_plotOf (q_Xl X) G x σ 2 a1 dr_2) q_ml_X9_148 q_mn_X2_plotOf q_mi_X2_plotOf q_se_X2_plotOf (by decide) rfl (Nat.le_of_ble_eq_true rfl) dX9_sleeperOf_26 (q_ne dr_2.1 (by decide)) (q_e2 dr_2.1) rfl rfl rfl ?_
    refine q_astore_n hx [(3, .ref (G.2.1 + (f_X2_plotOf 2 a1))), (0, .ref (G.2.1 + 0)), (1, .int a1), (2, .int a2)] dX9_sleeperOf_29 (by decide) rfl ?_
    refine q_iload_n hx dX9_sleeperOf_30 3 rfl ?_
    by_cases hc2 : a2 = 0
    · replace h := (if_pos hc2).symm.trans h
      refine q_tin hx 72 dX9_sleeperOf_31 (by rw [hc2] <;> decide) (by rw [hc2] <;> decide) (by rw [hc2] <;> rfl) (by decide) ?_
      refine q_aload_n hx dX9_sleeperOf_72 1 rfl ?_
      refine q_get (v := .ref (G.2.1 + 2)) hx q_fl_X9_20 dX9_sleeperOf_73 (q_ne kd_0 (by decide)) (q_e9 kd_0) rfl ?_
      refine q_iload_n hx dX9_sleeperOf_76 2 rfl ?_
      refine q_callVi (As := [.int a1]) (rest := []) hx q_kR0 (c_X2_depthOf (q_Xl X) G x σ 2 a1 dr_2) q_ml_X9_152 q_mn_X2_depthOf q_mi_X2_depthOf q_se_X2_depthOf (by decide) rfl (Nat.le_of_ble_eq_true rfl) dX9_sleeperOf_77 (q_ne dr_2.1 (by decide)) (q_e2 dr_2.1) rfl rfl rfl ?_
      cases h
      exact q_iretX hx hr dX9_sleeperOf_80
    replace h := (if_neg hc2).symm.trans h
    by_cases hc3 : a2 = 1
    · replace h := (if_pos hc3).symm.trans h
      refine q_tin hx 81 dX9_sleeperOf_31 (by rw [hc3] <;> decide) (by rw [hc3] <;> decide) (by rw [hc3] <;> rfl) (by decide) ?_
      refine q_aload_n hx dX9_sleeperOf_81 0 rfl ?_
      refine q_get (v := .int (σ (f_X2_plotOf 2 a1) 1)) hx q_fl_X9_155 dX9_sleeperOf_82 (q_ne (q_plotOf_ok dr_2 a1).1 (by decide)) (q_e6 (q_plotOf_ok dr_2 a1).1) rfl ?_
      refine q_if_eq hx 92 dX9_sleeperOf_85 (by decide) (fun hc4 => ?_) (fun hc4 => ?_)
      · replace h := (if_pos hc4).symm.trans h
        refine q_aload_n hx dX9_sleeperOf_92 0 rfl ?_
        refine q_get (v := .int (σ (f_X2_plotOf 2 a1) 0)) hx q_fl_X9_160 dX9_sleeperOf_93 (q_ne (q_plotOf_ok dr_2 a1).1 (by decide)) (q_e6 (q_plotOf_ok dr_2 a1).1) rfl ?_
        refine q_if_eq hx 103 dX9_sleeperOf_96 (by decide) (fun hc5 => ?_) (fun hc5 => ?_)
        · replace h := (if_pos hc5).symm.trans h
          refine q_iconst (v := 0) hx dX9_sleeperOf_103 (by decide) ?_
          cases h
          exact q_iretX hx hr dX9_sleeperOf_104
        · replace h := (if_neg hc5).symm.trans h
          refine q_iconst (v := 1) hx dX9_sleeperOf_99 (by decide) ?_
          refine q_goto hx 104 dX9_sleeperOf_100 (by decide) ?_
          cases h
          exact q_iretX hx hr dX9_sleeperOf_104
      · replace h := (if_neg hc4).symm.trans h
        refine q_iconst (v := 2) hx dX9_sleeperOf_88 (by decide) ?_
        refine q_goto hx 104 dX9_sleeperOf_89 (by decide) ?_
        cases h
        exact q_iretX hx hr dX9_sleeperOf_104
    replace h := (if_neg hc3).symm.trans h
    by_cases hc6 : a2 = 2
    · replace h := (if_pos hc6).symm.trans h
      refine q_tin hx 105 dX9_sleeperOf_31 (by rw [hc6] <;> decide) (by rw [hc6] <;> decide) (by rw [hc6] <;> rfl) (by decide) ?_
      refine q_aload_n hx dX9_sleeperOf_105 0 rfl ?_
      refine q_get (v := .int (σ (f_X2_plotOf 2 a1) 6)) hx q_fl_X9_163 dX9_sleeperOf_106 (q_ne (q_plotOf_ok dr_2 a1).1 (by decide)) (q_e6 (q_plotOf_ok dr_2 a1).1) rfl ?_
      cases h
      exact q_iretX hx hr dX9_sleeperOf_109
    replace h := (if_neg hc6).symm.trans h
    by_cases hc7 : a2 = 3
    · replace h := (if_pos hc7).symm.trans h
      refine q_tin hx 110 dX9_sleeperOf_31 (by rw [hc7] <;> decide) (by rw [hc7] <;> decide) (by rw [hc7] <;> rfl) (by decide) ?_
      refine q_aload_n hx dX9_sleeperOf_110 0 rfl ?_
      refine q_get (v := .int (σ (f_X2_plotOf 2 a1) 0)) hx q_fl_X9_160 dX9_sleeperOf_111 (q_ne (q_plotOf_ok dr_2 a1).1 (by decide)) (q_e6 (q_plotOf_ok dr_2 a1).1) rfl ?_
      refine q_if_eq hx 124 dX9_sleeperOf_114 (by decide) (fun hc8 => ?_) (fun hc8 => ?_)
      · replace h := (if_pos hc8).symm.trans h
        refine q_iconst (v := (-1)) hx dX9_sleeperOf_124 (by decide) ?_
        cases h
        exact q_iretX hx hr dX9_sleeperOf_125
      · replace h := (if_neg hc8).symm.trans h
        refine q_aload_n hx dX9_sleeperOf_117 0 rfl ?_
        refine q_get (v := .int (σ (f_X2_plotOf 2 a1) 4)) hx q_fl_X9_166 dX9_sleeperOf_118 (q_ne (q_plotOf_ok dr_2 a1).1 (by decide)) (q_e6 (q_plotOf_ok dr_2 a1).1) rfl ?_
        refine q_goto hx 125 dX9_sleeperOf_121 (by decide) ?_
        cases h
        exact q_iretX hx hr dX9_sleeperOf_125
    replace h := (if_neg hc7).symm.trans h
    by_cases hc9 : a2 = 4
    · replace h := (if_pos hc9).symm.trans h
      refine q_tin hx 126 dX9_sleeperOf_31 (by rw [hc9] <;> decide) (by rw [hc9] <;> decide) (by rw [hc9] <;> rfl) (by decide) ?_
      refine q_aload_n hx dX9_sleeperOf_126 0 rfl ?_
      refine q_get (v := .int (σ (f_X2_plotOf 2 a1) 0)) hx q_fl_X9_160 dX9_sleeperOf_127 (q_ne (q_plotOf_ok dr_2 a1).1 (by decide)) (q_e6 (q_plotOf_ok dr_2 a1).1) rfl ?_
      refine q_if_eq hx 140 dX9_sleeperOf_130 (by decide) (fun hc10 => ?_) (fun hc10 => ?_)
      · replace h := (if_pos hc10).symm.trans h
        refine q_iconst (v := (-1)) hx dX9_sleeperOf_140 (by decide) ?_
        cases h
        exact q_iretX hx hr dX9_sleeperOf_141
      · replace h := (if_neg hc10).symm.trans h
        refine q_aload_n hx dX9_sleeperOf_133 0 rfl ?_
        refine q_get (v := .int (σ (f_X2_plotOf 2 a1) 5)) hx q_fl_X9_169 dX9_sleeperOf_134 (q_ne (q_plotOf_ok dr_2 a1).1 (by decide)) (q_e6 (q_plotOf_ok dr_2 a1).1) rfl ?_
        refine q_goto hx 141 dX9_sleeperOf_137 (by decide) ?_
        cases h
        exact q_iretX hx hr dX9_sleeperOf_141
    replace h := (if_neg hc9).symm.trans h
    by_cases hc11 : a2 = 5
    · replace h := (if_pos hc11).symm.trans h
      refine q_tin hx 142 dX9_sleeperOf_31 (by rw [hc11] <;> decide) (by rw [hc11] <;> decide) (by rw [hc11] <;> rfl) (by decide) ?_
      refine q_aload_n hx dX9_sleeperOf_142 0 rfl ?_
      refine q_bindE h (fun q12 hq12 h => ?_)
      refine q_callVi (As := []) (rest := []) hx q_kR0 (c_X6_corners (q_Xl X) G x σ ((f_X2_plotOf 2 a1)) ((q_plotOf_ok dr_2 a1)) hq12) q_ml_X9_172 q_mn_X6_corners q_mi_X6_corners q_se_X6_corners (by decide) rfl (Nat.le_of_ble_eq_true rfl) dX9_sleeperOf_143 (q_ne (q_plotOf_ok dr_2 a1).1 (by decide)) (q_e6 (q_plotOf_ok dr_2 a1).1) rfl rfl rfl ?_
      cases h
      exact q_iretX hx hr dX9_sleeperOf_146
    replace h := (if_neg hc11).symm.trans h
    by_cases hc13 : a2 = 6
    · replace h := (if_pos hc13).symm.trans h
      refine q_tin hx 147 dX9_sleeperOf_31 (by rw [hc13] <;> decide) (by rw [hc13] <;> decide) (by rw [hc13] <;> rfl) (by decide) ?_
      refine q_aload_n hx dX9_sleeperOf_147 1 rfl ?_
      refine q_get (v := .ref (G.2.1 + 280)) hx q_fl_X9_50 dX9_sleeperOf_148 (q_ne kd_0 (by decide)) (q_e9 kd_0) rfl ?_
      refine q_aload_n hx dX9_sleeperOf_151 1 rfl ?_
      refine q_get (v := .ref (G.2.1 + 2)) hx q_fl_X9_20 dX9_sleeperOf_152 (q_ne kd_0 (by decide)) (q_e9 kd_0) rfl ?_
      refine q_iconst (v := 0) hx dX9_sleeperOf_155 (by decide) ?_
      refine q_bindE h (fun q14 hq14 h => ?_)
      refine q_callVv (As := [.ref (G.2.1 + 2), .int 0]) (rest := []) hx q_kR0 (c_X0_survey (q_Xl X) G x σ 2 0 dr_2 hq14) q_ml_X9_176 q_mn_X0_survey q_mi_X0_survey q_se_X0_survey (by decide) rfl (Nat.le_of_ble_eq_true rfl) dX9_sleeperOf_156 (q_ne kd_280 (by decide)) (q_e0 kd_280) rfl rfl rfl ?_
      refine q_aload_n hx dX9_sleeperOf_159 1 rfl ?_
      refine q_get (v := .ref (G.2.1 + 280)) hx q_fl_X9_50 dX9_sleeperOf_160 (q_ne kd_0 (by decide)) (q_e9 kd_0) rfl ?_
      refine q_iload_n hx dX9_sleeperOf_163 2 rfl ?_
      refine q_callVi (As := [.int a1]) (rest := []) hx q_kR0 (c_X0_countOf (q_Xl X) G x q14 a1) q_ml_X9_180 q_mn_X0_countOf q_mi_X0_countOf q_se_X0_countOf (by decide) rfl (Nat.le_of_ble_eq_true rfl) dX9_sleeperOf_164 (q_ne kd_280 (by decide)) (q_e0 kd_280) rfl rfl rfl ?_
      cases h
      exact q_iretX hx hr dX9_sleeperOf_167
    replace h := (if_neg hc13).symm.trans h
    have hc2T := lv_neT (k := 0) (a := 0) hc2 (by decide)
    have hc3T := lv_neT (k := 1) (a := 1) hc3 (by decide)
    have hc6T := lv_neT (k := 2) (a := 2) hc6 (by decide)
    have hc7T := lv_neT (k := 3) (a := 3) hc7 (by decide)
    have hc9T := lv_neT (k := 4) (a := 4) hc9 (by decide)
    have hc11T := lv_neT (k := 5) (a := 5) hc11 (by decide)
    have hc13T := lv_neT (k := 6) (a := 6) hc13 (by decide)
    refine q_tout hx 168 dX9_sleeperOf_31 (by omega) (by decide) ?_
    cases h
    exact q_throwS hx hE hR6 (by decide) hfl q_th_X9_87_183_91 2 (by decide) rfl (by decide) dX9_sleeperOf_168 dX9_sleeperOf_171 dX9_sleeperOf_172 dX9_sleeperOf_174 dX9_sleeperOf_177
  · replace h := (if_pos hc1).symm.trans h
    cases h
    exact q_throwS hx hE hR6 (by decide) hfl q_th_X9_106_121_110 1 (by decide) rfl (by decide) dX9_sleeperOf_11 dX9_sleeperOf_14 dX9_sleeperOf_15 dX9_sleeperOf_17 dX9_sleeperOf_20
-- X9_chainOf
def f_X9_chainOf (σ : q_S) (a1 : Int32) (a2 : Int32) (a3 : Int32) : Option (Nat × Int32) :=
  if ((f_X2_hasSleeper σ 2 a1)) = 0 then (some ((1, 0))) else (if ((f_X6_hasChain σ ((f_X2_plotOf 2 a1)) a2)) = 0 then (some ((1, 0))) else (if a3 = 0 then (some ((0, (f_X6_directionOf σ ((f_X2_plotOf 2 a1)) a2)))) else if a3 = 1 then (some ((0, (f_X6_lengthOf σ ((f_X2_plotOf 2 a1)) a2)))) else if a3 = 2 then (Option.bind (f_X6_startX σ ((f_X2_plotOf 2 a1)) a2) (fun q6 => some ((0, q6)))) else if a3 = 3 then (Option.bind (f_X6_startY σ ((f_X2_plotOf 2 a1)) a2) (fun q8 => some ((0, q8)))) else some ((2, 0))))
set_option maxHeartbeats 4000000 in
set_option maxRecDepth 100000 in
theorem c_X9_chainOf (l : Launch) (G : q_G) (x : q_A) (σ : q_S) (a1 : Int32) (a2 : Int32) (a3 : Int32)  {res : Nat × Int32} (h : f_X9_chainOf σ a1 a2 a3 = some res) (hfl : l.stackTraces = false) : q_MetX l yX9_chainOf cX9_chainOf 5 (some .int) 7 G [.ref (G.2.1 + 0), .int a1, .int a2, .int a3] σ x (q_QiX G x res.1 res.2 σ) res.1 σ := by
  refine q_ofX (by decide) (Nat.le_of_ble_eq_true rfl) (fun X hl0 hx hr hE hR6 => ?_)
  subst hl0
  have hx : q_Cx X G RX9 cX9_chainOf 5 7 := hx
  unfold f_X9_chainOf at h
  show q_Wq X G x 5 (q_MQX X G x (q_QiX G x res.1 res.2 σ) res.1 σ) 0 0 0 [(0, .ref (G.2.1 + 0)), (1, .int a1), (2, .int a2), (3, .int a3)] [] σ
  refine q_aload_n hx dX9_chainOf_0 0 rfl ?_
  refine q_get (v := .ref (G.2.1 + 2)) hx q_fl_X9_20 dX9_chainOf_1 (q_ne kd_0 (by decide)) (q_e9 kd_0) rfl ?_
  refine q_iload_n hx dX9_chainOf_4 1 rfl ?_
  refine q_callVr (As := [.int a1]) (rest := []) hx q_kR0 (c_X2_plotOf (q_Xl X) G x σ 2 a1 dr_2) q_ml_X9_148 q_mn_X2_plotOf q_mi_X2_plotOf q_se_X2_plotOf (by decide) rfl (Nat.le_of_ble_eq_true rfl) dX9_chainOf_5 (q_ne dr_2.1 (by decide)) (q_e2 dr_2.1) rfl rfl rfl ?_
  refine q_astore hx [(4, .ref (G.2.1 + (f_X2_plotOf 2 a1))), (0, .ref (G.2.1 + 0)), (1, .int a1), (2, .int a2), (3, .int a3)] dX9_chainOf_8 (by decide) rfl ?_
  refine q_aload_n hx dX9_chainOf_10 1 rfl ?_
  refine q_get (v := .ref (G.2.1 + 2)) hx q_fl_X9_20 dX9_chainOf_11 (q_ne kd_0 (by decide)) (q_e9 kd_0) rfl ?_
  refine q_iload_n hx dX9_chainOf_14 2 rfl ?_
  refine q_callVi (As := [.int a1]) (rest := []) hx q_kR0 (c_X2_hasSleeper (q_Xl X) G x σ 2 a1 dr_2) q_ml_X9_144 q_mn_X2_hasSleeper q_mi_X2_hasSleeper q_se_X2_hasSleeper (by decide) rfl (Nat.le_of_ble_eq_true rfl) dX9_chainOf_15 (q_ne dr_2.1 (by decide)) (q_e2 dr_2.1) rfl rfl rfl ?_
  refine q_if_eq hx 30 dX9_chainOf_18 (by decide) (fun hc1 => ?_) (fun hc1 => ?_)
  · replace h := (if_pos hc1).symm.trans h
    cases h
    exact q_throwS hx hE hR6 (by decide) hfl q_th_X9_106_128_110 1 (by decide) rfl (by decide) dX9_chainOf_30 dX9_chainOf_33 dX9_chainOf_34 dX9_chainOf_36 dX9_chainOf_39
  · replace h := (if_neg hc1).symm.trans h
    refine q_aload hx dX9_chainOf_21 0 rfl ?_
    refine q_iload_n hx dX9_chainOf_23 3 rfl ?_
    refine q_callVi (As := [.int a2]) (rest := []) hx q_kR0 (c_X6_hasChain (q_Xl X) G x σ ((f_X2_plotOf 2 a1)) a2 ((q_plotOf_ok dr_2 a1))) q_ml_X9_185 q_mn_X6_hasChain q_mi_X6_hasChain q_se_X6_hasChain (by decide) rfl (Nat.le_of_ble_eq_true rfl) dX9_chainOf_24 (q_ne (q_plotOf_ok dr_2 a1).1 (by decide)) (q_e6 (q_plotOf_ok dr_2 a1).1) rfl rfl rfl ?_
    refine q_if_ne hx 40 dX9_chainOf_27 (by decide) (fun hc2 => ?_) (fun hc2 => ?_)
    · replace h := (if_neg hc2).symm.trans h
      refine q_iload_n hx dX9_chainOf_40 4 rfl ?_
      by_cases hc3 : a3 = 0
      · replace h := (if_pos hc3).symm.trans h
        refine q_tin hx 72 dX9_chainOf_41 (by rw [hc3] <;> decide) (by rw [hc3] <;> decide) (by rw [hc3] <;> rfl) (by decide) ?_
        refine q_aload hx dX9_chainOf_72 0 rfl ?_
        refine q_iload_n hx dX9_chainOf_74 3 rfl ?_
        refine q_callVi (As := [.int a2]) (rest := []) hx q_kR0 (c_X6_directionOf (q_Xl X) G x σ ((f_X2_plotOf 2 a1)) a2 ((q_plotOf_ok dr_2 a1))) q_ml_X9_188 q_mn_X6_directionOf q_mi_X6_directionOf q_se_X6_directionOf (by decide) rfl (Nat.le_of_ble_eq_true rfl) dX9_chainOf_75 (q_ne (q_plotOf_ok dr_2 a1).1 (by decide)) (q_e6 (q_plotOf_ok dr_2 a1).1) rfl rfl rfl ?_
        cases h
        exact q_iretX hx hr dX9_chainOf_78
      replace h := (if_neg hc3).symm.trans h
      by_cases hc4 : a3 = 1
      · replace h := (if_pos hc4).symm.trans h
        refine q_tin hx 79 dX9_chainOf_41 (by rw [hc4] <;> decide) (by rw [hc4] <;> decide) (by rw [hc4] <;> rfl) (by decide) ?_
        refine q_aload hx dX9_chainOf_79 0 rfl ?_
        refine q_iload_n hx dX9_chainOf_81 3 rfl ?_
        refine q_callVi (As := [.int a2]) (rest := []) hx q_kR0 (c_X6_lengthOf (q_Xl X) G x σ ((f_X2_plotOf 2 a1)) a2 ((q_plotOf_ok dr_2 a1))) q_ml_X9_191 q_mn_X6_lengthOf q_mi_X6_lengthOf q_se_X6_lengthOf (by decide) rfl (Nat.le_of_ble_eq_true rfl) dX9_chainOf_82 (q_ne (q_plotOf_ok dr_2 a1).1 (by decide)) (q_e6 (q_plotOf_ok dr_2 a1).1) rfl rfl rfl ?_
        cases h
        exact q_iretX hx hr dX9_chainOf_85
      replace h := (if_neg hc4).symm.trans h
      by_cases hc5 : a3 = 2
      · replace h := (if_pos hc5).symm.trans h
        refine q_tin hx 86 dX9_chainOf_41 (by rw [hc5] <;> decide) (by rw [hc5] <;> decide) (by rw [hc5] <;> rfl) (by decide) ?_
        refine q_aload hx dX9_chainOf_86 0 rfl ?_
        refine q_iload_n hx dX9_chainOf_88 3 rfl ?_
        refine q_bindE h (fun q6 hq6 h => ?_)
        refine q_callVi (As := [.int a2]) (rest := []) hx q_kR0 (c_X6_startX (q_Xl X) G x σ ((f_X2_plotOf 2 a1)) a2 ((q_plotOf_ok dr_2 a1)) hq6) q_ml_X9_194 q_mn_X6_startX q_mi_X6_startX q_se_X6_startX (by decide) rfl (Nat.le_of_ble_eq_true rfl) dX9_chainOf_89 (q_ne (q_plotOf_ok dr_2 a1).1 (by decide)) (q_e6 (q_plotOf_ok dr_2 a1).1) rfl rfl rfl ?_
        cases h
        exact q_iretX hx hr dX9_chainOf_92
      replace h := (if_neg hc5).symm.trans h
      by_cases hc7 : a3 = 3
      · replace h := (if_pos hc7).symm.trans h
        refine q_tin hx 93 dX9_chainOf_41 (by rw [hc7] <;> decide) (by rw [hc7] <;> decide) (by rw [hc7] <;> rfl) (by decide) ?_
        refine q_aload hx dX9_chainOf_93 0 rfl ?_
        refine q_iload_n hx dX9_chainOf_95 3 rfl ?_
        refine q_bindE h (fun q8 hq8 h => ?_)
        refine q_callVi (As := [.int a2]) (rest := []) hx q_kR0 (c_X6_startY (q_Xl X) G x σ ((f_X2_plotOf 2 a1)) a2 ((q_plotOf_ok dr_2 a1)) hq8) q_ml_X9_197 q_mn_X6_startY q_mi_X6_startY q_se_X6_startY (by decide) rfl (Nat.le_of_ble_eq_true rfl) dX9_chainOf_96 (q_ne (q_plotOf_ok dr_2 a1).1 (by decide)) (q_e6 (q_plotOf_ok dr_2 a1).1) rfl rfl rfl ?_
        cases h
        exact q_iretX hx hr dX9_chainOf_99
      replace h := (if_neg hc7).symm.trans h
      have hc3T := lv_neT (k := 0) (a := 0) hc3 (by decide)
      have hc4T := lv_neT (k := 1) (a := 1) hc4 (by decide)
      have hc5T := lv_neT (k := 2) (a := 2) hc5 (by decide)
      have hc7T := lv_neT (k := 3) (a := 3) hc7 (by decide)
      refine q_tout hx 100 dX9_chainOf_41 (by omega) (by decide) ?_
      cases h
      exact q_throwS hx hE hR6 (by decide) hfl q_th_X9_87_200_91 2 (by decide) rfl (by decide) dX9_chainOf_100 dX9_chainOf_103 dX9_chainOf_104 dX9_chainOf_106 dX9_chainOf_109
    · replace h := (if_pos hc2).symm.trans h
      cases h
      exact q_throwS hx hE hR6 (by decide) hfl q_th_X9_106_128_110 1 (by decide) rfl (by decide) dX9_chainOf_30 dX9_chainOf_33 dX9_chainOf_34 dX9_chainOf_36 dX9_chainOf_39
-- X9_pegOf
def f_X9_pegOf (σ : q_S) (a1 : Int32) (a2 : Int32) : Option (Nat × Int32) :=
  if a1 < 0 then (some ((1, 0))) else (if a1 < (σ 8 0) then (if a2 = 0 then (some ((0, (f_X9_numberAt σ 9 8 a1)))) else if a2 = 1 then (some ((0, (f_X9_numberAt σ 10 8 a1)))) else if a2 = 2 then (some ((0, (f_X9_numberAt σ 11 8 a1)))) else if a2 = 3 then (Option.bind (f_X5_hoursUntilLit σ 8 a1 (σ 2 5)) (fun q7 => some ((0, q7)))) else some ((2, 0))) else (some ((1, 0))))
set_option maxHeartbeats 4000000 in
set_option maxRecDepth 100000 in
theorem c_X9_pegOf (l : Launch) (G : q_G) (x : q_A) (σ : q_S) (a1 : Int32) (a2 : Int32)  {res : Nat × Int32} (h : f_X9_pegOf σ a1 a2 = some res) (hfl : l.stackTraces = false) : q_MetX l yX9_pegOf cX9_pegOf 4 (some .int) 7 G [.ref (G.2.1 + 0), .int a1, .int a2] σ x (q_QiX G x res.1 res.2 σ) res.1 σ := by
  refine q_ofX (by decide) (Nat.le_of_ble_eq_true rfl) (fun X hl0 hx hr hE hR6 => ?_)
  subst hl0
  have hx : q_Cx X G RX9 cX9_pegOf 4 7 := hx
  unfold f_X9_pegOf at h
  show q_Wq X G x 4 (q_MQX X G x (q_QiX G x res.1 res.2 σ) res.1 σ) 0 0 0 [(0, .ref (G.2.1 + 0)), (1, .int a1), (2, .int a2)] [] σ
  refine q_aload_n hx dX9_pegOf_0 0 rfl ?_
  refine q_get (v := .ref (G.2.1 + 2)) hx q_fl_X9_20 dX9_pegOf_1 (q_ne kd_0 (by decide)) (q_e9 kd_0) rfl ?_
  refine q_get (v := .ref (G.2.1 + 8)) hx q_fl_X9_202 dX9_pegOf_4 (q_ne dr_2.1 (by decide)) (q_e2 dr_2.1) rfl ?_
  refine q_astore_n hx [(3, .ref (G.2.1 + 8)), (0, .ref (G.2.1 + 0)), (1, .int a1), (2, .int a2)] dX9_pegOf_7 (by decide) rfl ?_
  refine q_iload_n hx dX9_pegOf_8 2 rfl ?_
  refine q_if_lt hx 20 dX9_pegOf_9 (by decide) (fun hc1 => ?_) (fun hc1 => ?_)
  · replace h := (if_pos hc1).symm.trans h
    cases h
    exact q_throwS hx hE hR6 (by decide) hfl q_th_X9_106_211_110 1 (by decide) rfl (by decide) dX9_pegOf_20 dX9_pegOf_23 dX9_pegOf_24 dX9_pegOf_26 dX9_pegOf_29
  · replace h := (if_neg hc1).symm.trans h
    refine q_iload_n hx dX9_pegOf_12 2 rfl ?_
    refine q_aload_n hx dX9_pegOf_13 0 rfl ?_
    refine q_get (v := .int (σ 8 0)) hx q_fl_X9_206 dX9_pegOf_14 (q_ne pg_8.1 (by decide)) (q_e5 pg_8.1) rfl ?_
    refine q_icmp_lt hx 30 dX9_pegOf_17 (by decide) (fun hc2 => ?_) (fun hc2 => ?_)
    · replace h := (if_pos hc2).symm.trans h
      refine q_iload_n hx dX9_pegOf_30 3 rfl ?_
      by_cases hc3 : a2 = 0
      · replace h := (if_pos hc3).symm.trans h
        refine q_tin hx 60 dX9_pegOf_31 (by rw [hc3] <;> decide) (by rw [hc3] <;> decide) (by rw [hc3] <;> rfl) (by decide) ?_
        refine q_aload_n hx dX9_pegOf_60 0 rfl ?_
        refine q_get (v := .ref (G.2.1 + 9)) hx q_fl_X9_213 dX9_pegOf_61 (q_ne pg_8.1 (by decide)) (q_e5 pg_8.1) rfl ?_
        refine q_iload_n hx dX9_pegOf_64 2 rfl ?_
        refine q_callSi (As := [.ref (G.2.1 + 9), .int a1]) (rest := []) hx q_kR0 (c_X9_numberAt (q_Xl X) G x σ 9 8 a1 kd_9) q_ml_X9_217 q_mn_X9_numberAt q_ms_X9_numberAt (by decide) rfl (Nat.le_of_ble_eq_true rfl) dX9_pegOf_65 rfl ?_
        cases h
        exact q_iretX hx hr dX9_pegOf_68
      replace h := (if_neg hc3).symm.trans h
      by_cases hc4 : a2 = 1
      · replace h := (if_pos hc4).symm.trans h
        refine q_tin hx 69 dX9_pegOf_31 (by rw [hc4] <;> decide) (by rw [hc4] <;> decide) (by rw [hc4] <;> rfl) (by decide) ?_
        refine q_aload_n hx dX9_pegOf_69 0 rfl ?_
        refine q_get (v := .ref (G.2.1 + 10)) hx q_fl_X9_221 dX9_pegOf_70 (q_ne pg_8.1 (by decide)) (q_e5 pg_8.1) rfl ?_
        refine q_iload_n hx dX9_pegOf_73 2 rfl ?_
        refine q_callSi (As := [.ref (G.2.1 + 10), .int a1]) (rest := []) hx q_kR0 (c_X9_numberAt (q_Xl X) G x σ 10 8 a1 kd_10) q_ml_X9_217 q_mn_X9_numberAt q_ms_X9_numberAt (by decide) rfl (Nat.le_of_ble_eq_true rfl) dX9_pegOf_74 rfl ?_
        cases h
        exact q_iretX hx hr dX9_pegOf_77
      replace h := (if_neg hc4).symm.trans h
      by_cases hc5 : a2 = 2
      · replace h := (if_pos hc5).symm.trans h
        refine q_tin hx 78 dX9_pegOf_31 (by rw [hc5] <;> decide) (by rw [hc5] <;> decide) (by rw [hc5] <;> rfl) (by decide) ?_
        refine q_aload_n hx dX9_pegOf_78 0 rfl ?_
        refine q_get (v := .ref (G.2.1 + 11)) hx q_fl_X9_224 dX9_pegOf_79 (q_ne pg_8.1 (by decide)) (q_e5 pg_8.1) rfl ?_
        refine q_iload_n hx dX9_pegOf_82 2 rfl ?_
        refine q_callSi (As := [.ref (G.2.1 + 11), .int a1]) (rest := []) hx q_kR0 (c_X9_numberAt (q_Xl X) G x σ 11 8 a1 kd_11) q_ml_X9_217 q_mn_X9_numberAt q_ms_X9_numberAt (by decide) rfl (Nat.le_of_ble_eq_true rfl) dX9_pegOf_83 rfl ?_
        cases h
        exact q_iretX hx hr dX9_pegOf_86
      replace h := (if_neg hc5).symm.trans h
      by_cases hc6 : a2 = 3
      · replace h := (if_pos hc6).symm.trans h
        refine q_tin hx 87 dX9_pegOf_31 (by rw [hc6] <;> decide) (by rw [hc6] <;> decide) (by rw [hc6] <;> rfl) (by decide) ?_
        refine q_aload_n hx dX9_pegOf_87 0 rfl ?_
        refine q_iload_n hx dX9_pegOf_88 2 rfl ?_
        refine q_aload_n hx dX9_pegOf_89 1 rfl ?_
        refine q_get (v := .ref (G.2.1 + 2)) hx q_fl_X9_20 dX9_pegOf_90 (q_ne kd_0 (by decide)) (q_e9 kd_0) rfl ?_
        refine q_get (v := .int (σ 2 5)) hx q_fl_X9_227 dX9_pegOf_93 (q_ne dr_2.1 (by decide)) (q_e2 dr_2.1) rfl ?_
        refine q_bindE h (fun q7 hq7 h => ?_)
        refine q_callVi (As := [.int a1, .int (σ 2 5)]) (rest := []) hx q_kR0 (c_X5_hoursUntilLit (q_Xl X) G x σ 8 a1 (σ 2 5) pg_8 hq7) q_ml_X9_230 q_mn_X5_hoursUntilLit q_mi_X5_hoursUntilLit q_se_X5_hoursUntilLit (by decide) rfl (Nat.le_of_ble_eq_true rfl) dX9_pegOf_96 (q_ne pg_8.1 (by decide)) (q_e5 pg_8.1) rfl rfl rfl ?_
        cases h
        exact q_iretX hx hr dX9_pegOf_99
      replace h := (if_neg hc6).symm.trans h
      have hc3T := lv_neT (k := 0) (a := 0) hc3 (by decide)
      have hc4T := lv_neT (k := 1) (a := 1) hc4 (by decide)
      have hc5T := lv_neT (k := 2) (a := 2) hc5 (by decide)
      have hc6T := lv_neT (k := 3) (a := 3) hc6 (by decide)
      refine q_tout hx 100 dX9_pegOf_31 (by omega) (by decide) ?_
      cases h
      exact q_throwS hx hE hR6 (by decide) hfl q_th_X9_87_200_91 2 (by decide) rfl (by decide) dX9_pegOf_100 dX9_pegOf_103 dX9_pegOf_104 dX9_pegOf_106 dX9_pegOf_109
    · replace h := (if_neg hc2).symm.trans h
      cases h
      exact q_throwS hx hE hR6 (by decide) hfl q_th_X9_106_211_110 1 (by decide) rfl (by decide) dX9_pegOf_20 dX9_pegOf_23 dX9_pegOf_24 dX9_pegOf_26 dX9_pegOf_29
-- X9_owner
def f_X9_owner (σ : q_S) (a1 : Int32) (a2 : Int32) : Option (Nat × Int32) :=
  if ((f_X9_isCell a1 a2)) = 0 then (some ((1, 0))) else (Option.bind (f_X2_deepestAt σ 2 a1 a2 0) (fun q2 => some ((0, q2))))
set_option maxHeartbeats 4000000 in
set_option maxRecDepth 100000 in
theorem c_X9_owner (l : Launch) (G : q_G) (x : q_A) (σ : q_S) (a1 : Int32) (a2 : Int32)  {res : Nat × Int32} (h : f_X9_owner σ a1 a2 = some res) (hfl : l.stackTraces = false) : q_MetX l yX9_owner cX9_owner 3 (some .int) 7 G [.ref (G.2.1 + 0), .int a1, .int a2] σ x (q_QiX G x res.1 res.2 σ) res.1 σ := by
  refine q_ofX (by decide) (Nat.le_of_ble_eq_true rfl) (fun X hl0 hx hr hE hR6 => ?_)
  subst hl0
  have hx : q_Cx X G RX9 cX9_owner 3 7 := hx
  unfold f_X9_owner at h
  show q_Wq X G x 3 (q_MQX X G x (q_QiX G x res.1 res.2 σ) res.1 σ) 0 0 0 [(0, .ref (G.2.1 + 0)), (1, .int a1), (2, .int a2)] [] σ
  refine q_iload_n hx dX9_owner_0 1 rfl ?_
  refine q_iload_n hx dX9_owner_1 2 rfl ?_
  refine q_callSi (As := [.int a1, .int a2]) (rest := []) hx q_kR0 (c_X9_isCell (q_Xl X) G x σ a1 a2) q_ml_X9_233 q_mn_X9_isCell q_ms_X9_isCell (by decide) rfl (Nat.le_of_ble_eq_true rfl) dX9_owner_2 rfl ?_
  refine q_if_ne hx 18 dX9_owner_5 (by decide) (fun hc1 => ?_) (fun hc1 => ?_)
  · replace h := (if_neg hc1).symm.trans h
    refine q_aload_n hx dX9_owner_18 0 rfl ?_
    refine q_get (v := .ref (G.2.1 + 2)) hx q_fl_X9_20 dX9_owner_19 (q_ne kd_0 (by decide)) (q_e9 kd_0) rfl ?_
    refine q_iload_n hx dX9_owner_22 1 rfl ?_
    refine q_iload_n hx dX9_owner_23 2 rfl ?_
    refine q_iconst (v := 0) hx dX9_owner_24 (by decide) ?_
    refine q_bindE h (fun q2 hq2 h => ?_)
    refine q_callVi (As := [.int a1, .int a2, .int 0]) (rest := []) hx q_kR0 (c_X2_deepestAt (q_Xl X) G x σ 2 a1 a2 0 dr_2 hq2) q_ml_X9_239 q_mn_X2_deepestAt q_mi_X2_deepestAt q_se_X2_deepestAt (by decide) rfl (Nat.le_of_ble_eq_true rfl) dX9_owner_25 (q_ne dr_2.1 (by decide)) (q_e2 dr_2.1) rfl rfl rfl ?_
    cases h
    exact q_iretX hx hr dX9_owner_28
  · replace h := (if_pos hc1).symm.trans h
    cases h
    exact q_throwS hx hE hR6 (by decide) hfl q_th_X9_106_237_110 1 (by decide) rfl (by decide) dX9_owner_8 dX9_owner_11 dX9_owner_12 dX9_owner_14 dX9_owner_17
-- X9_isInside
def f_X9_isInside (σ : q_S) (a1 : Int32) (a2 : Int32) (a3 : Int32) : Option (Nat × Int32) :=
  if ((f_X2_hasSleeper σ 2 a1)) = 0 then (some ((1, 0))) else (if ((f_X9_isCell a2 a3)) = 0 then (some ((1, 0))) else (Option.bind (f_X6_holds σ ((f_X2_plotOf 2 a1)) a2 a3) (fun q3 => if (q3 = 0 ∨ q3 = 1) then some ((0, q3)) else none)))
set_option maxHeartbeats 4000000 in
set_option maxRecDepth 100000 in
theorem c_X9_isInside (l : Launch) (G : q_G) (x : q_A) (σ : q_S) (a1 : Int32) (a2 : Int32) (a3 : Int32)  {res : Nat × Int32} (h : f_X9_isInside σ a1 a2 a3 = some res) (hfl : l.stackTraces = false) : q_MetX l yX9_isInside cX9_isInside 4 (some .boolean) 7 G [.ref (G.2.1 + 0), .int a1, .int a2, .int a3] σ x (q_QiX G x res.1 res.2 σ) res.1 σ := by
  refine q_ofX (by decide) (Nat.le_of_ble_eq_true rfl) (fun X hl0 hx hr hE hR6 => ?_)
  subst hl0
  have hx : q_Cx X G RX9 cX9_isInside 4 7 := hx
  unfold f_X9_isInside at h
  show q_Wq X G x 4 (q_MQX X G x (q_QiX G x res.1 res.2 σ) res.1 σ) 0 0 0 [(0, .ref (G.2.1 + 0)), (1, .int a1), (2, .int a2), (3, .int a3)] [] σ
  refine q_aload_n hx dX9_isInside_0 0 rfl ?_
  refine q_get (v := .ref (G.2.1 + 2)) hx q_fl_X9_20 dX9_isInside_1 (q_ne kd_0 (by decide)) (q_e9 kd_0) rfl ?_
  refine q_iload_n hx dX9_isInside_4 1 rfl ?_
  refine q_callVi (As := [.int a1]) (rest := []) hx q_kR0 (c_X2_hasSleeper (q_Xl X) G x σ 2 a1 dr_2) q_ml_X9_144 q_mn_X2_hasSleeper q_mi_X2_hasSleeper q_se_X2_hasSleeper (by decide) rfl (Nat.le_of_ble_eq_true rfl) dX9_isInside_5 (q_ne dr_2.1 (by decide)) (q_e2 dr_2.1) rfl rfl rfl ?_
  refine q_if_eq hx 19 dX9_isInside_8 (by decide) (fun hc1 => ?_) (fun hc1 => ?_)
  · replace h := (if_pos hc1).symm.trans h
    cases h
    exact q_throwS hx hE hR6 (by decide) hfl q_th_X9_106_242_110 1 (by decide) rfl (by decide) dX9_isInside_19 dX9_isInside_22 dX9_isInside_23 dX9_isInside_25 dX9_isInside_28
  · replace h := (if_neg hc1).symm.trans h
    refine q_iload_n hx dX9_isInside_11 2 rfl ?_
    refine q_iload_n hx dX9_isInside_12 3 rfl ?_
    refine q_callSi (As := [.int a2, .int a3]) (rest := []) hx q_kR0 (c_X9_isCell (q_Xl X) G x σ a2 a3) q_ml_X9_233 q_mn_X9_isCell q_ms_X9_isCell (by decide) rfl (Nat.le_of_ble_eq_true rfl) dX9_isInside_13 rfl ?_
    refine q_if_ne hx 29 dX9_isInside_16 (by decide) (fun hc2 => ?_) (fun hc2 => ?_)
    · replace h := (if_neg hc2).symm.trans h
      refine q_aload_n hx dX9_isInside_29 0 rfl ?_
      refine q_get (v := .ref (G.2.1 + 2)) hx q_fl_X9_20 dX9_isInside_30 (q_ne kd_0 (by decide)) (q_e9 kd_0) rfl ?_
      refine q_iload_n hx dX9_isInside_33 1 rfl ?_
      refine q_callVr (As := [.int a1]) (rest := []) hx q_kR0 (c_X2_plotOf (q_Xl X) G x σ 2 a1 dr_2) q_ml_X9_148 q_mn_X2_plotOf q_mi_X2_plotOf q_se_X2_plotOf (by decide) rfl (Nat.le_of_ble_eq_true rfl) dX9_isInside_34 (q_ne dr_2.1 (by decide)) (q_e2 dr_2.1) rfl rfl rfl ?_
      refine q_iload_n hx dX9_isInside_37 2 rfl ?_
      refine q_iload_n hx dX9_isInside_38 3 rfl ?_
      refine q_bindE h (fun q3 hq3 h => ?_)
      refine q_callVi (As := [.int a2, .int a3]) (rest := []) hx q_kR0 (c_X6_holds (q_Xl X) G x σ ((f_X2_plotOf 2 a1)) a2 a3 ((q_plotOf_ok dr_2 a1)) hq3) q_ml_X9_244 q_mn_X6_holds q_mi_X6_holds q_se_X6_holds (by decide) rfl (Nat.le_of_ble_eq_true rfl) dX9_isInside_39 (q_ne (q_plotOf_ok dr_2 a1).1 (by decide)) (q_e6 (q_plotOf_ok dr_2 a1).1) rfl rfl rfl ?_
      by_cases hg4 : (q3 = 0 ∨ q3 = 1)
      case neg => rw [if_neg hg4] at h; exact nomatch h
      replace h := (if_pos hg4).symm.trans h
      cases h
      exact q_zretX hx hr (q_zn hg4) dX9_isInside_42
    · replace h := (if_pos hc2).symm.trans h
      cases h
      exact q_throwS hx hE hR6 (by decide) hfl q_th_X9_106_242_110 1 (by decide) rfl (by decide) dX9_isInside_19 dX9_isInside_22 dX9_isInside_23 dX9_isInside_25 dX9_isInside_28
-- X9_area
def f_X9_area (σ : q_S) (a1 : Int32) : Option (Nat × Int32) :=
  if ((f_X2_hasSleeper σ 2 a1)) = 0 then (some ((1, 0))) else (Option.bind (f_X6_areaByChains σ ((f_X2_plotOf 2 a1))) (fun q2 => some ((0, q2))))
set_option maxHeartbeats 4000000 in
set_option maxRecDepth 100000 in
theorem c_X9_area (l : Launch) (G : q_G) (x : q_A) (σ : q_S) (a1 : Int32)  {res : Nat × Int32} (h : f_X9_area σ a1 = some res) (hfl : l.stackTraces = false) : q_MetX l yX9_area cX9_area 2 (some .int) 7 G [.ref (G.2.1 + 0), .int a1] σ x (q_QiX G x res.1 res.2 σ) res.1 σ := by
  refine q_ofX (by decide) (Nat.le_of_ble_eq_true rfl) (fun X hl0 hx hr hE hR6 => ?_)
  subst hl0
  have hx : q_Cx X G RX9 cX9_area 2 7 := hx
  unfold f_X9_area at h
  show q_Wq X G x 2 (q_MQX X G x (q_QiX G x res.1 res.2 σ) res.1 σ) 0 0 0 [(0, .ref (G.2.1 + 0)), (1, .int a1)] [] σ
  refine q_aload_n hx dX9_area_0 0 rfl ?_
  refine q_get (v := .ref (G.2.1 + 2)) hx q_fl_X9_20 dX9_area_1 (q_ne kd_0 (by decide)) (q_e9 kd_0) rfl ?_
  refine q_iload_n hx dX9_area_4 1 rfl ?_
  refine q_callVi (As := [.int a1]) (rest := []) hx q_kR0 (c_X2_hasSleeper (q_Xl X) G x σ 2 a1 dr_2) q_ml_X9_144 q_mn_X2_hasSleeper q_mi_X2_hasSleeper q_se_X2_hasSleeper (by decide) rfl (Nat.le_of_ble_eq_true rfl) dX9_area_5 (q_ne dr_2.1 (by decide)) (q_e2 dr_2.1) rfl rfl rfl ?_
  refine q_if_ne hx 21 dX9_area_8 (by decide) (fun hc1 => ?_) (fun hc1 => ?_)
  · replace h := (if_neg hc1).symm.trans h
    refine q_aload_n hx dX9_area_21 0 rfl ?_
    refine q_get (v := .ref (G.2.1 + 2)) hx q_fl_X9_20 dX9_area_22 (q_ne kd_0 (by decide)) (q_e9 kd_0) rfl ?_
    refine q_iload_n hx dX9_area_25 1 rfl ?_
    refine q_callVr (As := [.int a1]) (rest := []) hx q_kR0 (c_X2_plotOf (q_Xl X) G x σ 2 a1 dr_2) q_ml_X9_148 q_mn_X2_plotOf q_mi_X2_plotOf q_se_X2_plotOf (by decide) rfl (Nat.le_of_ble_eq_true rfl) dX9_area_26 (q_ne dr_2.1 (by decide)) (q_e2 dr_2.1) rfl rfl rfl ?_
    refine q_bindE h (fun q2 hq2 h => ?_)
    refine q_callVi (As := []) (rest := []) hx q_kR0 (c_X6_areaByChains (q_Xl X) G x σ ((f_X2_plotOf 2 a1)) ((q_plotOf_ok dr_2 a1)) hq2) q_ml_X9_247 q_mn_X6_areaByChains q_mi_X6_areaByChains q_se_X6_areaByChains (by decide) rfl (Nat.le_of_ble_eq_true rfl) dX9_area_29 (q_ne (q_plotOf_ok dr_2 a1).1 (by decide)) (q_e6 (q_plotOf_ok dr_2 a1).1) rfl rfl rfl ?_
    cases h
    exact q_iretX hx hr dX9_area_32
  · replace h := (if_pos hc1).symm.trans h
    cases h
    exact q_throwS hx hE hR6 (by decide) hfl q_th_X9_106_121_110 1 (by decide) rfl (by decide) dX9_area_11 dX9_area_14 dX9_area_15 dX9_area_17 dX9_area_20
-- X9_areaAgain
def f_X9_areaAgain (σ : q_S) (a1 : Int32) : Option (Nat × Int32) :=
  if ((f_X2_hasSleeper σ 2 a1)) = 0 then (some ((1, 0))) else (Option.bind (f_X6_areaByCells σ ((f_X2_plotOf 2 a1))) (fun q2 => some ((0, q2))))
set_option maxHeartbeats 4000000 in
set_option maxRecDepth 100000 in
theorem c_X9_areaAgain (l : Launch) (G : q_G) (x : q_A) (σ : q_S) (a1 : Int32)  {res : Nat × Int32} (h : f_X9_areaAgain σ a1 = some res) (hfl : l.stackTraces = false) : q_MetX l yX9_areaAgain cX9_areaAgain 2 (some .int) 7 G [.ref (G.2.1 + 0), .int a1] σ x (q_QiX G x res.1 res.2 σ) res.1 σ := by
  refine q_ofX (by decide) (Nat.le_of_ble_eq_true rfl) (fun X hl0 hx hr hE hR6 => ?_)
  subst hl0
  have hx : q_Cx X G RX9 cX9_areaAgain 2 7 := hx
  unfold f_X9_areaAgain at h
  show q_Wq X G x 2 (q_MQX X G x (q_QiX G x res.1 res.2 σ) res.1 σ) 0 0 0 [(0, .ref (G.2.1 + 0)), (1, .int a1)] [] σ
  refine q_aload_n hx dX9_areaAgain_0 0 rfl ?_
  refine q_get (v := .ref (G.2.1 + 2)) hx q_fl_X9_20 dX9_areaAgain_1 (q_ne kd_0 (by decide)) (q_e9 kd_0) rfl ?_
  refine q_iload_n hx dX9_areaAgain_4 1 rfl ?_
  refine q_callVi (As := [.int a1]) (rest := []) hx q_kR0 (c_X2_hasSleeper (q_Xl X) G x σ 2 a1 dr_2) q_ml_X9_144 q_mn_X2_hasSleeper q_mi_X2_hasSleeper q_se_X2_hasSleeper (by decide) rfl (Nat.le_of_ble_eq_true rfl) dX9_areaAgain_5 (q_ne dr_2.1 (by decide)) (q_e2 dr_2.1) rfl rfl rfl ?_
  refine q_if_ne hx 21 dX9_areaAgain_8 (by decide) (fun hc1 => ?_) (fun hc1 => ?_)
  · replace h := (if_neg hc1).symm.trans h
    refine q_aload_n hx dX9_areaAgain_21 0 rfl ?_
    refine q_get (v := .ref (G.2.1 + 2)) hx q_fl_X9_20 dX9_areaAgain_22 (q_ne kd_0 (by decide)) (q_e9 kd_0) rfl ?_
    refine q_iload_n hx dX9_areaAgain_25 1 rfl ?_
    refine q_callVr (As := [.int a1]) (rest := []) hx q_kR0 (c_X2_plotOf (q_Xl X) G x σ 2 a1 dr_2) q_ml_X9_148 q_mn_X2_plotOf q_mi_X2_plotOf q_se_X2_plotOf (by decide) rfl (Nat.le_of_ble_eq_true rfl) dX9_areaAgain_26 (q_ne dr_2.1 (by decide)) (q_e2 dr_2.1) rfl rfl rfl ?_
    refine q_bindE h (fun q2 hq2 h => ?_)
    refine q_callVi (As := []) (rest := []) hx q_kR0 (c_X6_areaByCells (q_Xl X) G x σ ((f_X2_plotOf 2 a1)) ((q_plotOf_ok dr_2 a1)) hq2) q_ml_X9_250 q_mn_X6_areaByCells q_mi_X6_areaByCells q_se_X6_areaByCells (by decide) rfl (Nat.le_of_ble_eq_true rfl) dX9_areaAgain_29 (q_ne (q_plotOf_ok dr_2 a1).1 (by decide)) (q_e6 (q_plotOf_ok dr_2 a1).1) rfl rfl rfl ?_
    cases h
    exact q_iretX hx hr dX9_areaAgain_32
  · replace h := (if_pos hc1).symm.trans h
    cases h
    exact q_throwS hx hE hR6 (by decide) hfl q_th_X9_106_121_110 1 (by decide) rfl (by decide) dX9_areaAgain_11 dX9_areaAgain_14 dX9_areaAgain_15 dX9_areaAgain_17 dX9_areaAgain_20
-- X9_border
def f_X9_border (σ : q_S) (a1 : Int32) (a2 : Int32) : Option (Nat × Int32 × q_S) :=
  if ((f_X2_hasSleeper σ 2 a1)) = 0 then (some ((1, 0, σ))) else (if ((f_X2_hasSleeper σ 2 a2)) = 0 then (some ((1, 0, σ))) else (Option.bind (f_X0_survey σ 2 0) (fun q3 => Option.bind (f_X0_borderByCells q3 a1 a2) (fun q4 => some ((0, q4, q3))))))
set_option maxHeartbeats 4000000 in
set_option maxRecDepth 100000 in
theorem c_X9_border (l : Launch) (G : q_G) (x : q_A) (σ : q_S) (a1 : Int32) (a2 : Int32)  {res : Nat × Int32 × q_S} (h : f_X9_border σ a1 a2 = some res) (hfl : l.stackTraces = false) : q_MetX l yX9_border cX9_border 3 (some .int) 7 G [.ref (G.2.1 + 0), .int a1, .int a2] σ x (q_QiX G x res.1 res.2.1 res.2.2) res.1 res.2.2 := by
  refine q_ofX (by decide) (Nat.le_of_ble_eq_true rfl) (fun X hl0 hx hr hE hR6 => ?_)
  subst hl0
  have hx : q_Cx X G RX9 cX9_border 3 7 := hx
  unfold f_X9_border at h
  show q_Wq X G x 3 (q_MQX X G x (q_QiX G x res.1 res.2.1 res.2.2) res.1 res.2.2) 0 0 0 [(0, .ref (G.2.1 + 0)), (1, .int a1), (2, .int a2)] [] σ
  refine q_aload_n hx dX9_border_0 0 rfl ?_
  refine q_get (v := .ref (G.2.1 + 2)) hx q_fl_X9_20 dX9_border_1 (q_ne kd_0 (by decide)) (q_e9 kd_0) rfl ?_
  refine q_iload_n hx dX9_border_4 1 rfl ?_
  refine q_callVi (As := [.int a1]) (rest := []) hx q_kR0 (c_X2_hasSleeper (q_Xl X) G x σ 2 a1 dr_2) q_ml_X9_144 q_mn_X2_hasSleeper q_mi_X2_hasSleeper q_se_X2_hasSleeper (by decide) rfl (Nat.le_of_ble_eq_true rfl) dX9_border_5 (q_ne dr_2.1 (by decide)) (q_e2 dr_2.1) rfl rfl rfl ?_
  refine q_if_eq hx 22 dX9_border_8 (by decide) (fun hc1 => ?_) (fun hc1 => ?_)
  · replace h := (if_pos hc1).symm.trans h
    cases h
    exact q_throwS hx hE hR6 (by decide) hfl q_th_X9_106_121_110 1 (by decide) rfl (by decide) dX9_border_22 dX9_border_25 dX9_border_26 dX9_border_28 dX9_border_31
  · replace h := (if_neg hc1).symm.trans h
    refine q_aload_n hx dX9_border_11 0 rfl ?_
    refine q_get (v := .ref (G.2.1 + 2)) hx q_fl_X9_20 dX9_border_12 (q_ne kd_0 (by decide)) (q_e9 kd_0) rfl ?_
    refine q_iload_n hx dX9_border_15 2 rfl ?_
    refine q_callVi (As := [.int a2]) (rest := []) hx q_kR0 (c_X2_hasSleeper (q_Xl X) G x σ 2 a2 dr_2) q_ml_X9_144 q_mn_X2_hasSleeper q_mi_X2_hasSleeper q_se_X2_hasSleeper (by decide) rfl (Nat.le_of_ble_eq_true rfl) dX9_border_16 (q_ne dr_2.1 (by decide)) (q_e2 dr_2.1) rfl rfl rfl ?_
    refine q_if_ne hx 32 dX9_border_19 (by decide) (fun hc2 => ?_) (fun hc2 => ?_)
    · replace h := (if_neg hc2).symm.trans h
      refine q_aload_n hx dX9_border_32 0 rfl ?_
      refine q_get (v := .ref (G.2.1 + 280)) hx q_fl_X9_50 dX9_border_33 (q_ne kd_0 (by decide)) (q_e9 kd_0) rfl ?_
      refine q_aload_n hx dX9_border_36 0 rfl ?_
      refine q_get (v := .ref (G.2.1 + 2)) hx q_fl_X9_20 dX9_border_37 (q_ne kd_0 (by decide)) (q_e9 kd_0) rfl ?_
      refine q_iconst (v := 0) hx dX9_border_40 (by decide) ?_
      refine q_bindE h (fun q3 hq3 h => ?_)
      refine q_callVv (As := [.ref (G.2.1 + 2), .int 0]) (rest := []) hx q_kR0 (c_X0_survey (q_Xl X) G x σ 2 0 dr_2 hq3) q_ml_X9_176 q_mn_X0_survey q_mi_X0_survey q_se_X0_survey (by decide) rfl (Nat.le_of_ble_eq_true rfl) dX9_border_41 (q_ne kd_280 (by decide)) (q_e0 kd_280) rfl rfl rfl ?_
      refine q_aload_n hx dX9_border_44 0 rfl ?_
      refine q_get (v := .ref (G.2.1 + 280)) hx q_fl_X9_50 dX9_border_45 (q_ne kd_0 (by decide)) (q_e9 kd_0) rfl ?_
      refine q_iload_n hx dX9_border_48 1 rfl ?_
      refine q_iload_n hx dX9_border_49 2 rfl ?_
      refine q_bindE h (fun q4 hq4 h => ?_)
      refine q_callVi (As := [.int a1, .int a2]) (rest := []) hx q_kR0 (c_X0_borderByCells (q_Xl X) G x q3 a1 a2 hq4) q_ml_X9_253 q_mn_X0_borderByCells q_mi_X0_borderByCells q_se_X0_borderByCells (by decide) rfl (Nat.le_of_ble_eq_true rfl) dX9_border_50 (q_ne kd_280 (by decide)) (q_e0 kd_280) rfl rfl rfl ?_
      cases h
      exact q_iretX hx hr dX9_border_53
    · replace h := (if_pos hc2).symm.trans h
      cases h
      exact q_throwS hx hE hR6 (by decide) hfl q_th_X9_106_121_110 1 (by decide) rfl (by decide) dX9_border_22 dX9_border_25 dX9_border_26 dX9_border_28 dX9_border_31
-- X9_borderAgain
def f_X9_borderAgain (σ : q_S) (a1 : Int32) (a2 : Int32) : Option (Nat × Int32 × q_S) :=
  if ((f_X2_hasSleeper σ 2 a1)) = 0 then (some ((1, 0, σ))) else (if ((f_X2_hasSleeper σ 2 a2)) = 0 then (some ((1, 0, σ))) else (Option.bind (f_X0_survey σ 2 0) (fun q3 => Option.bind (f_X0_borderAround q3 a1 a2) (fun q4 => some ((0, q4, q3))))))
set_option maxHeartbeats 4000000 in
set_option maxRecDepth 100000 in
theorem c_X9_borderAgain (l : Launch) (G : q_G) (x : q_A) (σ : q_S) (a1 : Int32) (a2 : Int32)  {res : Nat × Int32 × q_S} (h : f_X9_borderAgain σ a1 a2 = some res) (hfl : l.stackTraces = false) : q_MetX l yX9_borderAgain cX9_borderAgain 3 (some .int) 7 G [.ref (G.2.1 + 0), .int a1, .int a2] σ x (q_QiX G x res.1 res.2.1 res.2.2) res.1 res.2.2 := by
  refine q_ofX (by decide) (Nat.le_of_ble_eq_true rfl) (fun X hl0 hx hr hE hR6 => ?_)
  subst hl0
  have hx : q_Cx X G RX9 cX9_borderAgain 3 7 := hx
  unfold f_X9_borderAgain at h
  show q_Wq X G x 3 (q_MQX X G x (q_QiX G x res.1 res.2.1 res.2.2) res.1 res.2.2) 0 0 0 [(0, .ref (G.2.1 + 0)), (1, .int a1), (2, .int a2)] [] σ
  refine q_aload_n hx dX9_borderAgain_0 0 rfl ?_
  refine q_get (v := .ref (G.2.1 + 2)) hx q_fl_X9_20 dX9_borderAgain_1 (q_ne kd_0 (by decide)) (q_e9 kd_0) rfl ?_
  refine q_iload_n hx dX9_borderAgain_4 1 rfl ?_
  refine q_callVi (As := [.int a1]) (rest := []) hx q_kR0 (c_X2_hasSleeper (q_Xl X) G x σ 2 a1 dr_2) q_ml_X9_144 q_mn_X2_hasSleeper q_mi_X2_hasSleeper q_se_X2_hasSleeper (by decide) rfl (Nat.le_of_ble_eq_true rfl) dX9_borderAgain_5 (q_ne dr_2.1 (by decide)) (q_e2 dr_2.1) rfl rfl rfl ?_
  refine q_if_eq hx 22 dX9_borderAgain_8 (by decide) (fun hc1 => ?_) (fun hc1 => ?_)
  · replace h := (if_pos hc1).symm.trans h
    cases h
    exact q_throwS hx hE hR6 (by decide) hfl q_th_X9_106_121_110 1 (by decide) rfl (by decide) dX9_borderAgain_22 dX9_borderAgain_25 dX9_borderAgain_26 dX9_borderAgain_28 dX9_borderAgain_31
  · replace h := (if_neg hc1).symm.trans h
    refine q_aload_n hx dX9_borderAgain_11 0 rfl ?_
    refine q_get (v := .ref (G.2.1 + 2)) hx q_fl_X9_20 dX9_borderAgain_12 (q_ne kd_0 (by decide)) (q_e9 kd_0) rfl ?_
    refine q_iload_n hx dX9_borderAgain_15 2 rfl ?_
    refine q_callVi (As := [.int a2]) (rest := []) hx q_kR0 (c_X2_hasSleeper (q_Xl X) G x σ 2 a2 dr_2) q_ml_X9_144 q_mn_X2_hasSleeper q_mi_X2_hasSleeper q_se_X2_hasSleeper (by decide) rfl (Nat.le_of_ble_eq_true rfl) dX9_borderAgain_16 (q_ne dr_2.1 (by decide)) (q_e2 dr_2.1) rfl rfl rfl ?_
    refine q_if_ne hx 32 dX9_borderAgain_19 (by decide) (fun hc2 => ?_) (fun hc2 => ?_)
    · replace h := (if_neg hc2).symm.trans h
      refine q_aload_n hx dX9_borderAgain_32 0 rfl ?_
      refine q_get (v := .ref (G.2.1 + 280)) hx q_fl_X9_50 dX9_borderAgain_33 (q_ne kd_0 (by decide)) (q_e9 kd_0) rfl ?_
      refine q_aload_n hx dX9_borderAgain_36 0 rfl ?_
      refine q_get (v := .ref (G.2.1 + 2)) hx q_fl_X9_20 dX9_borderAgain_37 (q_ne kd_0 (by decide)) (q_e9 kd_0) rfl ?_
      refine q_iconst (v := 0) hx dX9_borderAgain_40 (by decide) ?_
      refine q_bindE h (fun q3 hq3 h => ?_)
      refine q_callVv (As := [.ref (G.2.1 + 2), .int 0]) (rest := []) hx q_kR0 (c_X0_survey (q_Xl X) G x σ 2 0 dr_2 hq3) q_ml_X9_176 q_mn_X0_survey q_mi_X0_survey q_se_X0_survey (by decide) rfl (Nat.le_of_ble_eq_true rfl) dX9_borderAgain_41 (q_ne kd_280 (by decide)) (q_e0 kd_280) rfl rfl rfl ?_
      refine q_aload_n hx dX9_borderAgain_44 0 rfl ?_
      refine q_get (v := .ref (G.2.1 + 280)) hx q_fl_X9_50 dX9_borderAgain_45 (q_ne kd_0 (by decide)) (q_e9 kd_0) rfl ?_
      refine q_iload_n hx dX9_borderAgain_48 1 rfl ?_
      refine q_iload_n hx dX9_borderAgain_49 2 rfl ?_
      refine q_bindE h (fun q4 hq4 h => ?_)
      refine q_callVi (As := [.int a1, .int a2]) (rest := []) hx q_kR0 (c_X0_borderAround (q_Xl X) G x q3 a1 a2 hq4) q_ml_X9_256 q_mn_X0_borderAround q_mi_X0_borderAround q_se_X0_borderAround (by decide) rfl (Nat.le_of_ble_eq_true rfl) dX9_borderAgain_50 (q_ne kd_280 (by decide)) (q_e0 kd_280) rfl rfl rfl ?_
      cases h
      exact q_iretX hx hr dX9_borderAgain_53
    · replace h := (if_pos hc2).symm.trans h
      cases h
      exact q_throwS hx hE hR6 (by decide) hfl q_th_X9_106_121_110 1 (by decide) rfl (by decide) dX9_borderAgain_22 dX9_borderAgain_25 dX9_borderAgain_26 dX9_borderAgain_28 dX9_borderAgain_31
-- X9_fence
def f_X9_fence (σ : q_S) (a1 : Int32) : Option (Nat × Int32 × q_S) :=
  if ((f_X2_hasSleeper σ 2 a1)) = 0 then (some ((1, 0, σ))) else (Option.bind (f_X0_survey σ 2 0) (fun q2 => Option.bind (f_X0_openSides q2 a1) (fun q3 => some ((0, q3, q2)))))
set_option maxHeartbeats 4000000 in
set_option maxRecDepth 100000 in
theorem c_X9_fence (l : Launch) (G : q_G) (x : q_A) (σ : q_S) (a1 : Int32)  {res : Nat × Int32 × q_S} (h : f_X9_fence σ a1 = some res) (hfl : l.stackTraces = false) : q_MetX l yX9_fence cX9_fence 2 (some .int) 7 G [.ref (G.2.1 + 0), .int a1] σ x (q_QiX G x res.1 res.2.1 res.2.2) res.1 res.2.2 := by
  refine q_ofX (by decide) (Nat.le_of_ble_eq_true rfl) (fun X hl0 hx hr hE hR6 => ?_)
  subst hl0
  have hx : q_Cx X G RX9 cX9_fence 2 7 := hx
  unfold f_X9_fence at h
  show q_Wq X G x 2 (q_MQX X G x (q_QiX G x res.1 res.2.1 res.2.2) res.1 res.2.2) 0 0 0 [(0, .ref (G.2.1 + 0)), (1, .int a1)] [] σ
  refine q_aload_n hx dX9_fence_0 0 rfl ?_
  refine q_get (v := .ref (G.2.1 + 2)) hx q_fl_X9_20 dX9_fence_1 (q_ne kd_0 (by decide)) (q_e9 kd_0) rfl ?_
  refine q_iload_n hx dX9_fence_4 1 rfl ?_
  refine q_callVi (As := [.int a1]) (rest := []) hx q_kR0 (c_X2_hasSleeper (q_Xl X) G x σ 2 a1 dr_2) q_ml_X9_144 q_mn_X2_hasSleeper q_mi_X2_hasSleeper q_se_X2_hasSleeper (by decide) rfl (Nat.le_of_ble_eq_true rfl) dX9_fence_5 (q_ne dr_2.1 (by decide)) (q_e2 dr_2.1) rfl rfl rfl ?_
  refine q_if_ne hx 21 dX9_fence_8 (by decide) (fun hc1 => ?_) (fun hc1 => ?_)
  · replace h := (if_neg hc1).symm.trans h
    refine q_aload_n hx dX9_fence_21 0 rfl ?_
    refine q_get (v := .ref (G.2.1 + 280)) hx q_fl_X9_50 dX9_fence_22 (q_ne kd_0 (by decide)) (q_e9 kd_0) rfl ?_
    refine q_aload_n hx dX9_fence_25 0 rfl ?_
    refine q_get (v := .ref (G.2.1 + 2)) hx q_fl_X9_20 dX9_fence_26 (q_ne kd_0 (by decide)) (q_e9 kd_0) rfl ?_
    refine q_iconst (v := 0) hx dX9_fence_29 (by decide) ?_
    refine q_bindE h (fun q2 hq2 h => ?_)
    refine q_callVv (As := [.ref (G.2.1 + 2), .int 0]) (rest := []) hx q_kR0 (c_X0_survey (q_Xl X) G x σ 2 0 dr_2 hq2) q_ml_X9_176 q_mn_X0_survey q_mi_X0_survey q_se_X0_survey (by decide) rfl (Nat.le_of_ble_eq_true rfl) dX9_fence_30 (q_ne kd_280 (by decide)) (q_e0 kd_280) rfl rfl rfl ?_
    refine q_aload_n hx dX9_fence_33 0 rfl ?_
    refine q_get (v := .ref (G.2.1 + 280)) hx q_fl_X9_50 dX9_fence_34 (q_ne kd_0 (by decide)) (q_e9 kd_0) rfl ?_
    refine q_iload_n hx dX9_fence_37 1 rfl ?_
    refine q_bindE h (fun q3 hq3 h => ?_)
    refine q_callVi (As := [.int a1]) (rest := []) hx q_kR0 (c_X0_openSides (q_Xl X) G x q2 a1 hq3) q_ml_X9_259 q_mn_X0_openSides q_mi_X0_openSides q_se_X0_openSides (by decide) rfl (Nat.le_of_ble_eq_true rfl) dX9_fence_38 (q_ne kd_280 (by decide)) (q_e0 kd_280) rfl rfl rfl ?_
    cases h
    exact q_iretX hx hr dX9_fence_41
  · replace h := (if_pos hc1).symm.trans h
    cases h
    exact q_throwS hx hE hR6 (by decide) hfl q_th_X9_106_121_110 1 (by decide) rfl (by decide) dX9_fence_11 dX9_fence_14 dX9_fence_15 dX9_fence_17 dX9_fence_20
-- X9_closes
def f_X9_closes (σ : q_S) (a1 : Int32) : Nat × Int32 :=
  if ((f_X2_hasSleeper σ 2 a1)) = 0 then ((1, 0)) else (if (σ (f_X2_plotOf 2 a1) 0) = 0 then ((4, 0)) else ((0, ((f_X9_chainsFor ((σ (f_X2_plotOf 2 a1) 4) - (σ (f_X2_plotOf 2 a1) 2)))) + ((f_X9_chainsFor ((σ (f_X2_plotOf 2 a1) 5) - (σ (f_X2_plotOf 2 a1) 3)))))))
set_option maxHeartbeats 4000000 in
set_option maxRecDepth 100000 in
theorem ca_X9_closes (l : Launch) (G : q_G) (x : q_A) (σ : q_S) (a1 : Int32)  {res : Nat × Int32} (h : f_X9_closes σ a1 = res) (hfl : l.stackTraces = false) : q_MetX l yX9_closes cX9_closes 3 (some .int) 7 G [.ref (G.2.1 + 0), .int a1] σ x (q_QiX G x res.1 res.2 σ) res.1 σ := by
  refine q_ofX (by decide) (Nat.le_of_ble_eq_true rfl) (fun X hl0 hx hr hE hR6 => ?_)
  subst hl0
  have hx : q_Cx X G RX9 cX9_closes 3 7 := hx
  unfold f_X9_closes at h
  show q_Wq X G x 3 (q_MQX X G x (q_QiX G x res.1 res.2 σ) res.1 σ) 0 0 0 [(0, .ref (G.2.1 + 0)), (1, .int a1)] [] σ
  refine q_aload_n hx dX9_closes_0 0 rfl ?_
  refine q_get (v := .ref (G.2.1 + 2)) hx q_fl_X9_20 dX9_closes_1 (q_ne kd_0 (by decide)) (q_e9 kd_0) rfl ?_
  refine q_iload_n hx dX9_closes_4 1 rfl ?_
  refine q_callVi (As := [.int a1]) (rest := []) hx q_kR0 (c_X2_hasSleeper (q_Xl X) G x σ 2 a1 dr_2) q_ml_X9_144 q_mn_X2_hasSleeper q_mi_X2_hasSleeper q_se_X2_hasSleeper (by decide) rfl (Nat.le_of_ble_eq_true rfl) dX9_closes_5 (q_ne dr_2.1 (by decide)) (q_e2 dr_2.1) rfl rfl rfl ?_
  refine q_if_ne hx 21 dX9_closes_8 (by decide) (fun hc1 => ?_) (fun hc1 => ?_)
  · replace h := (if_neg hc1).symm.trans h
    refine q_aload_n hx dX9_closes_21 0 rfl ?_
    refine q_get (v := .ref (G.2.1 + 2)) hx q_fl_X9_20 dX9_closes_22 (q_ne kd_0 (by decide)) (q_e9 kd_0) rfl ?_
    refine q_iload_n hx dX9_closes_25 1 rfl ?_
    refine q_callVr (As := [.int a1]) (rest := []) hx q_kR0 (c_X2_plotOf (q_Xl X) G x σ 2 a1 dr_2) q_ml_X9_148 q_mn_X2_plotOf q_mi_X2_plotOf q_se_X2_plotOf (by decide) rfl (Nat.le_of_ble_eq_true rfl) dX9_closes_26 (q_ne dr_2.1 (by decide)) (q_e2 dr_2.1) rfl rfl rfl ?_
    refine q_astore_n hx [(2, .ref (G.2.1 + (f_X2_plotOf 2 a1))), (0, .ref (G.2.1 + 0)), (1, .int a1)] dX9_closes_29 (by decide) rfl ?_
    refine q_aload_n hx dX9_closes_30 0 rfl ?_
    refine q_get (v := .int (σ (f_X2_plotOf 2 a1) 0)) hx q_fl_X9_160 dX9_closes_31 (q_ne (q_plotOf_ok dr_2 a1).1 (by decide)) (q_e6 (q_plotOf_ok dr_2 a1).1) rfl ?_
    refine q_if_ne hx 48 dX9_closes_34 (by decide) (fun hc2 => ?_) (fun hc2 => ?_)
    · replace h := (if_neg hc2).symm.trans h
      refine q_aload_n hx dX9_closes_48 0 rfl ?_
      refine q_get (v := .int (σ (f_X2_plotOf 2 a1) 4)) hx q_fl_X9_166 dX9_closes_49 (q_ne (q_plotOf_ok dr_2 a1).1 (by decide)) (q_e6 (q_plotOf_ok dr_2 a1).1) rfl ?_
      refine q_aload_n hx dX9_closes_52 0 rfl ?_
      refine q_get (v := .int (σ (f_X2_plotOf 2 a1) 2)) hx q_fl_X9_267 dX9_closes_53 (q_ne (q_plotOf_ok dr_2 a1).1 (by decide)) (q_e6 (q_plotOf_ok dr_2 a1).1) rfl ?_
      refine q_isub hx dX9_closes_56 ?_
      refine q_callSi (As := [.int ((σ (f_X2_plotOf 2 a1) 4) - (σ (f_X2_plotOf 2 a1) 2))]) (rest := []) hx q_kR0 (c_X9_chainsFor (q_Xl X) G x σ ((σ (f_X2_plotOf 2 a1) 4) - (σ (f_X2_plotOf 2 a1) 2))) q_ml_X9_270 q_mn_X9_chainsFor q_ms_X9_chainsFor (by decide) rfl (Nat.le_of_ble_eq_true rfl) dX9_closes_57 rfl ?_
      refine q_aload_n hx dX9_closes_60 0 rfl ?_
      refine q_get (v := .int (σ (f_X2_plotOf 2 a1) 5)) hx q_fl_X9_169 dX9_closes_61 (q_ne (q_plotOf_ok dr_2 a1).1 (by decide)) (q_e6 (q_plotOf_ok dr_2 a1).1) rfl ?_
      refine q_aload_n hx dX9_closes_64 0 rfl ?_
      refine q_get (v := .int (σ (f_X2_plotOf 2 a1) 3)) hx q_fl_X9_273 dX9_closes_65 (q_ne (q_plotOf_ok dr_2 a1).1 (by decide)) (q_e6 (q_plotOf_ok dr_2 a1).1) rfl ?_
      refine q_isub hx dX9_closes_68 ?_
      refine q_callSi (As := [.int ((σ (f_X2_plotOf 2 a1) 5) - (σ (f_X2_plotOf 2 a1) 3))]) (rest := [.int ((f_X9_chainsFor ((σ (f_X2_plotOf 2 a1) 4) - (σ (f_X2_plotOf 2 a1) 2))))]) hx q_kR0 (c_X9_chainsFor (q_Xl X) G x σ ((σ (f_X2_plotOf 2 a1) 5) - (σ (f_X2_plotOf 2 a1) 3))) q_ml_X9_270 q_mn_X9_chainsFor q_ms_X9_chainsFor (by decide) rfl (Nat.le_of_ble_eq_true rfl) dX9_closes_69 rfl ?_
      refine q_iadd hx dX9_closes_72 ?_
      subst h
      exact q_iretX hx hr dX9_closes_73
    · replace h := (if_pos hc2).symm.trans h
      subst h
      exact q_thrownSW hx hE hR6 (by decide) hfl q_th_X9_262_264_266 4 (by decide) rfl (by decide) dX9_closes_37 dX9_closes_40 dX9_closes_41 dX9_closes_44 dX9_closes_47
  · replace h := (if_pos hc1).symm.trans h
    subst h
    exact q_throwS hx hE hR6 (by decide) hfl q_th_X9_106_121_110 1 (by decide) rfl (by decide) dX9_closes_11 dX9_closes_14 dX9_closes_15 dX9_closes_17 dX9_closes_20
theorem c_X9_closes (l : Launch) (G : q_G) (x : q_A) (σ : q_S) (a1 : Int32)  (hfl : l.stackTraces = false) : q_MetX l yX9_closes cX9_closes 3 (some .int) 7 G [.ref (G.2.1 + 0), .int a1] σ x (q_QiX G x (f_X9_closes σ a1).1 (f_X9_closes σ a1).2 σ) (f_X9_closes σ a1).1 σ := ca_X9_closes l G x σ a1 rfl hfl
-- X9_would
def f_X9_would (σ : q_S) (a1 : Int32) (a2 : Int32) : Option (Nat × Int32 × q_S) :=
  if ((f_X2_hasSleeper σ 2 a1)) = 0 then (some ((1, 0, σ))) else (if ((f_X9_isFrom a2 0 20)) = 0 then (some ((2, 0, σ))) else (Option.bind (f_X0_survey σ 2 a2) (fun q3 => some ((0, (f_X0_countOf q3 a1), q3)))))
set_option maxHeartbeats 4000000 in
set_option maxRecDepth 100000 in
theorem c_X9_would (l : Launch) (G : q_G) (x : q_A) (σ : q_S) (a1 : Int32) (a2 : Int32)  {res : Nat × Int32 × q_S} (h : f_X9_would σ a1 a2 = some res) (hfl : l.stackTraces = false) : q_MetX l yX9_would cX9_would 3 (some .int) 7 G [.ref (G.2.1 + 0), .int a1, .int a2] σ x (q_QiX G x res.1 res.2.1 res.2.2) res.1 res.2.2 := by
  refine q_ofX (by decide) (Nat.le_of_ble_eq_true rfl) (fun X hl0 hx hr hE hR6 => ?_)
  subst hl0
  have hx : q_Cx X G RX9 cX9_would 3 7 := hx
  unfold f_X9_would at h
  show q_Wq X G x 3 (q_MQX X G x (q_QiX G x res.1 res.2.1 res.2.2) res.1 res.2.2) 0 0 0 [(0, .ref (G.2.1 + 0)), (1, .int a1), (2, .int a2)] [] σ
  refine q_aload_n hx dX9_would_0 0 rfl ?_
  refine q_get (v := .ref (G.2.1 + 2)) hx q_fl_X9_20 dX9_would_1 (q_ne kd_0 (by decide)) (q_e9 kd_0) rfl ?_
  refine q_iload_n hx dX9_would_4 1 rfl ?_
  refine q_callVi (As := [.int a1]) (rest := []) hx q_kR0 (c_X2_hasSleeper (q_Xl X) G x σ 2 a1 dr_2) q_ml_X9_144 q_mn_X2_hasSleeper q_mi_X2_hasSleeper q_se_X2_hasSleeper (by decide) rfl (Nat.le_of_ble_eq_true rfl) dX9_would_5 (q_ne dr_2.1 (by decide)) (q_e2 dr_2.1) rfl rfl rfl ?_
  refine q_if_ne hx 21 dX9_would_8 (by decide) (fun hc1 => ?_) (fun hc1 => ?_)
  · replace h := (if_neg hc1).symm.trans h
    refine q_iload_n hx dX9_would_21 2 rfl ?_
    refine q_iconst (v := 0) hx dX9_would_22 (by decide) ?_
    refine q_bipush (v := 20) hx dX9_would_23 (by decide) ?_
    refine q_callSi (As := [.int a2, .int 0, .int 20]) (rest := []) hx q_kR0 (c_X9_isFrom (q_Xl X) G x σ a2 0 20) q_ml_X9_276 q_mn_X9_isFrom q_ms_X9_isFrom (by decide) rfl (Nat.le_of_ble_eq_true rfl) dX9_would_25 rfl ?_
    refine q_if_ne hx 41 dX9_would_28 (by decide) (fun hc2 => ?_) (fun hc2 => ?_)
    · replace h := (if_neg hc2).symm.trans h
      refine q_aload_n hx dX9_would_41 0 rfl ?_
      refine q_get (v := .ref (G.2.1 + 280)) hx q_fl_X9_50 dX9_would_42 (q_ne kd_0 (by decide)) (q_e9 kd_0) rfl ?_
      refine q_aload_n hx dX9_would_45 0 rfl ?_
      refine q_get (v := .ref (G.2.1 + 2)) hx q_fl_X9_20 dX9_would_46 (q_ne kd_0 (by decide)) (q_e9 kd_0) rfl ?_
      refine q_iload_n hx dX9_would_49 2 rfl ?_
      refine q_bindE h (fun q3 hq3 h => ?_)
      refine q_callVv (As := [.ref (G.2.1 + 2), .int a2]) (rest := []) hx q_kR0 (c_X0_survey (q_Xl X) G x σ 2 a2 dr_2 hq3) q_ml_X9_176 q_mn_X0_survey q_mi_X0_survey q_se_X0_survey (by decide) rfl (Nat.le_of_ble_eq_true rfl) dX9_would_50 (q_ne kd_280 (by decide)) (q_e0 kd_280) rfl rfl rfl ?_
      refine q_aload_n hx dX9_would_53 0 rfl ?_
      refine q_get (v := .ref (G.2.1 + 280)) hx q_fl_X9_50 dX9_would_54 (q_ne kd_0 (by decide)) (q_e9 kd_0) rfl ?_
      refine q_iload_n hx dX9_would_57 1 rfl ?_
      refine q_callVi (As := [.int a1]) (rest := []) hx q_kR0 (c_X0_countOf (q_Xl X) G x q3 a1) q_ml_X9_180 q_mn_X0_countOf q_mi_X0_countOf q_se_X0_countOf (by decide) rfl (Nat.le_of_ble_eq_true rfl) dX9_would_58 (q_ne kd_280 (by decide)) (q_e0 kd_280) rfl rfl rfl ?_
      cases h
      exact q_iretX hx hr dX9_would_61
    · replace h := (if_pos hc2).symm.trans h
      cases h
      exact q_throwS hx hE hR6 (by decide) hfl q_th_X9_87_142_91 2 (by decide) rfl (by decide) dX9_would_31 dX9_would_34 dX9_would_35 dX9_would_37 dX9_would_40
  · replace h := (if_pos hc1).symm.trans h
    cases h
    exact q_throwS hx hE hR6 (by decide) hfl q_th_X9_106_121_110 1 (by decide) rfl (by decide) dX9_would_11 dX9_would_14 dX9_would_15 dX9_would_17 dX9_would_20
-- X9_ranked
def f_X9_ranked_42 : Nat → Int32 → Int32 → Int32 → q_S → Option (Nat × Int32 × q_S)
  | 0, _, _, _, _ => none
  | n + 1, v1, v2, v3, σ =>
    if (σ 2 0) ≤ v3 then (some ((0, v2, σ))) else (Option.bind (f_X9_sleepersAheadOf σ v3) (fun q5 => if q5 = v1 then (f_X9_ranked_42 n v1 v3 (v3 + 1) σ) else (f_X9_ranked_42 n v1 v2 (v3 + 1) σ)))
set_option maxHeartbeats 4000000 in
set_option maxRecDepth 100000 in
theorem s_X9_ranked_42 {X : q_X} {G : q_G} {x : q_A} (hx : q_Cx X G RX9 cX9_ranked 4 7) (hr : (q_Xm X).sig.returnType = some .int) (hE : q_noE X) (hR6 : q_kR X 1 6) (hfl : (q_Xl X).stackTraces = false) {res : Nat × Int32 × q_S} : ∀ (n : Nat) (v1 : Int32) (v2 : Int32) (v3 : Int32) (σ : q_S), f_X9_ranked_42 n v1 v2 v3 σ = some res → q_Wq X G x 4 (q_MQX X G x (q_QiX G x res.1 res.2.1 res.2.2) res.1 res.2.2) 0 0 42 [(0, .ref (G.2.1 + 0)), (1, .int v1), (2, .int v2), (3, .int v3)] [] σ := by
  intro n
  induction n with
  | zero => exact fun _ _ _ _ h => nomatch (show (none : Option (Nat × Int32 × q_S)) = some res from h)
  | succ n ih =>
    intro v1 v2 v3 σ h
    rw [f_X9_ranked_42] at h
    refine q_iload_n hx dX9_ranked_42 3 rfl ?_
    refine q_aload_n hx dX9_ranked_43 0 rfl ?_
    refine q_get (v := .ref (G.2.1 + 2)) hx q_fl_X9_20 dX9_ranked_44 (q_ne kd_0 (by decide)) (q_e9 kd_0) rfl ?_
    refine q_get (v := .int (σ 2 0)) hx q_fl_X9_280 dX9_ranked_47 (q_ne dr_2.1 (by decide)) (q_e2 dr_2.1) rfl ?_
    refine q_icmp_ge hx 70 dX9_ranked_50 (by decide) (fun hc4 => ?_) (fun hc4 => ?_)
    · replace h := (if_pos hc4).symm.trans h
      refine q_iload_n hx dX9_ranked_70 2 rfl ?_
      cases h
      exact q_iretX hx hr dX9_ranked_71
    · replace h := (if_neg hc4).symm.trans h
      refine q_aload_n hx dX9_ranked_53 0 rfl ?_
      refine q_iload_n hx dX9_ranked_54 3 rfl ?_
      refine q_bindE h (fun q5 hq5 h => ?_)
      refine q_callVi (As := [.int v3]) (rest := []) hx q_kR0 (c_X9_sleepersAheadOf (q_Xl X) G x σ v3 hq5) q_ml_X9_285 q_mn_X9_sleepersAheadOf q_mi_X9_sleepersAheadOf q_se_X9_sleepersAheadOf (by decide) rfl (Nat.le_of_ble_eq_true rfl) dX9_ranked_55 (q_ne kd_0 (by decide)) (q_e9 kd_0) rfl rfl rfl ?_
      refine q_iload_n hx dX9_ranked_58 1 rfl ?_
      refine q_icmp_ne hx 64 dX9_ranked_59 (by decide) (fun hc6 => ?_) (fun hc6 => ?_)
      · replace h := (if_neg hc6).symm.trans h
        refine q_iinc hx [(3, .int (v3 + 1)), (0, .ref (G.2.1 + 0)), (1, .int v1), (2, .int v2)] dX9_ranked_64 3 rfl rfl (by decide) rfl ?_
        refine q_goto hx 42 dX9_ranked_67 (by decide) ?_
        refine q_sub [1, 2, 3, 0] rfl ?_
        exact ih v1 v2 (v3 + 1) σ h
      · replace h := (if_pos hc6).symm.trans h
        refine q_iload_n hx dX9_ranked_62 3 rfl ?_
        refine q_istore_n hx [(2, .int v3), (0, .ref (G.2.1 + 0)), (1, .int v1), (3, .int v3)] dX9_ranked_63 (by decide) rfl ?_
        refine q_iinc hx [(3, .int (v3 + 1)), (2, .int v3), (0, .ref (G.2.1 + 0)), (1, .int v1)] dX9_ranked_64 3 rfl rfl (by decide) rfl ?_
        refine q_goto hx 42 dX9_ranked_67 (by decide) ?_
        refine q_sub [2, 3, 1, 0] rfl ?_
        exact ih v1 v3 (v3 + 1) σ h
def f_X9_ranked (σ : q_S) (a1 : Int32) : Option (Nat × Int32 × q_S) :=
  if a1 < 0 then (some ((4, 0, σ))) else (if a1 < (σ 2 0) then (Option.bind (f_X0_survey σ 2 0) (fun q3 => f_X9_ranked_42 q_fu a1 0 0 q3)) else (some ((4, 0, σ))))
set_option maxHeartbeats 4000000 in
set_option maxRecDepth 100000 in
theorem c_X9_ranked (l : Launch) (G : q_G) (x : q_A) (σ : q_S) (a1 : Int32)  {res : Nat × Int32 × q_S} (h : f_X9_ranked σ a1 = some res) (hfl : l.stackTraces = false) : q_MetX l yX9_ranked cX9_ranked 4 (some .int) 7 G [.ref (G.2.1 + 0), .int a1] σ x (q_QiX G x res.1 res.2.1 res.2.2) res.1 res.2.2 := by
  refine q_ofX (by decide) (Nat.le_of_ble_eq_true rfl) (fun X hl0 hx hr hE hR6 => ?_)
  subst hl0
  have hx : q_Cx X G RX9 cX9_ranked 4 7 := hx
  unfold f_X9_ranked at h
  show q_Wq X G x 4 (q_MQX X G x (q_QiX G x res.1 res.2.1 res.2.2) res.1 res.2.2) 0 0 0 [(0, .ref (G.2.1 + 0)), (1, .int a1)] [] σ
  refine q_iload_n hx dX9_ranked_0 1 rfl ?_
  refine q_if_lt hx 15 dX9_ranked_1 (by decide) (fun hc1 => ?_) (fun hc1 => ?_)
  · replace h := (if_pos hc1).symm.trans h
    cases h
    exact q_thrownSW hx hE hR6 (by decide) hfl q_th_X9_262_283_266 4 (by decide) rfl (by decide) dX9_ranked_15 dX9_ranked_18 dX9_ranked_19 dX9_ranked_22 dX9_ranked_25
  · replace h := (if_neg hc1).symm.trans h
    refine q_iload_n hx dX9_ranked_4 1 rfl ?_
    refine q_aload_n hx dX9_ranked_5 0 rfl ?_
    refine q_get (v := .ref (G.2.1 + 2)) hx q_fl_X9_20 dX9_ranked_6 (q_ne kd_0 (by decide)) (q_e9 kd_0) rfl ?_
    refine q_get (v := .int (σ 2 0)) hx q_fl_X9_280 dX9_ranked_9 (q_ne dr_2.1 (by decide)) (q_e2 dr_2.1) rfl ?_
    refine q_icmp_lt hx 26 dX9_ranked_12 (by decide) (fun hc2 => ?_) (fun hc2 => ?_)
    · replace h := (if_pos hc2).symm.trans h
      refine q_aload_n hx dX9_ranked_26 0 rfl ?_
      refine q_get (v := .ref (G.2.1 + 280)) hx q_fl_X9_50 dX9_ranked_27 (q_ne kd_0 (by decide)) (q_e9 kd_0) rfl ?_
      refine q_aload_n hx dX9_ranked_30 0 rfl ?_
      refine q_get (v := .ref (G.2.1 + 2)) hx q_fl_X9_20 dX9_ranked_31 (q_ne kd_0 (by decide)) (q_e9 kd_0) rfl ?_
      refine q_iconst (v := 0) hx dX9_ranked_34 (by decide) ?_
      refine q_bindE h (fun q3 hq3 h => ?_)
      refine q_callVv (As := [.ref (G.2.1 + 2), .int 0]) (rest := []) hx q_kR0 (c_X0_survey (q_Xl X) G x σ 2 0 dr_2 hq3) q_ml_X9_176 q_mn_X0_survey q_mi_X0_survey q_se_X0_survey (by decide) rfl (Nat.le_of_ble_eq_true rfl) dX9_ranked_35 (q_ne kd_280 (by decide)) (q_e0 kd_280) rfl rfl rfl ?_
      refine q_iconst (v := 0) hx dX9_ranked_38 (by decide) ?_
      refine q_istore_n hx [(2, .int 0), (0, .ref (G.2.1 + 0)), (1, .int a1)] dX9_ranked_39 (by decide) rfl ?_
      refine q_iconst (v := 0) hx dX9_ranked_40 (by decide) ?_
      refine q_istore_n hx [(3, .int 0), (2, .int 0), (0, .ref (G.2.1 + 0)), (1, .int a1)] dX9_ranked_41 (by decide) rfl ?_
      refine q_sub [2, 3, 1, 0] rfl ?_
      exact s_X9_ranked_42 hx hr hE hR6 hfl q_fu a1 0 0 q3 h
    · replace h := (if_neg hc2).symm.trans h
      cases h
      exact q_thrownSW hx hE hR6 (by decide) hfl q_th_X9_262_283_266 4 (by decide) rfl (by decide) dX9_ranked_15 dX9_ranked_18 dX9_ranked_19 dX9_ranked_22 dX9_ranked_25
-- X9_nextLit
def f_X9_nextLit (σ : q_S) : Option (Nat × Int32) :=
  if (σ 8 0) = 0 then (some ((4, 0))) else (Option.bind (f_X5_hoursUntilAnyLit σ 8 (σ 2 5)) (fun q2 => some ((0, (σ 2 5) + q2))))
set_option maxHeartbeats 4000000 in
set_option maxRecDepth 100000 in
theorem c_X9_nextLit (l : Launch) (G : q_G) (x : q_A) (σ : q_S)   {res : Nat × Int32} (h : f_X9_nextLit σ = some res) (hfl : l.stackTraces = false) : q_MetX l yX9_nextLit cX9_nextLit 1 (some .int) 7 G [.ref (G.2.1 + 0)] σ x (q_QiX G x res.1 res.2 σ) res.1 σ := by
  refine q_ofX (by decide) (Nat.le_of_ble_eq_true rfl) (fun X hl0 hx hr hE hR6 => ?_)
  subst hl0
  have hx : q_Cx X G RX9 cX9_nextLit 1 7 := hx
  unfold f_X9_nextLit at h
  show q_Wq X G x 1 (q_MQX X G x (q_QiX G x res.1 res.2 σ) res.1 σ) 0 0 0 [(0, .ref (G.2.1 + 0))] [] σ
  refine q_aload_n hx dX9_nextLit_0 0 rfl ?_
  refine q_get (v := .ref (G.2.1 + 2)) hx q_fl_X9_20 dX9_nextLit_1 (q_ne kd_0 (by decide)) (q_e9 kd_0) rfl ?_
  refine q_get (v := .ref (G.2.1 + 8)) hx q_fl_X9_202 dX9_nextLit_4 (q_ne dr_2.1 (by decide)) (q_e2 dr_2.1) rfl ?_
  refine q_get (v := .int (σ 8 0)) hx q_fl_X9_206 dX9_nextLit_7 (q_ne pg_8.1 (by decide)) (q_e5 pg_8.1) rfl ?_
  refine q_if_ne hx 24 dX9_nextLit_10 (by decide) (fun hc1 => ?_) (fun hc1 => ?_)
  · replace h := (if_neg hc1).symm.trans h
    refine q_aload_n hx dX9_nextLit_24 0 rfl ?_
    refine q_get (v := .ref (G.2.1 + 2)) hx q_fl_X9_20 dX9_nextLit_25 (q_ne kd_0 (by decide)) (q_e9 kd_0) rfl ?_
    refine q_get (v := .int (σ 2 5)) hx q_fl_X9_227 dX9_nextLit_28 (q_ne dr_2.1 (by decide)) (q_e2 dr_2.1) rfl ?_
    refine q_aload_n hx dX9_nextLit_31 0 rfl ?_
    refine q_get (v := .ref (G.2.1 + 2)) hx q_fl_X9_20 dX9_nextLit_32 (q_ne kd_0 (by decide)) (q_e9 kd_0) rfl ?_
    refine q_get (v := .ref (G.2.1 + 8)) hx q_fl_X9_202 dX9_nextLit_35 (q_ne dr_2.1 (by decide)) (q_e2 dr_2.1) rfl ?_
    refine q_aload_n hx dX9_nextLit_38 0 rfl ?_
    refine q_get (v := .ref (G.2.1 + 2)) hx q_fl_X9_20 dX9_nextLit_39 (q_ne kd_0 (by decide)) (q_e9 kd_0) rfl ?_
    refine q_get (v := .int (σ 2 5)) hx q_fl_X9_227 dX9_nextLit_42 (q_ne dr_2.1 (by decide)) (q_e2 dr_2.1) rfl ?_
    refine q_bindE h (fun q2 hq2 h => ?_)
    refine q_callVi (As := [.int (σ 2 5)]) (rest := [.int (σ 2 5)]) hx q_kR0 (c_X5_hoursUntilAnyLit (q_Xl X) G x σ 8 (σ 2 5) pg_8 hq2) q_ml_X9_290 q_mn_X5_hoursUntilAnyLit q_mi_X5_hoursUntilAnyLit q_se_X5_hoursUntilAnyLit (by decide) rfl (Nat.le_of_ble_eq_true rfl) dX9_nextLit_45 (q_ne pg_8.1 (by decide)) (q_e5 pg_8.1) rfl rfl rfl ?_
    refine q_iadd hx dX9_nextLit_48 ?_
    cases h
    exact q_iretX hx hr dX9_nextLit_49
  · replace h := (if_pos hc1).symm.trans h
    cases h
    exact q_thrownSW hx hE hR6 (by decide) hfl q_th_X9_262_288_266 4 (by decide) rfl (by decide) dX9_nextLit_13 dX9_nextLit_16 dX9_nextLit_17 dX9_nextLit_20 dX9_nextLit_23
-- X9_type
def f_X9_type (σ : q_S) (a1 : Int32) : Option (Nat × Int32 × q_S) :=
  if (σ 0 8) < 0 then (some ((5, 0, σ))) else (if (σ 0 8) < 60 then (if ((σ 0 8) < 0 ∨ 60 ≤ (σ 0 8).toNatClampNeg) then none else some ((0, (q_up (q_up σ 283 (σ 0 8).toNatClampNeg (vp_nar .char a1)) 0 8 (((q_up σ 283 (σ 0 8).toNatClampNeg (vp_nar .char a1)) 0 8) + 1)) 0 8, q_up (q_up σ 283 (σ 0 8).toNatClampNeg (vp_nar .char a1)) 0 8 (((q_up σ 283 (σ 0 8).toNatClampNeg (vp_nar .char a1)) 0 8) + 1)))) else (some ((5, 0, σ))))
set_option maxHeartbeats 4000000 in
set_option maxRecDepth 100000 in
theorem c_X9_type (l : Launch) (G : q_G) (x : q_A) (σ : q_S) (a1 : Int32)  {res : Nat × Int32 × q_S} (h : f_X9_type σ a1 = some res) (hfl : l.stackTraces = false) : q_MetX l yX9_type cX9_type 2 (some .int) 7 G [.ref (G.2.1 + 0), .int a1] σ x (q_QiX G x res.1 res.2.1 res.2.2) res.1 res.2.2 := by
  refine q_ofX (by decide) (Nat.le_of_ble_eq_true rfl) (fun X hl0 hx hr hE hR6 => ?_)
  subst hl0
  have hx : q_Cx X G RX9 cX9_type 2 7 := hx
  unfold f_X9_type at h
  show q_Wq X G x 2 (q_MQX X G x (q_QiX G x res.1 res.2.1 res.2.2) res.1 res.2.2) 0 0 0 [(0, .ref (G.2.1 + 0)), (1, .int a1)] [] σ
  refine q_aload_n hx dX9_type_0 0 rfl ?_
  refine q_get (v := .int (σ 0 8)) hx q_fl_X9_58 dX9_type_1 (q_ne kd_0 (by decide)) (q_e9 kd_0) rfl ?_
  refine q_if_lt hx 19 dX9_type_4 (by decide) (fun hc1 => ?_) (fun hc1 => ?_)
  · replace h := (if_pos hc1).symm.trans h
    cases h
    exact q_throwSW hx hE hR6 (by decide) hfl q_th_X9_303_305_307 5 (by decide) rfl (by decide) dX9_type_19 dX9_type_22 dX9_type_23 dX9_type_26 dX9_type_29
  · replace h := (if_neg hc1).symm.trans h
    refine q_aload_n hx dX9_type_7 0 rfl ?_
    refine q_get (v := .int (σ 0 8)) hx q_fl_X9_58 dX9_type_8 (q_ne kd_0 (by decide)) (q_e9 kd_0) rfl ?_
    refine q_aload_n hx dX9_type_11 0 rfl ?_
    refine q_get (v := .ref (G.2.1 + 283)) hx q_fl_X9_54 dX9_type_12 (q_ne kd_0 (by decide)) (q_e9 kd_0) rfl ?_
    refine q_alen1 (N := 60) (v := 60) hx dX9_type_15 kd_283 (by decide) (by decide) ?_
    refine q_icmp_lt hx 30 dX9_type_16 (by decide) (fun hc2 => ?_) (fun hc2 => ?_)
    · replace h := (if_pos hc2).symm.trans h
      refine q_aload_n hx dX9_type_30 0 rfl ?_
      refine q_get (v := .ref (G.2.1 + 283)) hx q_fl_X9_54 dX9_type_31 (q_ne kd_0 (by decide)) (q_e9 kd_0) rfl ?_
      refine q_aload_n hx dX9_type_34 0 rfl ?_
      refine q_get (v := .int (σ 0 8)) hx q_fl_X9_58 dX9_type_35 (q_ne kd_0 (by decide)) (q_e9 kd_0) rfl ?_
      refine q_iload_n hx dX9_type_38 1 rfl ?_
      by_cases hg3 : ((σ 0 8) < 0 ∨ 60 ≤ (σ 0 8).toNatClampNeg)
      · rw [if_pos hg3] at h; exact nomatch h
      replace h := (if_neg hg3).symm.trans h
      refine q_cast (N := 60) hx dX9_type_39 kd_283 (by first | decide | assumption) hg3 ?_
      refine q_aload_n hx dX9_type_40 0 rfl ?_
      refine q_dup hx dX9_type_41 rfl ?_
      refine q_get (v := .int ((q_up σ 283 (σ 0 8).toNatClampNeg (vp_nar .char a1)) 0 8)) hx q_fl_X9_58 dX9_type_42 (q_ne kd_0 (by decide)) (q_e9 kd_0) rfl ?_
      refine q_iconst (v := 1) hx dX9_type_45 (by decide) ?_
      refine q_iadd hx dX9_type_46 ?_
      refine q_put (v := ((q_up σ 283 (σ 0 8).toNatClampNeg (vp_nar .char a1)) 0 8) + 1) hx q_fl_X9_58 q_fp_9_8 dX9_type_47 (q_ne kd_0 (by decide)) (q_e9 kd_0) (by rw [q_l9]; decide) rfl rfl (by rw [q_e9 kd_0, q_s9_8]) ?_
      refine q_aload_n hx dX9_type_50 0 rfl ?_
      refine q_get (v := .int ((q_up (q_up σ 283 (σ 0 8).toNatClampNeg (vp_nar .char a1)) 0 8 (((q_up σ 283 (σ 0 8).toNatClampNeg (vp_nar .char a1)) 0 8) + 1)) 0 8)) hx q_fl_X9_58 dX9_type_51 (q_ne kd_0 (by decide)) (q_e9 kd_0) rfl ?_
      cases h
      exact q_iretX hx hr dX9_type_54
    · replace h := (if_neg hc2).symm.trans h
      cases h
      exact q_throwSW hx hE hR6 (by decide) hfl q_th_X9_303_305_307 5 (by decide) rfl (by decide) dX9_type_19 dX9_type_22 dX9_type_23 dX9_type_26 dX9_type_29
-- X9_errorPosition
def f_X9_errorPosition (σ : q_S) : Nat × Int32 :=
  if 0 ≤ (σ 0 10) then ((0, σ 0 10)) else ((4, 0))
set_option maxHeartbeats 4000000 in
set_option maxRecDepth 100000 in
theorem ca_X9_errorPosition (l : Launch) (G : q_G) (x : q_A) (σ : q_S)   {res : Nat × Int32} (h : f_X9_errorPosition σ = res) (hfl : l.stackTraces = false) : q_MetX l yX9_errorPosition cX9_errorPosition 1 (some .int) 7 G [.ref (G.2.1 + 0)] σ x (q_QiX G x res.1 res.2 σ) res.1 σ := by
  refine q_ofX (by decide) (Nat.le_of_ble_eq_true rfl) (fun X hl0 hx hr hE hR6 => ?_)
  subst hl0
  have hx : q_Cx X G RX9 cX9_errorPosition 1 7 := hx
  unfold f_X9_errorPosition at h
  show q_Wq X G x 1 (q_MQX X G x (q_QiX G x res.1 res.2 σ) res.1 σ) 0 0 0 [(0, .ref (G.2.1 + 0))] [] σ
  refine q_aload_n hx dX9_errorPosition_0 0 rfl ?_
  refine q_get (v := .int (σ 0 10)) hx q_fl_X9_69 dX9_errorPosition_1 (q_ne kd_0 (by decide)) (q_e9 kd_0) rfl ?_
  refine q_if_ge hx 18 dX9_errorPosition_4 (by decide) (fun hc1 => ?_) (fun hc1 => ?_)
  · replace h := (if_pos hc1).symm.trans h
    refine q_aload_n hx dX9_errorPosition_18 0 rfl ?_
    refine q_get (v := .int (σ 0 10)) hx q_fl_X9_69 dX9_errorPosition_19 (q_ne kd_0 (by decide)) (q_e9 kd_0) rfl ?_
    subst h
    exact q_iretX hx hr dX9_errorPosition_22
  · replace h := (if_neg hc1).symm.trans h
    subst h
    exact q_thrownSW hx hE hR6 (by decide) hfl q_th_X9_262_327_266 4 (by decide) rfl (by decide) dX9_errorPosition_7 dX9_errorPosition_10 dX9_errorPosition_11 dX9_errorPosition_14 dX9_errorPosition_17
theorem c_X9_errorPosition (l : Launch) (G : q_G) (x : q_A) (σ : q_S)   (hfl : l.stackTraces = false) : q_MetX l yX9_errorPosition cX9_errorPosition 1 (some .int) 7 G [.ref (G.2.1 + 0)] σ x (q_QiX G x (f_X9_errorPosition σ).1 (f_X9_errorPosition σ).2 σ) (f_X9_errorPosition σ).1 σ := ca_X9_errorPosition l G x σ  rfl hfl
-- X9_refusal
def f_X9_refusal_21 (σ : q_S) (v1 : Int32) (v2 : Int32) (s0 : Int32) : Nat × Int32 :=
  if s0 = 0 then ((4, 0)) else (if v2 = 0 then ((0, s0)) else (if v1 = 0 then ((0, σ 27 1)) else ((0, σ 27 3))))
set_option maxHeartbeats 4000000 in
set_option maxRecDepth 100000 in
theorem s_X9_refusal_21 {X : q_X} {G : q_G} {x : q_A} (σ : q_S) (hx : q_Cx X G RX9 cX9_refusal 4 7) (hr : (q_Xm X).sig.returnType = some .int) (hE : q_noE X) (hR6 : q_kR X 1 6) (hfl : (q_Xl X).stackTraces = false) {res : Nat × Int32} : ∀ (v1 : Int32) (v2 : Int32) (s0 : Int32), f_X9_refusal_21 σ v1 v2 s0 = res → q_Wq X G x 4 (q_MQX X G x (q_QiX G x res.1 res.2 σ) res.1 σ) 0 0 21 [(0, .ref (G.2.1 + 0)), (1, .int v1), (2, .int v2)] [.int s0] σ := by
  intro v1 v2 s0 h
  unfold f_X9_refusal_21 at h
  refine q_istore_n hx [(3, .int s0), (0, .ref (G.2.1 + 0)), (1, .int v1), (2, .int v2)] dX9_refusal_21 (by decide) rfl ?_
  refine q_iload_n hx dX9_refusal_22 0 rfl ?_
  refine q_if_ne hx 37 dX9_refusal_23 (by decide) (fun hc2 => ?_) (fun hc2 => ?_)
  · replace h := (if_neg hc2).symm.trans h
    refine q_iload_n hx dX9_refusal_37 3 rfl ?_
    refine q_if_ne hx 43 dX9_refusal_38 (by decide) (fun hc3 => ?_) (fun hc3 => ?_)
    · replace h := (if_neg hc3).symm.trans h
      refine q_iload_n hx dX9_refusal_43 2 rfl ?_
      refine q_if_eq hx 57 dX9_refusal_44 (by decide) (fun hc4 => ?_) (fun hc4 => ?_)
      · replace h := (if_pos hc4).symm.trans h
        refine q_aload_n hx dX9_refusal_57 1 rfl ?_
        refine q_get (v := .ref (G.2.1 + 27)) hx q_fl_X9_27 dX9_refusal_58 (q_ne kd_0 (by decide)) (q_e9 kd_0) rfl ?_
        refine q_get (v := .int (σ 27 1)) hx q_fl_X9_340 dX9_refusal_61 (q_ne kd_27 (by decide)) (q_e7 kd_27) rfl ?_
        subst h
        exact q_iretX hx hr dX9_refusal_64
      · replace h := (if_neg hc4).symm.trans h
        refine q_aload_n hx dX9_refusal_47 1 rfl ?_
        refine q_get (v := .ref (G.2.1 + 27)) hx q_fl_X9_27 dX9_refusal_48 (q_ne kd_0 (by decide)) (q_e9 kd_0) rfl ?_
        refine q_get (v := .int (σ 27 3)) hx q_fl_X9_337 dX9_refusal_51 (q_ne kd_27 (by decide)) (q_e7 kd_27) rfl ?_
        refine q_goto hx 64 dX9_refusal_54 (by decide) ?_
        subst h
        exact q_iretX hx hr dX9_refusal_64
    · replace h := (if_pos hc3).symm.trans h
      refine q_iload_n hx dX9_refusal_41 0 rfl ?_
      subst h
      exact q_iretX hx hr dX9_refusal_42
  · replace h := (if_pos hc2).symm.trans h
    subst h
    exact q_thrownSW hx hE hR6 (by decide) hfl q_th_X9_262_335_266 4 (by decide) rfl (by decide) dX9_refusal_26 dX9_refusal_29 dX9_refusal_30 dX9_refusal_33 dX9_refusal_36
def f_X9_refusal (σ : q_S) (a1 : Int32) (a2 : Int32) : Nat × Int32 :=
  if a1 = 0 then (f_X9_refusal_21 σ a1 a2 (σ 27 0)) else (f_X9_refusal_21 σ a1 a2 (σ 27 2))
set_option maxHeartbeats 4000000 in
set_option maxRecDepth 100000 in
theorem ca_X9_refusal (l : Launch) (G : q_G) (x : q_A) (σ : q_S) (a1 : Int32) (a2 : Int32)  {res : Nat × Int32} (h : f_X9_refusal σ a1 a2 = res) (hfl : l.stackTraces = false) : q_MetX l yX9_refusal cX9_refusal 4 (some .int) 7 G [.ref (G.2.1 + 0), .int a1, .int a2] σ x (q_QiX G x res.1 res.2 σ) res.1 σ := by
  refine q_ofX (by decide) (Nat.le_of_ble_eq_true rfl) (fun X hl0 hx hr hE hR6 => ?_)
  subst hl0
  have hx : q_Cx X G RX9 cX9_refusal 4 7 := hx
  unfold f_X9_refusal at h
  show q_Wq X G x 4 (q_MQX X G x (q_QiX G x res.1 res.2 σ) res.1 σ) 0 0 0 [(0, .ref (G.2.1 + 0)), (1, .int a1), (2, .int a2)] [] σ
  refine q_iload_n hx dX9_refusal_0 1 rfl ?_
  refine q_if_eq hx 14 dX9_refusal_1 (by decide) (fun hc1 => ?_) (fun hc1 => ?_)
  · replace h := (if_pos hc1).symm.trans h
    refine q_aload_n hx dX9_refusal_14 0 rfl ?_
    refine q_get (v := .ref (G.2.1 + 27)) hx q_fl_X9_27 dX9_refusal_15 (q_ne kd_0 (by decide)) (q_e9 kd_0) rfl ?_
    refine q_get (v := .int (σ 27 0)) hx q_fl_X9_332 dX9_refusal_18 (q_ne kd_27 (by decide)) (q_e7 kd_27) rfl ?_
    refine q_sub [0, 1, 2] rfl ?_
    exact s_X9_refusal_21 σ hx hr hE hR6 hfl a1 a2 (σ 27 0) h
  · replace h := (if_neg hc1).symm.trans h
    refine q_aload_n hx dX9_refusal_4 0 rfl ?_
    refine q_get (v := .ref (G.2.1 + 27)) hx q_fl_X9_27 dX9_refusal_5 (q_ne kd_0 (by decide)) (q_e9 kd_0) rfl ?_
    refine q_get (v := .int (σ 27 2)) hx q_fl_X9_329 dX9_refusal_8 (q_ne kd_27 (by decide)) (q_e7 kd_27) rfl ?_
    refine q_goto hx 21 dX9_refusal_11 (by decide) ?_
    refine q_sub [0, 1, 2] rfl ?_
    exact s_X9_refusal_21 σ hx hr hE hR6 hfl a1 a2 (σ 27 2) h
theorem c_X9_refusal (l : Launch) (G : q_G) (x : q_A) (σ : q_S) (a1 : Int32) (a2 : Int32)  (hfl : l.stackTraces = false) : q_MetX l yX9_refusal cX9_refusal 4 (some .int) 7 G [.ref (G.2.1 + 0), .int a1, .int a2] σ x (q_QiX G x (f_X9_refusal σ a1 a2).1 (f_X9_refusal σ a1 a2).2 σ) (f_X9_refusal σ a1 a2).1 σ := ca_X9_refusal l G x σ a1 a2 rfl hfl
-- X9_show
def f_X9_show_40 : Nat → Int32 → Int32 → q_S → Option (Nat × Int32 × q_S)
  | 0, _, _, _ => none
  | n + 1, v1, v2, σ =>
    if 12 ≤ v2 then (some ((0, σ 290 1, σ))) else (if ((f_X0_ownerAt σ v2 v1)) = ((-1)) then (Option.bind (f_X4_put σ 46) (fun q6 => f_X9_show_40 n v1 (v2 + 1) q6)) else (Option.bind (f_X4_putNumber σ ((f_X0_ownerAt σ v2 v1))) (fun q5 => f_X9_show_40 n v1 (v2 + 1) q5)))
set_option maxHeartbeats 4000000 in
set_option maxRecDepth 100000 in
theorem s_X9_show_40 {X : q_X} {G : q_G} {x : q_A} (hx : q_Cx X G RX9 cX9_show 4 7) (hr : (q_Xm X).sig.returnType = some .int) (hE : q_noE X) (hR6 : q_kR X 1 6) (hfl : (q_Xl X).stackTraces = false) {res : Nat × Int32 × q_S} : ∀ (n : Nat) (v1 : Int32) (v2 : Int32) (σ : q_S), f_X9_show_40 n v1 v2 σ = some res → q_Wq X G x 4 (q_MQX X G x (q_QiX G x res.1 res.2.1 res.2.2) res.1 res.2.2) 0 0 40 [(0, .ref (G.2.1 + 0)), (1, .int v1), (2, .int v2)] [] σ := by
  intro n
  induction n with
  | zero => exact fun _ _ _ h => nomatch (show (none : Option (Nat × Int32 × q_S)) = some res from h)
  | succ n ih =>
    intro v1 v2 σ h
    rw [f_X9_show_40] at h
    refine q_iload_n hx dX9_show_40 2 rfl ?_
    refine q_bipush (v := 12) hx dX9_show_41 (by decide) ?_
    refine q_icmp_ge hx 87 dX9_show_43 (by decide) (fun hc3 => ?_) (fun hc3 => ?_)
    · replace h := (if_pos hc3).symm.trans h
      refine q_aload_n hx dX9_show_87 0 rfl ?_
      refine q_get (v := .ref (G.2.1 + 290)) hx q_fl_X9_75 dX9_show_88 (q_ne kd_0 (by decide)) (q_e9 kd_0) rfl ?_
      refine q_get (v := .int (σ 290 1)) hx q_fl_X9_359 dX9_show_91 (q_ne kd_290 (by decide)) (q_e4 kd_290) rfl ?_
      cases h
      exact q_iretX hx hr dX9_show_94
    · replace h := (if_neg hc3).symm.trans h
      refine q_aload_n hx dX9_show_46 0 rfl ?_
      refine q_get (v := .ref (G.2.1 + 280)) hx q_fl_X9_50 dX9_show_47 (q_ne kd_0 (by decide)) (q_e9 kd_0) rfl ?_
      refine q_iload_n hx dX9_show_50 2 rfl ?_
      refine q_iload_n hx dX9_show_51 1 rfl ?_
      refine q_callVi (As := [.int v2, .int v1]) (rest := []) hx q_kR0 (c_X0_ownerAt (q_Xl X) G x σ v2 v1) q_ml_X9_348 q_mn_X0_ownerAt q_mi_X0_ownerAt q_se_X0_ownerAt (by decide) rfl (Nat.le_of_ble_eq_true rfl) dX9_show_52 (q_ne kd_280 (by decide)) (q_e0 kd_280) rfl rfl rfl ?_
      refine q_istore_n hx [(3, .int ((f_X0_ownerAt σ v2 v1))), (0, .ref (G.2.1 + 0)), (1, .int v1), (2, .int v2)] dX9_show_55 (by decide) rfl ?_
      refine q_iload_n hx dX9_show_56 0 rfl ?_
      refine q_iconst (v := (-1)) hx dX9_show_57 (by decide) ?_
      refine q_icmp_ne hx 73 dX9_show_58 (by decide) (fun hc4 => ?_) (fun hc4 => ?_)
      · replace h := (if_neg hc4).symm.trans h
        refine q_aload_n hx dX9_show_73 1 rfl ?_
        refine q_get (v := .ref (G.2.1 + 290)) hx q_fl_X9_75 dX9_show_74 (q_ne kd_0 (by decide)) (q_e9 kd_0) rfl ?_
        refine q_iload_n hx dX9_show_77 0 rfl ?_
        refine q_bindE h (fun q5 hq5 h => ?_)
        refine q_callVv (As := [.int ((f_X0_ownerAt σ v2 v1))]) (rest := []) hx q_kR0 (c_X4_putNumber (q_Xl X) G x σ ((f_X0_ownerAt σ v2 v1)) hq5) q_ml_X9_355 q_mn_X4_putNumber q_mi_X4_putNumber q_se_X4_putNumber (by decide) rfl (Nat.le_of_ble_eq_true rfl) dX9_show_78 (q_ne kd_290 (by decide)) (q_e4 kd_290) rfl rfl rfl ?_
        refine q_iinc hx [(2, .int (v2 + 1)), (3, .int ((f_X0_ownerAt σ v2 v1))), (0, .ref (G.2.1 + 0)), (1, .int v1)] dX9_show_81 3 rfl rfl (by decide) rfl ?_
        refine q_goto hx 40 dX9_show_84 (by decide) ?_
        refine q_sub [2, 3, 0] rfl ?_
        exact ih v1 (v2 + 1) q5 h
      · replace h := (if_pos hc4).symm.trans h
        refine q_aload_n hx dX9_show_61 1 rfl ?_
        refine q_get (v := .ref (G.2.1 + 290)) hx q_fl_X9_75 dX9_show_62 (q_ne kd_0 (by decide)) (q_e9 kd_0) rfl ?_
        refine q_bipush (v := 46) hx dX9_show_65 (by decide) ?_
        refine q_bindE h (fun q6 hq6 h => ?_)
        refine q_callVv (As := [.int 46]) (rest := []) hx q_kR0 (c_X4_put (q_Xl X) G x σ 46 hq6) q_ml_X9_351 q_mn_X4_put q_mi_X4_put q_se_X4_put (by decide) rfl (Nat.le_of_ble_eq_true rfl) dX9_show_67 (q_ne kd_290 (by decide)) (q_e4 kd_290) rfl rfl rfl ?_
        refine q_goto hx 81 dX9_show_70 (by decide) ?_
        refine q_iinc hx [(2, .int (v2 + 1)), (3, .int ((f_X0_ownerAt σ v2 v1))), (0, .ref (G.2.1 + 0)), (1, .int v1)] dX9_show_81 3 rfl rfl (by decide) rfl ?_
        refine q_goto hx 40 dX9_show_84 (by decide) ?_
        refine q_sub [2, 3, 0] rfl ?_
        exact ih v1 (v2 + 1) q6 h
def f_X9_show (σ : q_S) (a1 : Int32) : Option (Nat × Int32 × q_S) :=
  if ((f_X9_isCell 0 a1)) = 0 then (some ((1, 0, σ))) else (Option.bind (f_X0_survey σ 2 0) (fun q2 => f_X9_show_40 q_fu a1 0 ((f_X4_clear q2))))
set_option maxHeartbeats 4000000 in
set_option maxRecDepth 100000 in
theorem c_X9_show (l : Launch) (G : q_G) (x : q_A) (σ : q_S) (a1 : Int32)  {res : Nat × Int32 × q_S} (h : f_X9_show σ a1 = some res) (hfl : l.stackTraces = false) : q_MetX l yX9_show cX9_show 4 (some .int) 7 G [.ref (G.2.1 + 0), .int a1] σ x (q_QiX G x res.1 res.2.1 res.2.2) res.1 res.2.2 := by
  refine q_ofX (by decide) (Nat.le_of_ble_eq_true rfl) (fun X hl0 hx hr hE hR6 => ?_)
  subst hl0
  have hx : q_Cx X G RX9 cX9_show 4 7 := hx
  unfold f_X9_show at h
  show q_Wq X G x 4 (q_MQX X G x (q_QiX G x res.1 res.2.1 res.2.2) res.1 res.2.2) 0 0 0 [(0, .ref (G.2.1 + 0)), (1, .int a1)] [] σ
  refine q_iconst (v := 0) hx dX9_show_0 (by decide) ?_
  refine q_iload_n hx dX9_show_1 1 rfl ?_
  refine q_callSi (As := [.int 0, .int a1]) (rest := []) hx q_kR0 (c_X9_isCell (q_Xl X) G x σ 0 a1) q_ml_X9_233 q_mn_X9_isCell q_ms_X9_isCell (by decide) rfl (Nat.le_of_ble_eq_true rfl) dX9_show_2 rfl ?_
  refine q_if_ne hx 19 dX9_show_5 (by decide) (fun hc1 => ?_) (fun hc1 => ?_)
  · replace h := (if_neg hc1).symm.trans h
    refine q_aload_n hx dX9_show_19 0 rfl ?_
    refine q_get (v := .ref (G.2.1 + 280)) hx q_fl_X9_50 dX9_show_20 (q_ne kd_0 (by decide)) (q_e9 kd_0) rfl ?_
    refine q_aload_n hx dX9_show_23 0 rfl ?_
    refine q_get (v := .ref (G.2.1 + 2)) hx q_fl_X9_20 dX9_show_24 (q_ne kd_0 (by decide)) (q_e9 kd_0) rfl ?_
    refine q_iconst (v := 0) hx dX9_show_27 (by decide) ?_
    refine q_bindE h (fun q2 hq2 h => ?_)
    refine q_callVv (As := [.ref (G.2.1 + 2), .int 0]) (rest := []) hx q_kR0 (c_X0_survey (q_Xl X) G x σ 2 0 dr_2 hq2) q_ml_X9_176 q_mn_X0_survey q_mi_X0_survey q_se_X0_survey (by decide) rfl (Nat.le_of_ble_eq_true rfl) dX9_show_28 (q_ne kd_280 (by decide)) (q_e0 kd_280) rfl rfl rfl ?_
    refine q_aload_n hx dX9_show_31 0 rfl ?_
    refine q_get (v := .ref (G.2.1 + 290)) hx q_fl_X9_75 dX9_show_32 (q_ne kd_0 (by decide)) (q_e9 kd_0) rfl ?_
    refine q_callVv (As := []) (rest := []) hx q_kR0 (c_X4_clear (q_Xl X) G x q2 ) q_ml_X9_345 q_mn_X4_clear q_mi_X4_clear q_se_X4_clear (by decide) rfl (Nat.le_of_ble_eq_true rfl) dX9_show_35 (q_ne kd_290 (by decide)) (q_e4 kd_290) rfl rfl rfl ?_
    refine q_iconst (v := 0) hx dX9_show_38 (by decide) ?_
    refine q_istore_n hx [(2, .int 0), (0, .ref (G.2.1 + 0)), (1, .int a1)] dX9_show_39 (by decide) rfl ?_
    refine q_sub [1, 2, 0] rfl ?_
    exact s_X9_show_40 hx hr hE hR6 hfl q_fu a1 0 ((f_X4_clear q2)) h
  · replace h := (if_pos hc1).symm.trans h
    cases h
    exact q_throwSW hx hE hR6 (by decide) hfl q_th_X9_106_343_110 1 (by decide) rfl (by decide) dX9_show_8 dX9_show_11 dX9_show_12 dX9_show_15 dX9_show_18
-- X9_tell
def f_X9_tell (σ : q_S) (a1 : Int32) : Option (Nat × Int32 × q_S) :=
  if ((f_X2_hasSleeper σ 2 a1)) = 0 then (some ((1, 0, σ))) else (if (((f_X4_clear σ)) (f_X2_plotOf 2 a1) 0) = 0 then (some ((0, ((f_X4_clear σ)) 290 1, (f_X4_clear σ)))) else (Option.bind (f_X4_putPlot ((f_X4_clear σ)) ((f_X2_plotOf 2 a1))) (fun q3 => some ((0, q3 290 1, q3)))))
set_option maxHeartbeats 4000000 in
set_option maxRecDepth 100000 in
theorem c_X9_tell (l : Launch) (G : q_G) (x : q_A) (σ : q_S) (a1 : Int32)  {res : Nat × Int32 × q_S} (h : f_X9_tell σ a1 = some res) (hfl : l.stackTraces = false) : q_MetX l yX9_tell cX9_tell 3 (some .int) 7 G [.ref (G.2.1 + 0), .int a1] σ x (q_QiX G x res.1 res.2.1 res.2.2) res.1 res.2.2 := by
  refine q_ofX (by decide) (Nat.le_of_ble_eq_true rfl) (fun X hl0 hx hr hE hR6 => ?_)
  subst hl0
  have hx : q_Cx X G RX9 cX9_tell 3 7 := hx
  unfold f_X9_tell at h
  show q_Wq X G x 3 (q_MQX X G x (q_QiX G x res.1 res.2.1 res.2.2) res.1 res.2.2) 0 0 0 [(0, .ref (G.2.1 + 0)), (1, .int a1)] [] σ
  refine q_aload_n hx dX9_tell_0 0 rfl ?_
  refine q_get (v := .ref (G.2.1 + 2)) hx q_fl_X9_20 dX9_tell_1 (q_ne kd_0 (by decide)) (q_e9 kd_0) rfl ?_
  refine q_iload_n hx dX9_tell_4 1 rfl ?_
  refine q_callVi (As := [.int a1]) (rest := []) hx q_kR0 (c_X2_hasSleeper (q_Xl X) G x σ 2 a1 dr_2) q_ml_X9_144 q_mn_X2_hasSleeper q_mi_X2_hasSleeper q_se_X2_hasSleeper (by decide) rfl (Nat.le_of_ble_eq_true rfl) dX9_tell_5 (q_ne dr_2.1 (by decide)) (q_e2 dr_2.1) rfl rfl rfl ?_
  refine q_if_ne hx 21 dX9_tell_8 (by decide) (fun hc1 => ?_) (fun hc1 => ?_)
  · replace h := (if_neg hc1).symm.trans h
    refine q_aload_n hx dX9_tell_21 0 rfl ?_
    refine q_get (v := .ref (G.2.1 + 290)) hx q_fl_X9_75 dX9_tell_22 (q_ne kd_0 (by decide)) (q_e9 kd_0) rfl ?_
    refine q_callVv (As := []) (rest := []) hx q_kR0 (c_X4_clear (q_Xl X) G x σ ) q_ml_X9_345 q_mn_X4_clear q_mi_X4_clear q_se_X4_clear (by decide) rfl (Nat.le_of_ble_eq_true rfl) dX9_tell_25 (q_ne kd_290 (by decide)) (q_e4 kd_290) rfl rfl rfl ?_
    refine q_aload_n hx dX9_tell_28 0 rfl ?_
    refine q_get (v := .ref (G.2.1 + 2)) hx q_fl_X9_20 dX9_tell_29 (q_ne kd_0 (by decide)) (q_e9 kd_0) rfl ?_
    refine q_iload_n hx dX9_tell_32 1 rfl ?_
    refine q_callVr (As := [.int a1]) (rest := []) hx q_kR0 (c_X2_plotOf (q_Xl X) G x ((f_X4_clear σ)) 2 a1 dr_2) q_ml_X9_148 q_mn_X2_plotOf q_mi_X2_plotOf q_se_X2_plotOf (by decide) rfl (Nat.le_of_ble_eq_true rfl) dX9_tell_33 (q_ne dr_2.1 (by decide)) (q_e2 dr_2.1) rfl rfl rfl ?_
    refine q_astore_n hx [(2, .ref (G.2.1 + (f_X2_plotOf 2 a1))), (0, .ref (G.2.1 + 0)), (1, .int a1)] dX9_tell_36 (by decide) rfl ?_
    refine q_aload_n hx dX9_tell_37 0 rfl ?_
    refine q_get (v := .int (((f_X4_clear σ)) (f_X2_plotOf 2 a1) 0)) hx q_fl_X9_160 dX9_tell_38 (q_ne (q_plotOf_ok dr_2 a1).1 (by decide)) (q_e6 (q_plotOf_ok dr_2 a1).1) rfl ?_
    refine q_if_eq hx 52 dX9_tell_41 (by decide) (fun hc2 => ?_) (fun hc2 => ?_)
    · replace h := (if_pos hc2).symm.trans h
      refine q_aload_n hx dX9_tell_52 1 rfl ?_
      refine q_get (v := .ref (G.2.1 + 290)) hx q_fl_X9_75 dX9_tell_53 (q_ne kd_0 (by decide)) (q_e9 kd_0) rfl ?_
      refine q_get (v := .int (((f_X4_clear σ)) 290 1)) hx q_fl_X9_359 dX9_tell_56 (q_ne kd_290 (by decide)) (q_e4 kd_290) rfl ?_
      cases h
      exact q_iretX hx hr dX9_tell_59
    · replace h := (if_neg hc2).symm.trans h
      refine q_aload_n hx dX9_tell_44 1 rfl ?_
      refine q_get (v := .ref (G.2.1 + 290)) hx q_fl_X9_75 dX9_tell_45 (q_ne kd_0 (by decide)) (q_e9 kd_0) rfl ?_
      refine q_aload_n hx dX9_tell_48 0 rfl ?_
      refine q_bindE h (fun q3 hq3 h => ?_)
      refine q_callVv (As := [.ref (G.2.1 + (f_X2_plotOf 2 a1))]) (rest := []) hx q_kR0 (c_X4_putPlot (q_Xl X) G x ((f_X4_clear σ)) ((f_X2_plotOf 2 a1)) ((q_plotOf_ok dr_2 a1)) hq3) q_ml_X9_362 q_mn_X4_putPlot q_mi_X4_putPlot q_se_X4_putPlot (by decide) rfl (Nat.le_of_ble_eq_true rfl) dX9_tell_49 (q_ne kd_290 (by decide)) (q_e4 kd_290) rfl rfl rfl ?_
      refine q_aload_n hx dX9_tell_52 1 rfl ?_
      refine q_get (v := .ref (G.2.1 + 290)) hx q_fl_X9_75 dX9_tell_53 (q_ne kd_0 (by decide)) (q_e9 kd_0) rfl ?_
      refine q_get (v := .int (q3 290 1)) hx q_fl_X9_359 dX9_tell_56 (q_ne kd_290 (by decide)) (q_e4 kd_290) rfl ?_
      cases h
      exact q_iretX hx hr dX9_tell_59
  · replace h := (if_pos hc1).symm.trans h
    cases h
    exact q_throwS hx hE hR6 (by decide) hfl q_th_X9_106_121_110 1 (by decide) rfl (by decide) dX9_tell_11 dX9_tell_14 dX9_tell_15 dX9_tell_17 dX9_tell_20
-- X9_written
def f_X9_written (σ : q_S) (a1 : Int32) : Option (Nat × Int32) :=
  if a1 < 0 then (some ((4, 0))) else (if (σ 290 1) ≤ a1 then (some ((4, 0))) else (if a1 < 39 then (if (a1 < 0 ∨ 39 ≤ a1.toNatClampNeg) then none else if (((σ 291 a1.toNatClampNeg).toUInt32 % 65536).toInt32 = σ 291 a1.toNatClampNeg) then some ((0, σ 291 a1.toNatClampNeg)) else none) else (some ((4, 0)))))
set_option maxHeartbeats 4000000 in
set_option maxRecDepth 100000 in
theorem c_X9_written (l : Launch) (G : q_G) (x : q_A) (σ : q_S) (a1 : Int32)  {res : Nat × Int32} (h : f_X9_written σ a1 = some res) (hfl : l.stackTraces = false) : q_MetX l yX9_written cX9_written 2 (some .char) 7 G [.ref (G.2.1 + 0), .int a1] σ x (q_QiX G x res.1 res.2 σ) res.1 σ := by
  refine q_ofX (by decide) (Nat.le_of_ble_eq_true rfl) (fun X hl0 hx hr hE hR6 => ?_)
  subst hl0
  have hx : q_Cx X G RX9 cX9_written 2 7 := hx
  unfold f_X9_written at h
  show q_Wq X G x 2 (q_MQX X G x (q_QiX G x res.1 res.2 σ) res.1 σ) 0 0 0 [(0, .ref (G.2.1 + 0)), (1, .int a1)] [] σ
  refine q_iload_n hx dX9_written_0 1 rfl ?_
  refine q_if_lt hx 27 dX9_written_1 (by decide) (fun hc1 => ?_) (fun hc1 => ?_)
  · replace h := (if_pos hc1).symm.trans h
    cases h
    exact q_thrownSW hx hE hR6 (by decide) hfl q_th_X9_262_369_266 4 (by decide) rfl (by decide) dX9_written_27 dX9_written_30 dX9_written_31 dX9_written_34 dX9_written_37
  · replace h := (if_neg hc1).symm.trans h
    refine q_iload_n hx dX9_written_4 1 rfl ?_
    refine q_aload_n hx dX9_written_5 0 rfl ?_
    refine q_get (v := .ref (G.2.1 + 290)) hx q_fl_X9_75 dX9_written_6 (q_ne kd_0 (by decide)) (q_e9 kd_0) rfl ?_
    refine q_get (v := .int (σ 290 1)) hx q_fl_X9_359 dX9_written_9 (q_ne kd_290 (by decide)) (q_e4 kd_290) rfl ?_
    refine q_icmp_ge hx 27 dX9_written_12 (by decide) (fun hc2 => ?_) (fun hc2 => ?_)
    · replace h := (if_pos hc2).symm.trans h
      cases h
      exact q_thrownSW hx hE hR6 (by decide) hfl q_th_X9_262_369_266 4 (by decide) rfl (by decide) dX9_written_27 dX9_written_30 dX9_written_31 dX9_written_34 dX9_written_37
    · replace h := (if_neg hc2).symm.trans h
      refine q_iload_n hx dX9_written_15 1 rfl ?_
      refine q_aload_n hx dX9_written_16 0 rfl ?_
      refine q_get (v := .ref (G.2.1 + 290)) hx q_fl_X9_75 dX9_written_17 (q_ne kd_0 (by decide)) (q_e9 kd_0) rfl ?_
      refine q_get (v := .ref (G.2.1 + 291)) hx q_fl_X9_366 dX9_written_20 (q_ne kd_290 (by decide)) (q_e4 kd_290) rfl ?_
      refine q_alen1 (N := 39) (v := 39) hx dX9_written_23 kd_291 (by decide) (by decide) ?_
      refine q_icmp_lt hx 38 dX9_written_24 (by decide) (fun hc3 => ?_) (fun hc3 => ?_)
      · replace h := (if_pos hc3).symm.trans h
        refine q_aload_n hx dX9_written_38 0 rfl ?_
        refine q_get (v := .ref (G.2.1 + 290)) hx q_fl_X9_75 dX9_written_39 (q_ne kd_0 (by decide)) (q_e9 kd_0) rfl ?_
        refine q_get (v := .ref (G.2.1 + 291)) hx q_fl_X9_366 dX9_written_42 (q_ne kd_290 (by decide)) (q_e4 kd_290) rfl ?_
        refine q_iload_n hx dX9_written_45 1 rfl ?_
        by_cases hg4 : (a1 < 0 ∨ 39 ≤ a1.toNatClampNeg)
        · rw [if_pos hg4] at h; exact nomatch h
        replace h := (if_neg hg4).symm.trans h
        refine q_cald (N := 39) hx dX9_written_46 kd_291 (by first | decide | assumption) hg4 ?_
        by_cases hg5 : (((σ 291 a1.toNatClampNeg).toUInt32 % 65536).toInt32 = σ 291 a1.toNatClampNeg)
        case neg => rw [if_neg hg5] at h; exact nomatch h
        replace h := (if_pos hg5).symm.trans h
        cases h
        exact q_zretX hx hr (q_cn hg5) dX9_written_47
      · replace h := (if_neg hc3).symm.trans h
        cases h
        exact q_thrownSW hx hE hR6 (by decide) hfl q_th_X9_262_369_266 4 (by decide) rfl (by decide) dX9_written_27 dX9_written_30 dX9_written_31 dX9_written_34 dX9_written_37
-- X9_account
def f_X9_account (σ : q_S) (a1 : Int32) : Option (Nat × Int32 × q_S) :=
  if a1 = 0 then (some ((0, σ 2 0, σ))) else if a1 = 1 then (Option.bind (f_X2_countAwake σ 2) (fun q3 => some ((0, q3, σ)))) else if a1 = 2 then (some ((0, σ 8 0, σ))) else if a1 = 3 then (Option.bind (f_X5_countLit σ 8 (σ 2 5)) (fun q6 => some ((0, q6, σ)))) else if a1 = 4 then (Option.bind (f_X2_countPlots σ 2) (fun q8 => some ((0, q8, σ)))) else if a1 = 5 then (Option.bind (f_X2_countClosed σ 2) (fun q10 => some ((0, q10, σ)))) else if a1 = 6 then (Option.bind (f_X2_countChains σ 2) (fun q12 => some ((0, q12, σ)))) else if a1 = 7 then (Option.bind (f_X0_survey σ 2 0) (fun q14 => Option.bind (f_X0_countOwned q14) (fun q15 => some ((0, q15, q14))))) else if a1 = 8 then (some ((0, σ 2 5, σ))) else if a1 = 9 then (some ((0, σ 2 6, σ))) else if a1 = 10 then (some ((0, σ 0 8, σ))) else if a1 = 11 then (some ((0, σ 53 3, σ))) else some ((2, 0, σ))
set_option maxHeartbeats 4000000 in
set_option maxRecDepth 100000 in
theorem c_X9_account (l : Launch) (G : q_G) (x : q_A) (σ : q_S) (a1 : Int32)  {res : Nat × Int32 × q_S} (h : f_X9_account σ a1 = some res) (hfl : l.stackTraces = false) : q_MetX l yX9_account cX9_account 2 (some .int) 7 G [.ref (G.2.1 + 0), .int a1] σ x (q_QiX G x res.1 res.2.1 res.2.2) res.1 res.2.2 := by
  refine q_ofX (by decide) (Nat.le_of_ble_eq_true rfl) (fun X hl0 hx hr hE hR6 => ?_)
  subst hl0
  have hx : q_Cx X G RX9 cX9_account 2 7 := hx
  unfold f_X9_account at h
  show q_Wq X G x 2 (q_MQX X G x (q_QiX G x res.1 res.2.1 res.2.2) res.1 res.2.2) 0 0 0 [(0, .ref (G.2.1 + 0)), (1, .int a1)] [] σ
  refine q_iload_n hx dX9_account_0 1 rfl ?_
  by_cases hc1 : a1 = 0
  · replace h := (if_pos hc1).symm.trans h
    refine q_tin hx 64 dX9_account_1 (by rw [hc1] <;> decide) (by rw [hc1] <;> decide) (by rw [hc1] <;> rfl) (by decide) ?_
    refine q_aload_n hx dX9_account_64 0 rfl ?_
    refine q_get (v := .ref (G.2.1 + 2)) hx q_fl_X9_20 dX9_account_65 (q_ne kd_0 (by decide)) (q_e9 kd_0) rfl ?_
    refine q_get (v := .int (σ 2 0)) hx q_fl_X9_280 dX9_account_68 (q_ne dr_2.1 (by decide)) (q_e2 dr_2.1) rfl ?_
    cases h
    exact q_iretX hx hr dX9_account_71
  replace h := (if_neg hc1).symm.trans h
  by_cases hc2 : a1 = 1
  · replace h := (if_pos hc2).symm.trans h
    refine q_tin hx 72 dX9_account_1 (by rw [hc2] <;> decide) (by rw [hc2] <;> decide) (by rw [hc2] <;> rfl) (by decide) ?_
    refine q_aload_n hx dX9_account_72 0 rfl ?_
    refine q_get (v := .ref (G.2.1 + 2)) hx q_fl_X9_20 dX9_account_73 (q_ne kd_0 (by decide)) (q_e9 kd_0) rfl ?_
    refine q_bindE h (fun q3 hq3 h => ?_)
    refine q_callVi (As := []) (rest := []) hx q_kR0 (c_X2_countAwake (q_Xl X) G x σ 2 dr_2 hq3) q_ml_X9_371 q_mn_X2_countAwake q_mi_X2_countAwake q_se_X2_countAwake (by decide) rfl (Nat.le_of_ble_eq_true rfl) dX9_account_76 (q_ne dr_2.1 (by decide)) (q_e2 dr_2.1) rfl rfl rfl ?_
    cases h
    exact q_iretX hx hr dX9_account_79
  replace h := (if_neg hc2).symm.trans h
  by_cases hc4 : a1 = 2
  · replace h := (if_pos hc4).symm.trans h
    refine q_tin hx 80 dX9_account_1 (by rw [hc4] <;> decide) (by rw [hc4] <;> decide) (by rw [hc4] <;> rfl) (by decide) ?_
    refine q_aload_n hx dX9_account_80 0 rfl ?_
    refine q_get (v := .ref (G.2.1 + 2)) hx q_fl_X9_20 dX9_account_81 (q_ne kd_0 (by decide)) (q_e9 kd_0) rfl ?_
    refine q_get (v := .ref (G.2.1 + 8)) hx q_fl_X9_202 dX9_account_84 (q_ne dr_2.1 (by decide)) (q_e2 dr_2.1) rfl ?_
    refine q_get (v := .int (σ 8 0)) hx q_fl_X9_206 dX9_account_87 (q_ne pg_8.1 (by decide)) (q_e5 pg_8.1) rfl ?_
    cases h
    exact q_iretX hx hr dX9_account_90
  replace h := (if_neg hc4).symm.trans h
  by_cases hc5 : a1 = 3
  · replace h := (if_pos hc5).symm.trans h
    refine q_tin hx 91 dX9_account_1 (by rw [hc5] <;> decide) (by rw [hc5] <;> decide) (by rw [hc5] <;> rfl) (by decide) ?_
    refine q_aload_n hx dX9_account_91 0 rfl ?_
    refine q_get (v := .ref (G.2.1 + 2)) hx q_fl_X9_20 dX9_account_92 (q_ne kd_0 (by decide)) (q_e9 kd_0) rfl ?_
    refine q_get (v := .ref (G.2.1 + 8)) hx q_fl_X9_202 dX9_account_95 (q_ne dr_2.1 (by decide)) (q_e2 dr_2.1) rfl ?_
    refine q_aload_n hx dX9_account_98 0 rfl ?_
    refine q_get (v := .ref (G.2.1 + 2)) hx q_fl_X9_20 dX9_account_99 (q_ne kd_0 (by decide)) (q_e9 kd_0) rfl ?_
    refine q_get (v := .int (σ 2 5)) hx q_fl_X9_227 dX9_account_102 (q_ne dr_2.1 (by decide)) (q_e2 dr_2.1) rfl ?_
    refine q_bindE h (fun q6 hq6 h => ?_)
    refine q_callVi (As := [.int (σ 2 5)]) (rest := []) hx q_kR0 (c_X5_countLit (q_Xl X) G x σ 8 (σ 2 5) pg_8 hq6) q_ml_X9_374 q_mn_X5_countLit q_mi_X5_countLit q_se_X5_countLit (by decide) rfl (Nat.le_of_ble_eq_true rfl) dX9_account_105 (q_ne pg_8.1 (by decide)) (q_e5 pg_8.1) rfl rfl rfl ?_
    cases h
    exact q_iretX hx hr dX9_account_108
  replace h := (if_neg hc5).symm.trans h
  by_cases hc7 : a1 = 4
  · replace h := (if_pos hc7).symm.trans h
    refine q_tin hx 109 dX9_account_1 (by rw [hc7] <;> decide) (by rw [hc7] <;> decide) (by rw [hc7] <;> rfl) (by decide) ?_
    refine q_aload_n hx dX9_account_109 0 rfl ?_
    refine q_get (v := .ref (G.2.1 + 2)) hx q_fl_X9_20 dX9_account_110 (q_ne kd_0 (by decide)) (q_e9 kd_0) rfl ?_
    refine q_bindE h (fun q8 hq8 h => ?_)
    refine q_callVi (As := []) (rest := []) hx q_kR0 (c_X2_countPlots (q_Xl X) G x σ 2 dr_2 hq8) q_ml_X9_377 q_mn_X2_countPlots q_mi_X2_countPlots q_se_X2_countPlots (by decide) rfl (Nat.le_of_ble_eq_true rfl) dX9_account_113 (q_ne dr_2.1 (by decide)) (q_e2 dr_2.1) rfl rfl rfl ?_
    cases h
    exact q_iretX hx hr dX9_account_116
  replace h := (if_neg hc7).symm.trans h
  by_cases hc9 : a1 = 5
  · replace h := (if_pos hc9).symm.trans h
    refine q_tin hx 117 dX9_account_1 (by rw [hc9] <;> decide) (by rw [hc9] <;> decide) (by rw [hc9] <;> rfl) (by decide) ?_
    refine q_aload_n hx dX9_account_117 0 rfl ?_
    refine q_get (v := .ref (G.2.1 + 2)) hx q_fl_X9_20 dX9_account_118 (q_ne kd_0 (by decide)) (q_e9 kd_0) rfl ?_
    refine q_bindE h (fun q10 hq10 h => ?_)
    refine q_callVi (As := []) (rest := []) hx q_kR0 (c_X2_countClosed (q_Xl X) G x σ 2 dr_2 hq10) q_ml_X9_380 q_mn_X2_countClosed q_mi_X2_countClosed q_se_X2_countClosed (by decide) rfl (Nat.le_of_ble_eq_true rfl) dX9_account_121 (q_ne dr_2.1 (by decide)) (q_e2 dr_2.1) rfl rfl rfl ?_
    cases h
    exact q_iretX hx hr dX9_account_124
  replace h := (if_neg hc9).symm.trans h
  by_cases hc11 : a1 = 6
  · replace h := (if_pos hc11).symm.trans h
    refine q_tin hx 125 dX9_account_1 (by rw [hc11] <;> decide) (by rw [hc11] <;> decide) (by rw [hc11] <;> rfl) (by decide) ?_
    refine q_aload_n hx dX9_account_125 0 rfl ?_
    refine q_get (v := .ref (G.2.1 + 2)) hx q_fl_X9_20 dX9_account_126 (q_ne kd_0 (by decide)) (q_e9 kd_0) rfl ?_
    refine q_bindE h (fun q12 hq12 h => ?_)
    refine q_callVi (As := []) (rest := []) hx q_kR0 (c_X2_countChains (q_Xl X) G x σ 2 dr_2 hq12) q_ml_X9_383 q_mn_X2_countChains q_mi_X2_countChains q_se_X2_countChains (by decide) rfl (Nat.le_of_ble_eq_true rfl) dX9_account_129 (q_ne dr_2.1 (by decide)) (q_e2 dr_2.1) rfl rfl rfl ?_
    cases h
    exact q_iretX hx hr dX9_account_132
  replace h := (if_neg hc11).symm.trans h
  by_cases hc13 : a1 = 7
  · replace h := (if_pos hc13).symm.trans h
    refine q_tin hx 133 dX9_account_1 (by rw [hc13] <;> decide) (by rw [hc13] <;> decide) (by rw [hc13] <;> rfl) (by decide) ?_
    refine q_aload_n hx dX9_account_133 0 rfl ?_
    refine q_get (v := .ref (G.2.1 + 280)) hx q_fl_X9_50 dX9_account_134 (q_ne kd_0 (by decide)) (q_e9 kd_0) rfl ?_
    refine q_aload_n hx dX9_account_137 0 rfl ?_
    refine q_get (v := .ref (G.2.1 + 2)) hx q_fl_X9_20 dX9_account_138 (q_ne kd_0 (by decide)) (q_e9 kd_0) rfl ?_
    refine q_iconst (v := 0) hx dX9_account_141 (by decide) ?_
    refine q_bindE h (fun q14 hq14 h => ?_)
    refine q_callVv (As := [.ref (G.2.1 + 2), .int 0]) (rest := []) hx q_kR0 (c_X0_survey (q_Xl X) G x σ 2 0 dr_2 hq14) q_ml_X9_176 q_mn_X0_survey q_mi_X0_survey q_se_X0_survey (by decide) rfl (Nat.le_of_ble_eq_true rfl) dX9_account_142 (q_ne kd_280 (by decide)) (q_e0 kd_280) rfl rfl rfl ?_
    refine q_aload_n hx dX9_account_145 0 rfl ?_
    refine q_get (v := .ref (G.2.1 + 280)) hx q_fl_X9_50 dX9_account_146 (q_ne kd_0 (by decide)) (q_e9 kd_0) rfl ?_
    refine q_bindE h (fun q15 hq15 h => ?_)
    refine q_callVi (As := []) (rest := []) hx q_kR0 (c_X0_countOwned (q_Xl X) G x q14  hq15) q_ml_X9_386 q_mn_X0_countOwned q_mi_X0_countOwned q_se_X0_countOwned (by decide) rfl (Nat.le_of_ble_eq_true rfl) dX9_account_149 (q_ne kd_280 (by decide)) (q_e0 kd_280) rfl rfl rfl ?_
    cases h
    exact q_iretX hx hr dX9_account_152
  replace h := (if_neg hc13).symm.trans h
  by_cases hc16 : a1 = 8
  · replace h := (if_pos hc16).symm.trans h
    refine q_tin hx 153 dX9_account_1 (by rw [hc16] <;> decide) (by rw [hc16] <;> decide) (by rw [hc16] <;> rfl) (by decide) ?_
    refine q_aload_n hx dX9_account_153 0 rfl ?_
    refine q_get (v := .ref (G.2.1 + 2)) hx q_fl_X9_20 dX9_account_154 (q_ne kd_0 (by decide)) (q_e9 kd_0) rfl ?_
    refine q_get (v := .int (σ 2 5)) hx q_fl_X9_227 dX9_account_157 (q_ne dr_2.1 (by decide)) (q_e2 dr_2.1) rfl ?_
    cases h
    exact q_iretX hx hr dX9_account_160
  replace h := (if_neg hc16).symm.trans h
  by_cases hc17 : a1 = 9
  · replace h := (if_pos hc17).symm.trans h
    refine q_tin hx 161 dX9_account_1 (by rw [hc17] <;> decide) (by rw [hc17] <;> decide) (by rw [hc17] <;> rfl) (by decide) ?_
    refine q_aload_n hx dX9_account_161 0 rfl ?_
    refine q_get (v := .ref (G.2.1 + 2)) hx q_fl_X9_20 dX9_account_162 (q_ne kd_0 (by decide)) (q_e9 kd_0) rfl ?_
    refine q_get (v := .int (σ 2 6)) hx q_fl_X9_389 dX9_account_165 (q_ne dr_2.1 (by decide)) (q_e2 dr_2.1) rfl ?_
    cases h
    exact q_iretX hx hr dX9_account_168
  replace h := (if_neg hc17).symm.trans h
  by_cases hc18 : a1 = 10
  · replace h := (if_pos hc18).symm.trans h
    refine q_tin hx 169 dX9_account_1 (by rw [hc18] <;> decide) (by rw [hc18] <;> decide) (by rw [hc18] <;> rfl) (by decide) ?_
    refine q_aload_n hx dX9_account_169 0 rfl ?_
    refine q_get (v := .int (σ 0 8)) hx q_fl_X9_58 dX9_account_170 (q_ne kd_0 (by decide)) (q_e9 kd_0) rfl ?_
    cases h
    exact q_iretX hx hr dX9_account_173
  replace h := (if_neg hc18).symm.trans h
  by_cases hc19 : a1 = 11
  · replace h := (if_pos hc19).symm.trans h
    refine q_tin hx 174 dX9_account_1 (by rw [hc19] <;> decide) (by rw [hc19] <;> decide) (by rw [hc19] <;> rfl) (by decide) ?_
    refine q_aload_n hx dX9_account_174 0 rfl ?_
    refine q_get (v := .ref (G.2.1 + 53)) hx q_fl_X9_43 dX9_account_175 (q_ne kd_0 (by decide)) (q_e9 kd_0) rfl ?_
    refine q_get (v := .int (σ 53 3)) hx q_fl_X9_392 dX9_account_178 (q_ne kd_53 (by decide)) (q_e3 kd_53) rfl ?_
    cases h
    exact q_iretX hx hr dX9_account_181
  replace h := (if_neg hc19).symm.trans h
  have hc1T := lv_neT (k := 0) (a := 0) hc1 (by decide)
  have hc2T := lv_neT (k := 1) (a := 1) hc2 (by decide)
  have hc4T := lv_neT (k := 2) (a := 2) hc4 (by decide)
  have hc5T := lv_neT (k := 3) (a := 3) hc5 (by decide)
  have hc7T := lv_neT (k := 4) (a := 4) hc7 (by decide)
  have hc9T := lv_neT (k := 5) (a := 5) hc9 (by decide)
  have hc11T := lv_neT (k := 6) (a := 6) hc11 (by decide)
  have hc13T := lv_neT (k := 7) (a := 7) hc13 (by decide)
  have hc16T := lv_neT (k := 8) (a := 8) hc16 (by decide)
  have hc17T := lv_neT (k := 9) (a := 9) hc17 (by decide)
  have hc18T := lv_neT (k := 10) (a := 10) hc18 (by decide)
  have hc19T := lv_neT (k := 11) (a := 11) hc19 (by decide)
  refine q_tout hx 182 dX9_account_1 (by omega) (by decide) ?_
  cases h
  exact q_throwSW hx hE hR6 (by decide) hfl q_th_X9_87_393_91 2 (by decide) rfl (by decide) dX9_account_182 dX9_account_185 dX9_account_186 dX9_account_189 dX9_account_192
-- X9_undo
def f_X9_undo (σ : q_S) : Option (Nat × Int32 × q_S) :=
  if (σ 53 3) = 0 then (some ((5, 0, σ))) else (Option.bind (f_X3_bringBack σ 2) (fun q2 => some ((0, q2 53 3, q2))))
set_option maxHeartbeats 4000000 in
set_option maxRecDepth 100000 in
theorem c_X9_undo (l : Launch) (G : q_G) (x : q_A) (σ : q_S)   {res : Nat × Int32 × q_S} (h : f_X9_undo σ = some res) (hfl : l.stackTraces = false) : q_MetX l yX9_undo cX9_undo 1 (some .int) 7 G [.ref (G.2.1 + 0)] σ x (q_QiX G x res.1 res.2.1 res.2.2) res.1 res.2.2 := by
  refine q_ofX (by decide) (Nat.le_of_ble_eq_true rfl) (fun X hl0 hx hr hE hR6 => ?_)
  subst hl0
  have hx : q_Cx X G RX9 cX9_undo 1 7 := hx
  unfold f_X9_undo at h
  show q_Wq X G x 1 (q_MQX X G x (q_QiX G x res.1 res.2.1 res.2.2) res.1 res.2.2) 0 0 0 [(0, .ref (G.2.1 + 0))] [] σ
  refine q_aload_n hx dX9_undo_0 0 rfl ?_
  refine q_get (v := .ref (G.2.1 + 53)) hx q_fl_X9_43 dX9_undo_1 (q_ne kd_0 (by decide)) (q_e9 kd_0) rfl ?_
  refine q_get (v := .int (σ 53 3)) hx q_fl_X9_392 dX9_undo_4 (q_ne kd_53 (by decide)) (q_e3 kd_53) rfl ?_
  refine q_if_ne hx 21 dX9_undo_7 (by decide) (fun hc1 => ?_) (fun hc1 => ?_)
  · replace h := (if_neg hc1).symm.trans h
    refine q_aload_n hx dX9_undo_21 0 rfl ?_
    refine q_get (v := .ref (G.2.1 + 53)) hx q_fl_X9_43 dX9_undo_22 (q_ne kd_0 (by decide)) (q_e9 kd_0) rfl ?_
    refine q_aload_n hx dX9_undo_25 0 rfl ?_
    refine q_get (v := .ref (G.2.1 + 2)) hx q_fl_X9_20 dX9_undo_26 (q_ne kd_0 (by decide)) (q_e9 kd_0) rfl ?_
    refine q_bindE h (fun q2 hq2 h => ?_)
    refine q_callVv (As := [.ref (G.2.1 + 2)]) (rest := []) hx q_kR0 (c_X3_bringBack (q_Xl X) G x σ 2 dr_2 hq2) q_ml_X9_406 q_mn_X3_bringBack q_mi_X3_bringBack q_se_X3_bringBack (by decide) rfl (Nat.le_of_ble_eq_true rfl) dX9_undo_29 (q_ne kd_53 (by decide)) (q_e3 kd_53) rfl rfl rfl ?_
    refine q_aload_n hx dX9_undo_32 0 rfl ?_
    refine q_get (v := .ref (G.2.1 + 53)) hx q_fl_X9_43 dX9_undo_33 (q_ne kd_0 (by decide)) (q_e9 kd_0) rfl ?_
    refine q_get (v := .int (q2 53 3)) hx q_fl_X9_392 dX9_undo_36 (q_ne kd_53 (by decide)) (q_e3 kd_53) rfl ?_
    cases h
    exact q_iretX hx hr dX9_undo_39
  · replace h := (if_pos hc1).symm.trans h
    cases h
    exact q_throwSW hx hE hR6 (by decide) hfl q_th_X9_303_404_307 5 (by decide) rfl (by decide) dX9_undo_10 dX9_undo_13 dX9_undo_14 dX9_undo_17 dX9_undo_20
-- X9_restore
def f_X9_restore (σ : q_S) : Option (Nat × Int32 × q_S) :=
  if (σ 0 4) = 0 then (some ((5, 0, σ))) else (Option.bind (f_X2_copyFrom σ 2 28) (fun q2 => some ((0, ((f_X3_clear q2)) 2 0, (f_X3_clear q2)))))
set_option maxHeartbeats 4000000 in
set_option maxRecDepth 100000 in
theorem c_X9_restore (l : Launch) (G : q_G) (x : q_A) (σ : q_S)   {res : Nat × Int32 × q_S} (h : f_X9_restore σ = some res) (hfl : l.stackTraces = false) : q_MetX l yX9_restore cX9_restore 1 (some .int) 7 G [.ref (G.2.1 + 0)] σ x (q_QiX G x res.1 res.2.1 res.2.2) res.1 res.2.2 := by
  refine q_ofX (by decide) (Nat.le_of_ble_eq_true rfl) (fun X hl0 hx hr hE hR6 => ?_)
  subst hl0
  have hx : q_Cx X G RX9 cX9_restore 1 7 := hx
  unfold f_X9_restore at h
  show q_Wq X G x 1 (q_MQX X G x (q_QiX G x res.1 res.2.1 res.2.2) res.1 res.2.2) 0 0 0 [(0, .ref (G.2.1 + 0))] [] σ
  refine q_aload_n hx dX9_restore_0 0 rfl ?_
  refine q_get (v := .int (σ 0 4)) hx q_fl_X9_36 dX9_restore_1 (q_ne kd_0 (by decide)) (q_e9 kd_0) rfl ?_
  refine q_if_ne hx 18 dX9_restore_4 (by decide) (fun hc1 => ?_) (fun hc1 => ?_)
  · replace h := (if_neg hc1).symm.trans h
    refine q_aload_n hx dX9_restore_18 0 rfl ?_
    refine q_get (v := .ref (G.2.1 + 2)) hx q_fl_X9_20 dX9_restore_19 (q_ne kd_0 (by decide)) (q_e9 kd_0) rfl ?_
    refine q_aload_n hx dX9_restore_22 0 rfl ?_
    refine q_get (v := .ref (G.2.1 + 28)) hx q_fl_X9_33 dX9_restore_23 (q_ne kd_0 (by decide)) (q_e9 kd_0) rfl ?_
    refine q_bindE h (fun q2 hq2 h => ?_)
    refine q_callVv (As := [.ref (G.2.1 + 28)]) (rest := []) hx q_kR0 (c_X2_copyFrom (q_Xl X) G x σ 2 28 dr_2 dr_28 hq2) q_ml_X9_409 q_mn_X2_copyFrom q_mi_X2_copyFrom q_se_X2_copyFrom (by decide) rfl (Nat.le_of_ble_eq_true rfl) dX9_restore_26 (q_ne dr_2.1 (by decide)) (q_e2 dr_2.1) rfl rfl rfl ?_
    refine q_aload_n hx dX9_restore_29 0 rfl ?_
    refine q_get (v := .ref (G.2.1 + 53)) hx q_fl_X9_43 dX9_restore_30 (q_ne kd_0 (by decide)) (q_e9 kd_0) rfl ?_
    refine q_callVv (As := []) (rest := []) hx q_kR0 (c_X3_clear (q_Xl X) G x q2 ) q_ml_X9_414 q_mn_X3_clear q_mi_X3_clear q_se_X3_clear (by decide) rfl (Nat.le_of_ble_eq_true rfl) dX9_restore_33 (q_ne kd_53 (by decide)) (q_e3 kd_53) rfl rfl rfl ?_
    refine q_aload_n hx dX9_restore_36 0 rfl ?_
    refine q_get (v := .ref (G.2.1 + 2)) hx q_fl_X9_20 dX9_restore_37 (q_ne kd_0 (by decide)) (q_e9 kd_0) rfl ?_
    refine q_get (v := .int (((f_X3_clear q2)) 2 0)) hx q_fl_X9_280 dX9_restore_40 (q_ne dr_2.1 (by decide)) (q_e2 dr_2.1) rfl ?_
    cases h
    exact q_iretX hx hr dX9_restore_43
  · replace h := (if_pos hc1).symm.trans h
    cases h
    exact q_throwSW hx hE hR6 (by decide) hfl q_th_X9_303_412_307 5 (by decide) rfl (by decide) dX9_restore_7 dX9_restore_10 dX9_restore_11 dX9_restore_14 dX9_restore_17
