-- X8_letCome
def f_X8_letCome (σ : q_S) (a1 : Int32) : Int32 × q_S :=
  if ((f_X9_isFrom a1 1 9)) = 0 then (((-2), σ)) else (if (σ 2 0) < 5 then ((σ 2 0, q_up ((f_X6_end ((f_X9_setNumberAt σ 3 5 (σ 2 0) a1)) ((f_X2_plotOf 2 (σ 2 0))))) 2 0 ((((f_X6_end ((f_X9_setNumberAt σ 3 5 (σ 2 0) a1)) ((f_X2_plotOf 2 (σ 2 0))))) 2 0) + 1))) else (((f_X7_refuse σ 1 5).1, (f_X7_refuse σ 1 5).2)))
set_option maxHeartbeats 4000000 in
set_option maxRecDepth 100000 in
theorem ca_X8_letCome (l : Launch) (G : q_G) (x : q_A) (σ : q_S) (a1 : Int32)  {res : Int32 × q_S} (h : f_X8_letCome σ a1 = res) : q_Met l yX8_letCome cX8_letCome 3 (some .int) 2 G [.ref (G.2.1 + 1), .int a1] σ x (q_Qi G x res.1 res.2) := by
  refine q_of (by decide) (Nat.le_of_ble_eq_true rfl) (fun X hl0 hx hr => ?_)
  subst hl0
  have hx : q_Cx X G RX8 cX8_letCome 3 2 := hx
  unfold f_X8_letCome at h
  show q_Wq X G x 3 (q_MQ X G (q_Qi G x res.1 res.2)) 0 0 0 [(0, .ref (G.2.1 + 1)), (1, .int a1)] [] σ
  refine q_iload_n hx dX8_letCome_0 1 rfl ?_
  refine q_iconst (v := 1) hx dX8_letCome_1 (by decide) ?_
  refine q_bipush (v := 9) hx dX8_letCome_2 (by decide) ?_
  refine q_callSi (As := [.int a1, .int 1, .int 9]) (rest := []) hx q_kR0 (c_X9_isFrom (q_Xl X) G x σ a1 1 9) q_ml_X8_25 q_mn_X9_isFrom q_ms_X9_isFrom (by decide) rfl (Nat.le_of_ble_eq_true rfl) dX8_letCome_4 rfl ?_
  refine q_if_ne hx 13 dX8_letCome_7 (by decide) (fun hc1 => ?_) (fun hc1 => ?_)
  · replace h := (if_neg hc1).symm.trans h
    refine q_aload_n hx dX8_letCome_13 0 rfl ?_
    refine q_get (v := .ref (G.2.1 + 2)) hx q_fl_X8_12 dX8_letCome_14 (q_ne kd_1 (by decide)) (q_e8 kd_1) rfl ?_
    refine q_get (v := .int (σ 2 0)) hx q_fl_X8_29 dX8_letCome_17 (q_ne dr_2.1 (by decide)) (q_e2 dr_2.1) rfl ?_
    refine q_iconst (v := 5) hx dX8_letCome_20 (by decide) ?_
    refine q_icmp_lt hx 34 dX8_letCome_21 (by decide) (fun hc2 => ?_) (fun hc2 => ?_)
    · replace h := (if_pos hc2).symm.trans h
      refine q_aload_n hx dX8_letCome_34 0 rfl ?_
      refine q_get (v := .ref (G.2.1 + 2)) hx q_fl_X8_12 dX8_letCome_35 (q_ne kd_1 (by decide)) (q_e8 kd_1) rfl ?_
      refine q_get (v := .int (σ 2 0)) hx q_fl_X8_29 dX8_letCome_38 (q_ne dr_2.1 (by decide)) (q_e2 dr_2.1) rfl ?_
      refine q_istore_n hx [(2, .int (σ 2 0)), (0, .ref (G.2.1 + 1)), (1, .int a1)] dX8_letCome_41 (by decide) rfl ?_
      refine q_aload_n hx dX8_letCome_42 1 rfl ?_
      refine q_get (v := .ref (G.2.1 + 2)) hx q_fl_X8_12 dX8_letCome_43 (q_ne kd_1 (by decide)) (q_e8 kd_1) rfl ?_
      refine q_get (v := .ref (G.2.1 + 3)) hx q_fl_X8_37 dX8_letCome_46 (q_ne dr_2.1 (by decide)) (q_e2 dr_2.1) rfl ?_
      refine q_iload_n hx dX8_letCome_49 0 rfl ?_
      refine q_iload_n hx dX8_letCome_50 2 rfl ?_
      refine q_callSv (As := [.ref (G.2.1 + 3), .int (σ 2 0), .int a1]) (rest := []) hx q_kR0 (c_X9_setNumberAt (q_Xl X) G x σ 3 5 (σ 2 0) a1 kd_3) q_ml_X8_41 q_mn_X9_setNumberAt q_ms_X9_setNumberAt (by decide) rfl (Nat.le_of_ble_eq_true rfl) dX8_letCome_51 rfl ?_
      refine q_aload_n hx dX8_letCome_54 1 rfl ?_
      refine q_get (v := .ref (G.2.1 + 2)) hx q_fl_X8_12 dX8_letCome_55 (q_ne kd_1 (by decide)) (q_e8 kd_1) rfl ?_
      refine q_iload_n hx dX8_letCome_58 0 rfl ?_
      refine q_callVr (As := [.int (σ 2 0)]) (rest := []) hx q_kR0 (c_X2_plotOf (q_Xl X) G x ((f_X9_setNumberAt σ 3 5 (σ 2 0) a1)) 2 (σ 2 0) dr_2) q_ml_X8_45 q_mn_X2_plotOf q_mi_X2_plotOf q_se_X2_plotOf (by decide) rfl (Nat.le_of_ble_eq_true rfl) dX8_letCome_59 (q_ne dr_2.1 (by decide)) (q_e2 dr_2.1) rfl rfl rfl ?_
      refine q_callVv (As := []) (rest := []) hx q_kR0 (c_X6_end (q_Xl X) G x ((f_X9_setNumberAt σ 3 5 (σ 2 0) a1)) ((f_X2_plotOf 2 (σ 2 0))) ((q_plotOf_ok dr_2 (σ 2 0)))) q_ml_X8_49 q_mn_X6_end q_mi_X6_end q_se_X6_end (by decide) rfl (Nat.le_of_ble_eq_true rfl) dX8_letCome_62 (q_ne (q_plotOf_ok dr_2 (σ 2 0)).1 (by decide)) (q_e6 (q_plotOf_ok dr_2 (σ 2 0)).1) rfl rfl rfl ?_
      refine q_aload_n hx dX8_letCome_65 1 rfl ?_
      refine q_get (v := .ref (G.2.1 + 2)) hx q_fl_X8_12 dX8_letCome_66 (q_ne kd_1 (by decide)) (q_e8 kd_1) rfl ?_
      refine q_dup hx dX8_letCome_69 rfl ?_
      refine q_get (v := .int (((f_X6_end ((f_X9_setNumberAt σ 3 5 (σ 2 0) a1)) ((f_X2_plotOf 2 (σ 2 0))))) 2 0)) hx q_fl_X8_29 dX8_letCome_70 (q_ne dr_2.1 (by decide)) (q_e2 dr_2.1) rfl ?_
      refine q_iconst (v := 1) hx dX8_letCome_73 (by decide) ?_
      refine q_iadd hx dX8_letCome_74 ?_
      refine q_put (v := (((f_X6_end ((f_X9_setNumberAt σ 3 5 (σ 2 0) a1)) ((f_X2_plotOf 2 (σ 2 0))))) 2 0) + 1) hx q_fl_X8_29 q_fp_2_0 dX8_letCome_75 (q_ne dr_2.1 (by decide)) (q_e2 dr_2.1) (by rw [q_l2]; decide) rfl rfl (by rw [q_e2 dr_2.1, q_s2_0]) ?_
      refine q_iload_n hx dX8_letCome_78 0 rfl ?_
      subst h
      exact q_iret hx hr dX8_letCome_79
    · replace h := (if_neg hc2).symm.trans h
      refine q_aload_n hx dX8_letCome_24 0 rfl ?_
      refine q_get (v := .ref (G.2.1 + 27)) hx q_fl_X8_21 dX8_letCome_25 (q_ne kd_1 (by decide)) (q_e8 kd_1) rfl ?_
      refine q_iconst (v := 1) hx dX8_letCome_28 (by decide) ?_
      refine q_iconst (v := 5) hx dX8_letCome_29 (by decide) ?_
      refine q_callVi (As := [.int 1, .int 5]) (rest := []) hx q_kR0 (c_X7_refuse (q_Xl X) G x σ 1 5) q_ml_X8_33 q_mn_X7_refuse q_mi_X7_refuse q_se_X7_refuse (by decide) rfl (Nat.le_of_ble_eq_true rfl) dX8_letCome_30 (q_ne kd_27 (by decide)) (q_e7 kd_27) rfl rfl rfl ?_
      subst h
      exact q_iret hx hr dX8_letCome_33
  · replace h := (if_pos hc1).symm.trans h
    refine q_bipush (v := (-2)) hx dX8_letCome_10 (by decide) ?_
    subst h
    exact q_iret hx hr dX8_letCome_12
theorem c_X8_letCome (l : Launch) (G : q_G) (x : q_A) (σ : q_S) (a1 : Int32)  : q_Met l yX8_letCome cX8_letCome 3 (some .int) 2 G [.ref (G.2.1 + 1), .int a1] σ x (q_Qi G x (f_X8_letCome σ a1).1 (f_X8_letCome σ a1).2) := ca_X8_letCome l G x σ a1 rfl
-- X8_setPeg
def f_X8_setPeg (σ : q_S) (a1 : Int32) (a2 : Int32) (a3 : Int32) : Option (Int32 × q_S) :=
  if ((f_X9_isCorner a1 a2)) = 0 then (some (((-1), σ))) else (if ((f_X9_isFrom a3 2 5)) = 0 then (some (((-2), σ))) else (Option.bind (f_X5_findAt σ 8 a1 a2) (fun q3 => if q3 = ((-1)) then (if (σ 8 0) < 8 then (some (((((f_X5_add σ 8 a1 a2 a3)) 8 0) - 1, (f_X5_add σ 8 a1 a2 a3)))) else (some (((f_X7_refuse σ 1 8).1, (f_X7_refuse σ 1 8).2)))) else (some (((f_X7_refuse σ 2 q3).1, (f_X7_refuse σ 2 q3).2))))))
set_option maxHeartbeats 4000000 in
set_option maxRecDepth 100000 in
theorem c_X8_setPeg (l : Launch) (G : q_G) (x : q_A) (σ : q_S) (a1 : Int32) (a2 : Int32) (a3 : Int32)  {res : Int32 × q_S} (h : f_X8_setPeg σ a1 a2 a3 = some res) : q_Met l yX8_setPeg cX8_setPeg 6 (some .int) 3 G [.ref (G.2.1 + 1), .int a1, .int a2, .int a3] σ x (q_Qi G x res.1 res.2) := by
  refine q_of (by decide) (Nat.le_of_ble_eq_true rfl) (fun X hl0 hx hr => ?_)
  subst hl0
  have hx : q_Cx X G RX8 cX8_setPeg 6 3 := hx
  unfold f_X8_setPeg at h
  show q_Wq X G x 6 (q_MQ X G (q_Qi G x res.1 res.2)) 0 0 0 [(0, .ref (G.2.1 + 1)), (1, .int a1), (2, .int a2), (3, .int a3)] [] σ
  refine q_iload_n hx dX8_setPeg_0 1 rfl ?_
  refine q_iload_n hx dX8_setPeg_1 2 rfl ?_
  refine q_callSi (As := [.int a1, .int a2]) (rest := []) hx q_kR0 (c_X9_isCorner (q_Xl X) G x σ a1 a2) q_ml_X8_54 q_mn_X9_isCorner q_ms_X9_isCorner (by decide) rfl (Nat.le_of_ble_eq_true rfl) dX8_setPeg_2 rfl ?_
  refine q_if_ne hx 10 dX8_setPeg_5 (by decide) (fun hc1 => ?_) (fun hc1 => ?_)
  · replace h := (if_neg hc1).symm.trans h
    refine q_iload_n hx dX8_setPeg_10 3 rfl ?_
    refine q_iconst (v := 2) hx dX8_setPeg_11 (by decide) ?_
    refine q_iconst (v := 5) hx dX8_setPeg_12 (by decide) ?_
    refine q_callSi (As := [.int a3, .int 2, .int 5]) (rest := []) hx q_kR0 (c_X9_isFrom (q_Xl X) G x σ a3 2 5) q_ml_X8_25 q_mn_X9_isFrom q_ms_X9_isFrom (by decide) rfl (Nat.le_of_ble_eq_true rfl) dX8_setPeg_13 rfl ?_
    refine q_if_ne hx 22 dX8_setPeg_16 (by decide) (fun hc2 => ?_) (fun hc2 => ?_)
    · replace h := (if_neg hc2).symm.trans h
      refine q_aload_n hx dX8_setPeg_22 0 rfl ?_
      refine q_get (v := .ref (G.2.1 + 2)) hx q_fl_X8_12 dX8_setPeg_23 (q_ne kd_1 (by decide)) (q_e8 kd_1) rfl ?_
      refine q_get (v := .ref (G.2.1 + 8)) hx q_fl_X8_58 dX8_setPeg_26 (q_ne dr_2.1 (by decide)) (q_e2 dr_2.1) rfl ?_
      refine q_astore hx [(4, .ref (G.2.1 + 8)), (0, .ref (G.2.1 + 1)), (1, .int a1), (2, .int a2), (3, .int a3)] dX8_setPeg_29 (by decide) rfl ?_
      refine q_aload hx dX8_setPeg_31 0 rfl ?_
      refine q_iload_n hx dX8_setPeg_33 2 rfl ?_
      refine q_iload_n hx dX8_setPeg_34 3 rfl ?_
      refine q_bindE h (fun q3 hq3 h => ?_)
      refine q_callVi (As := [.int a1, .int a2]) (rest := []) hx q_kR0 (c_X5_findAt (q_Xl X) G x σ 8 a1 a2 pg_8 hq3) q_ml_X8_62 q_mn_X5_findAt q_mi_X5_findAt q_se_X5_findAt (by decide) rfl (Nat.le_of_ble_eq_true rfl) dX8_setPeg_35 (q_ne pg_8.1 (by decide)) (q_e5 pg_8.1) rfl rfl rfl ?_
      refine q_istore hx [(5, .int q3), (4, .ref (G.2.1 + 8)), (0, .ref (G.2.1 + 1)), (1, .int a1), (2, .int a2), (3, .int a3)] dX8_setPeg_38 (by decide) rfl ?_
      refine q_iload hx dX8_setPeg_40 0 rfl ?_
      refine q_iconst (v := (-1)) hx dX8_setPeg_42 (by decide) ?_
      refine q_icmp_eq hx 57 dX8_setPeg_43 (by decide) (fun hc4 => ?_) (fun hc4 => ?_)
      · replace h := (if_pos hc4).symm.trans h
        refine q_aload hx dX8_setPeg_57 1 rfl ?_
        refine q_get (v := .int (σ 8 0)) hx q_fl_X8_67 dX8_setPeg_59 (q_ne pg_8.1 (by decide)) (q_e5 pg_8.1) rfl ?_
        refine q_bipush (v := 8) hx dX8_setPeg_62 (by decide) ?_
        refine q_icmp_lt hx 78 dX8_setPeg_64 (by decide) (fun hc5 => ?_) (fun hc5 => ?_)
        · replace h := (if_pos hc5).symm.trans h
          refine q_aload hx dX8_setPeg_78 1 rfl ?_
          refine q_iload_n hx dX8_setPeg_80 3 rfl ?_
          refine q_iload_n hx dX8_setPeg_81 4 rfl ?_
          refine q_iload_n hx dX8_setPeg_82 5 rfl ?_
          refine q_callVv (As := [.int a1, .int a2, .int a3]) (rest := []) hx q_kR0 (c_X5_add (q_Xl X) G x σ 8 a1 a2 a3 pg_8) q_ml_X8_70 q_mn_X5_add q_mi_X5_add q_se_X5_add (by decide) rfl (Nat.le_of_ble_eq_true rfl) dX8_setPeg_83 (q_ne pg_8.1 (by decide)) (q_e5 pg_8.1) rfl rfl rfl ?_
          refine q_aload hx dX8_setPeg_86 1 rfl ?_
          refine q_get (v := .int (((f_X5_add σ 8 a1 a2 a3)) 8 0)) hx q_fl_X8_67 dX8_setPeg_88 (q_ne pg_8.1 (by decide)) (q_e5 pg_8.1) rfl ?_
          refine q_iconst (v := 1) hx dX8_setPeg_91 (by decide) ?_
          refine q_isub hx dX8_setPeg_92 ?_
          cases h
          exact q_iret hx hr dX8_setPeg_93
        · replace h := (if_neg hc5).symm.trans h
          refine q_aload_n hx dX8_setPeg_67 2 rfl ?_
          refine q_get (v := .ref (G.2.1 + 27)) hx q_fl_X8_21 dX8_setPeg_68 (q_ne kd_1 (by decide)) (q_e8 kd_1) rfl ?_
          refine q_iconst (v := 1) hx dX8_setPeg_71 (by decide) ?_
          refine q_bipush (v := 8) hx dX8_setPeg_72 (by decide) ?_
          refine q_callVi (As := [.int 1, .int 8]) (rest := []) hx q_kR0 (c_X7_refuse (q_Xl X) G x σ 1 8) q_ml_X8_33 q_mn_X7_refuse q_mi_X7_refuse q_se_X7_refuse (by decide) rfl (Nat.le_of_ble_eq_true rfl) dX8_setPeg_74 (q_ne kd_27 (by decide)) (q_e7 kd_27) rfl rfl rfl ?_
          cases h
          exact q_iret hx hr dX8_setPeg_77
      · replace h := (if_neg hc4).symm.trans h
        refine q_aload_n hx dX8_setPeg_46 2 rfl ?_
        refine q_get (v := .ref (G.2.1 + 27)) hx q_fl_X8_21 dX8_setPeg_47 (q_ne kd_1 (by decide)) (q_e8 kd_1) rfl ?_
        refine q_iconst (v := 2) hx dX8_setPeg_50 (by decide) ?_
        refine q_iload hx dX8_setPeg_51 0 rfl ?_
        refine q_callVi (As := [.int 2, .int q3]) (rest := []) hx q_kR0 (c_X7_refuse (q_Xl X) G x σ 2 q3) q_ml_X8_33 q_mn_X7_refuse q_mi_X7_refuse q_se_X7_refuse (by decide) rfl (Nat.le_of_ble_eq_true rfl) dX8_setPeg_53 (q_ne kd_27 (by decide)) (q_e7 kd_27) rfl rfl rfl ?_
        cases h
        exact q_iret hx hr dX8_setPeg_56
    · replace h := (if_pos hc2).symm.trans h
      refine q_bipush (v := (-2)) hx dX8_setPeg_19 (by decide) ?_
      cases h
      exact q_iret hx hr dX8_setPeg_21
  · replace h := (if_pos hc1).symm.trans h
    refine q_iconst (v := (-1)) hx dX8_setPeg_8 (by decide) ?_
    cases h
    exact q_iret hx hr dX8_setPeg_9
-- X8_beginPlot
def f_X8_beginPlot (σ : q_S) (a1 : Int32) (a2 : Int32) (a3 : Int32) : Option (Int32 × q_S) :=
  if ((f_X2_hasSleeper σ 2 a1)) = 0 then (some (((-1), σ))) else (if ((f_X9_isCorner a2 a3)) = 0 then (some (((-1), σ))) else (if (σ (f_X2_plotOf 2 a1) 0) = 0 then (Option.bind (f_X2_countPlots ((f_X6_begin σ ((f_X2_plotOf 2 a1)) a2 a3)) 2) (fun q4 => some ((q4, (f_X6_begin σ ((f_X2_plotOf 2 a1)) a2 a3))))) else (some (((f_X7_refuse σ 3 (σ (f_X2_plotOf 2 a1) 6)).1, (f_X7_refuse σ 3 (σ (f_X2_plotOf 2 a1) 6)).2)))))
set_option maxHeartbeats 4000000 in
set_option maxRecDepth 100000 in
theorem c_X8_beginPlot (l : Launch) (G : q_G) (x : q_A) (σ : q_S) (a1 : Int32) (a2 : Int32) (a3 : Int32)  {res : Int32 × q_S} (h : f_X8_beginPlot σ a1 a2 a3 = some res) : q_Met l yX8_beginPlot cX8_beginPlot 5 (some .int) 3 G [.ref (G.2.1 + 1), .int a1, .int a2, .int a3] σ x (q_Qi G x res.1 res.2) := by
  refine q_of (by decide) (Nat.le_of_ble_eq_true rfl) (fun X hl0 hx hr => ?_)
  subst hl0
  have hx : q_Cx X G RX8 cX8_beginPlot 5 3 := hx
  unfold f_X8_beginPlot at h
  show q_Wq X G x 5 (q_MQ X G (q_Qi G x res.1 res.2)) 0 0 0 [(0, .ref (G.2.1 + 1)), (1, .int a1), (2, .int a2), (3, .int a3)] [] σ
  refine q_aload_n hx dX8_beginPlot_0 0 rfl ?_
  refine q_get (v := .ref (G.2.1 + 2)) hx q_fl_X8_12 dX8_beginPlot_1 (q_ne kd_1 (by decide)) (q_e8 kd_1) rfl ?_
  refine q_iload_n hx dX8_beginPlot_4 1 rfl ?_
  refine q_callVi (As := [.int a1]) (rest := []) hx q_kR0 (c_X2_hasSleeper (q_Xl X) G x σ 2 a1 dr_2) q_ml_X8_74 q_mn_X2_hasSleeper q_mi_X2_hasSleeper q_se_X2_hasSleeper (by decide) rfl (Nat.le_of_ble_eq_true rfl) dX8_beginPlot_5 (q_ne dr_2.1 (by decide)) (q_e2 dr_2.1) rfl rfl rfl ?_
  refine q_if_eq hx 19 dX8_beginPlot_8 (by decide) (fun hc1 => ?_) (fun hc1 => ?_)
  · replace h := (if_pos hc1).symm.trans h
    refine q_iconst (v := (-1)) hx dX8_beginPlot_19 (by decide) ?_
    cases h
    exact q_iret hx hr dX8_beginPlot_20
  · replace h := (if_neg hc1).symm.trans h
    refine q_iload_n hx dX8_beginPlot_11 2 rfl ?_
    refine q_iload_n hx dX8_beginPlot_12 3 rfl ?_
    refine q_callSi (As := [.int a2, .int a3]) (rest := []) hx q_kR0 (c_X9_isCorner (q_Xl X) G x σ a2 a3) q_ml_X8_54 q_mn_X9_isCorner q_ms_X9_isCorner (by decide) rfl (Nat.le_of_ble_eq_true rfl) dX8_beginPlot_13 rfl ?_
    refine q_if_ne hx 21 dX8_beginPlot_16 (by decide) (fun hc2 => ?_) (fun hc2 => ?_)
    · replace h := (if_neg hc2).symm.trans h
      refine q_aload_n hx dX8_beginPlot_21 0 rfl ?_
      refine q_get (v := .ref (G.2.1 + 2)) hx q_fl_X8_12 dX8_beginPlot_22 (q_ne kd_1 (by decide)) (q_e8 kd_1) rfl ?_
      refine q_iload_n hx dX8_beginPlot_25 1 rfl ?_
      refine q_callVr (As := [.int a1]) (rest := []) hx q_kR0 (c_X2_plotOf (q_Xl X) G x σ 2 a1 dr_2) q_ml_X8_45 q_mn_X2_plotOf q_mi_X2_plotOf q_se_X2_plotOf (by decide) rfl (Nat.le_of_ble_eq_true rfl) dX8_beginPlot_26 (q_ne dr_2.1 (by decide)) (q_e2 dr_2.1) rfl rfl rfl ?_
      refine q_astore hx [(4, .ref (G.2.1 + (f_X2_plotOf 2 a1))), (0, .ref (G.2.1 + 1)), (1, .int a1), (2, .int a2), (3, .int a3)] dX8_beginPlot_29 (by decide) rfl ?_
      refine q_aload hx dX8_beginPlot_31 0 rfl ?_
      refine q_get (v := .int (σ (f_X2_plotOf 2 a1) 0)) hx q_fl_X8_78 dX8_beginPlot_33 (q_ne (q_plotOf_ok dr_2 a1).1 (by decide)) (q_e6 (q_plotOf_ok dr_2 a1).1) rfl ?_
      refine q_if_eq hx 53 dX8_beginPlot_36 (by decide) (fun hc3 => ?_) (fun hc3 => ?_)
      · replace h := (if_pos hc3).symm.trans h
        refine q_aload hx dX8_beginPlot_53 0 rfl ?_
        refine q_iload_n hx dX8_beginPlot_55 3 rfl ?_
        refine q_iload_n hx dX8_beginPlot_56 4 rfl ?_
        refine q_callVv (As := [.int a2, .int a3]) (rest := []) hx q_kR0 (c_X6_begin (q_Xl X) G x σ ((f_X2_plotOf 2 a1)) a2 a3 ((q_plotOf_ok dr_2 a1))) q_ml_X8_85 q_mn_X6_begin q_mi_X6_begin q_se_X6_begin (by decide) rfl (Nat.le_of_ble_eq_true rfl) dX8_beginPlot_57 (q_ne (q_plotOf_ok dr_2 a1).1 (by decide)) (q_e6 (q_plotOf_ok dr_2 a1).1) rfl rfl rfl ?_
        refine q_aload_n hx dX8_beginPlot_60 1 rfl ?_
        refine q_get (v := .ref (G.2.1 + 2)) hx q_fl_X8_12 dX8_beginPlot_61 (q_ne kd_1 (by decide)) (q_e8 kd_1) rfl ?_
        refine q_bindE h (fun q4 hq4 h => ?_)
        refine q_callVi (As := []) (rest := []) hx q_kR0 (c_X2_countPlots (q_Xl X) G x ((f_X6_begin σ ((f_X2_plotOf 2 a1)) a2 a3)) 2 dr_2 hq4) q_ml_X8_89 q_mn_X2_countPlots q_mi_X2_countPlots q_se_X2_countPlots (by decide) rfl (Nat.le_of_ble_eq_true rfl) dX8_beginPlot_64 (q_ne dr_2.1 (by decide)) (q_e2 dr_2.1) rfl rfl rfl ?_
        cases h
        exact q_iret hx hr dX8_beginPlot_67
      · replace h := (if_neg hc3).symm.trans h
        refine q_aload_n hx dX8_beginPlot_39 1 rfl ?_
        refine q_get (v := .ref (G.2.1 + 27)) hx q_fl_X8_21 dX8_beginPlot_40 (q_ne kd_1 (by decide)) (q_e8 kd_1) rfl ?_
        refine q_iconst (v := 3) hx dX8_beginPlot_43 (by decide) ?_
        refine q_aload hx dX8_beginPlot_44 0 rfl ?_
        refine q_get (v := .int (σ (f_X2_plotOf 2 a1) 6)) hx q_fl_X8_82 dX8_beginPlot_46 (q_ne (q_plotOf_ok dr_2 a1).1 (by decide)) (q_e6 (q_plotOf_ok dr_2 a1).1) rfl ?_
        refine q_callVi (As := [.int 3, .int (σ (f_X2_plotOf 2 a1) 6)]) (rest := []) hx q_kR0 (c_X7_refuse (q_Xl X) G x σ 3 (σ (f_X2_plotOf 2 a1) 6)) q_ml_X8_33 q_mn_X7_refuse q_mi_X7_refuse q_se_X7_refuse (by decide) rfl (Nat.le_of_ble_eq_true rfl) dX8_beginPlot_49 (q_ne kd_27 (by decide)) (q_e7 kd_27) rfl rfl rfl ?_
        cases h
        exact q_iret hx hr dX8_beginPlot_52
    · replace h := (if_pos hc2).symm.trans h
      refine q_iconst (v := (-1)) hx dX8_beginPlot_19 (by decide) ?_
      cases h
      exact q_iret hx hr dX8_beginPlot_20
-- X8_isBarred
def f_X8_isBarred (σ : q_S) (a1 : Int32) (a2 : Int32) (a3 : Int32) (a4 : Int32) : Option (Int32 × q_S) :=
  if ((f_X9_isCorner a1 a2)) = 0 then (some ((1, (f_X7_refuse σ 7 a3).2))) else (if a4 = 0 then (Option.bind (f_X5_findAt σ 8 a1 a2) (fun q3 => if q3 = ((-1)) then (some ((0, σ))) else (Option.bind (f_X5_hoursUntilLit σ 8 q3 (σ 2 5)) (fun q5 => if q5 = 0 then (some ((1, (f_X7_refuse σ 9 q3).2))) else (some ((0, σ))))))) else (some ((1, (f_X7_refuse σ 8 a3).2))))
set_option maxHeartbeats 4000000 in
set_option maxRecDepth 100000 in
theorem c_X8_isBarred (l : Launch) (G : q_G) (x : q_A) (σ : q_S) (a1 : Int32) (a2 : Int32) (a3 : Int32) (a4 : Int32)  {res : Int32 × q_S} (h : f_X8_isBarred σ a1 a2 a3 a4 = some res) : q_Met l yX8_isBarred cX8_isBarred 6 (some .boolean) 3 G [.ref (G.2.1 + 1), .int a1, .int a2, .int a3, .int a4] σ x (q_Qi G x res.1 res.2) := by
  refine q_of (by decide) (Nat.le_of_ble_eq_true rfl) (fun X hl0 hx hr => ?_)
  subst hl0
  have hx : q_Cx X G RX8 cX8_isBarred 6 3 := hx
  unfold f_X8_isBarred at h
  show q_Wq X G x 6 (q_MQ X G (q_Qi G x res.1 res.2)) 0 0 0 [(0, .ref (G.2.1 + 1)), (1, .int a1), (2, .int a2), (3, .int a3), (4, .int a4)] [] σ
  refine q_iload_n hx dX8_isBarred_0 1 rfl ?_
  refine q_iload_n hx dX8_isBarred_1 2 rfl ?_
  refine q_callSi (As := [.int a1, .int a2]) (rest := []) hx q_kR0 (c_X9_isCorner (q_Xl X) G x σ a1 a2) q_ml_X8_54 q_mn_X9_isCorner q_ms_X9_isCorner (by decide) rfl (Nat.le_of_ble_eq_true rfl) dX8_isBarred_2 rfl ?_
  refine q_if_ne hx 21 dX8_isBarred_5 (by decide) (fun hc1 => ?_) (fun hc1 => ?_)
  · replace h := (if_neg hc1).symm.trans h
    refine q_iload hx dX8_isBarred_21 4 rfl ?_
    refine q_if_eq hx 39 dX8_isBarred_23 (by decide) (fun hc2 => ?_) (fun hc2 => ?_)
    · replace h := (if_pos hc2).symm.trans h
      refine q_aload_n hx dX8_isBarred_39 0 rfl ?_
      refine q_get (v := .ref (G.2.1 + 2)) hx q_fl_X8_12 dX8_isBarred_40 (q_ne kd_1 (by decide)) (q_e8 kd_1) rfl ?_
      refine q_get (v := .ref (G.2.1 + 8)) hx q_fl_X8_58 dX8_isBarred_43 (q_ne dr_2.1 (by decide)) (q_e2 dr_2.1) rfl ?_
      refine q_iload_n hx dX8_isBarred_46 1 rfl ?_
      refine q_iload_n hx dX8_isBarred_47 2 rfl ?_
      refine q_bindE h (fun q3 hq3 h => ?_)
      refine q_callVi (As := [.int a1, .int a2]) (rest := []) hx q_kR0 (c_X5_findAt (q_Xl X) G x σ 8 a1 a2 pg_8 hq3) q_ml_X8_62 q_mn_X5_findAt q_mi_X5_findAt q_se_X5_findAt (by decide) rfl (Nat.le_of_ble_eq_true rfl) dX8_isBarred_48 (q_ne pg_8.1 (by decide)) (q_e5 pg_8.1) rfl rfl rfl ?_
      refine q_istore hx [(5, .int q3), (0, .ref (G.2.1 + 1)), (1, .int a1), (2, .int a2), (3, .int a3), (4, .int a4)] dX8_isBarred_51 (by decide) rfl ?_
      refine q_iload hx dX8_isBarred_53 0 rfl ?_
      refine q_iconst (v := (-1)) hx dX8_isBarred_55 (by decide) ?_
      refine q_icmp_eq hx 95 dX8_isBarred_56 (by decide) (fun hc4 => ?_) (fun hc4 => ?_)
      · replace h := (if_pos hc4).symm.trans h
        refine q_iconst (v := 0) hx dX8_isBarred_95 (by decide) ?_
        cases h
        exact q_zret (v := 0) hx hr rfl dX8_isBarred_96
      · replace h := (if_neg hc4).symm.trans h
        refine q_aload_n hx dX8_isBarred_59 1 rfl ?_
        refine q_get (v := .ref (G.2.1 + 2)) hx q_fl_X8_12 dX8_isBarred_60 (q_ne kd_1 (by decide)) (q_e8 kd_1) rfl ?_
        refine q_get (v := .ref (G.2.1 + 8)) hx q_fl_X8_58 dX8_isBarred_63 (q_ne dr_2.1 (by decide)) (q_e2 dr_2.1) rfl ?_
        refine q_iload hx dX8_isBarred_66 0 rfl ?_
        refine q_aload_n hx dX8_isBarred_68 1 rfl ?_
        refine q_get (v := .ref (G.2.1 + 2)) hx q_fl_X8_12 dX8_isBarred_69 (q_ne kd_1 (by decide)) (q_e8 kd_1) rfl ?_
        refine q_get (v := .int (σ 2 5)) hx q_fl_X8_170 dX8_isBarred_72 (q_ne dr_2.1 (by decide)) (q_e2 dr_2.1) rfl ?_
        refine q_bindE h (fun q5 hq5 h => ?_)
        refine q_callVi (As := [.int q3, .int (σ 2 5)]) (rest := []) hx q_kR0 (c_X5_hoursUntilLit (q_Xl X) G x σ 8 q3 (σ 2 5) pg_8 hq5) q_ml_X8_173 q_mn_X5_hoursUntilLit q_mi_X5_hoursUntilLit q_se_X5_hoursUntilLit (by decide) rfl (Nat.le_of_ble_eq_true rfl) dX8_isBarred_75 (q_ne pg_8.1 (by decide)) (q_e5 pg_8.1) rfl rfl rfl ?_
        refine q_if_ne hx 95 dX8_isBarred_78 (by decide) (fun hc6 => ?_) (fun hc6 => ?_)
        · replace h := (if_neg hc6).symm.trans h
          refine q_iconst (v := 0) hx dX8_isBarred_95 (by decide) ?_
          cases h
          exact q_zret (v := 0) hx hr rfl dX8_isBarred_96
        · replace h := (if_pos hc6).symm.trans h
          refine q_aload_n hx dX8_isBarred_81 1 rfl ?_
          refine q_get (v := .ref (G.2.1 + 27)) hx q_fl_X8_21 dX8_isBarred_82 (q_ne kd_1 (by decide)) (q_e8 kd_1) rfl ?_
          refine q_bipush (v := 9) hx dX8_isBarred_85 (by decide) ?_
          refine q_iload hx dX8_isBarred_87 0 rfl ?_
          refine q_callVi (As := [.int 9, .int q3]) (rest := []) hx q_kR0 (c_X7_refuse (q_Xl X) G x σ 9 q3) q_ml_X8_33 q_mn_X7_refuse q_mi_X7_refuse q_se_X7_refuse (by decide) rfl (Nat.le_of_ble_eq_true rfl) dX8_isBarred_89 (q_ne kd_27 (by decide)) (q_e7 kd_27) rfl rfl rfl ?_
          refine q_pop hx dX8_isBarred_92 rfl ?_
          refine q_iconst (v := 1) hx dX8_isBarred_93 (by decide) ?_
          cases h
          exact q_zret (v := 1) hx hr rfl dX8_isBarred_94
    · replace h := (if_neg hc2).symm.trans h
      refine q_aload_n hx dX8_isBarred_26 0 rfl ?_
      refine q_get (v := .ref (G.2.1 + 27)) hx q_fl_X8_21 dX8_isBarred_27 (q_ne kd_1 (by decide)) (q_e8 kd_1) rfl ?_
      refine q_bipush (v := 8) hx dX8_isBarred_30 (by decide) ?_
      refine q_iload_n hx dX8_isBarred_32 3 rfl ?_
      refine q_callVi (As := [.int 8, .int a3]) (rest := []) hx q_kR0 (c_X7_refuse (q_Xl X) G x σ 8 a3) q_ml_X8_33 q_mn_X7_refuse q_mi_X7_refuse q_se_X7_refuse (by decide) rfl (Nat.le_of_ble_eq_true rfl) dX8_isBarred_33 (q_ne kd_27 (by decide)) (q_e7 kd_27) rfl rfl rfl ?_
      refine q_pop hx dX8_isBarred_36 rfl ?_
      refine q_iconst (v := 1) hx dX8_isBarred_37 (by decide) ?_
      cases h
      exact q_zret (v := 1) hx hr rfl dX8_isBarred_38
  · replace h := (if_pos hc1).symm.trans h
    refine q_aload_n hx dX8_isBarred_8 0 rfl ?_
    refine q_get (v := .ref (G.2.1 + 27)) hx q_fl_X8_21 dX8_isBarred_9 (q_ne kd_1 (by decide)) (q_e8 kd_1) rfl ?_
    refine q_bipush (v := 7) hx dX8_isBarred_12 (by decide) ?_
    refine q_iload_n hx dX8_isBarred_14 3 rfl ?_
    refine q_callVi (As := [.int 7, .int a3]) (rest := []) hx q_kR0 (c_X7_refuse (q_Xl X) G x σ 7 a3) q_ml_X8_33 q_mn_X7_refuse q_mi_X7_refuse q_se_X7_refuse (by decide) rfl (Nat.le_of_ble_eq_true rfl) dX8_isBarred_15 (q_ne kd_27 (by decide)) (q_e7 kd_27) rfl rfl rfl ?_
    refine q_pop hx dX8_isBarred_18 rfl ?_
    refine q_iconst (v := 1) hx dX8_isBarred_19 (by decide) ?_
    cases h
    exact q_zret (v := 1) hx hr rfl dX8_isBarred_20
-- X8_isLayingBarred
def f_X8_isLayingBarred_121 (z1 : Nat) (k15 : Int32 → Int32 → Int32 → Int32 → Int32 → q_S → Option (Int32 × q_S)) (v2 : Int32) (v3 : Int32) (v4 : Int32) (v5 : Int32) (v6 : Int32) (s0 : Int32) (s1 : Int32) (s2 : Int32) (s3 : Int32) (σ : q_S) : Option (Int32 × q_S) :=
  Option.bind (f_X8_isBarred σ s3 s2 s1 s0) (fun q5 => if q5.1 = 0 then (k15 v2 v3 v4 v5 (v6 + 1) q5.2) else (some ((1, q5.2))))
set_option maxHeartbeats 4000000 in
set_option maxRecDepth 100000 in
theorem s_X8_isLayingBarred_121 {X : q_X} {G : q_G} {x : q_A} (z1 : Nat) (hx : q_Cx X G RX8 cX8_isLayingBarred 9 4) (hr : (q_Xm X).sig.returnType = some .boolean) (hz1 : q_isPlot z1) {res : Int32 × q_S} {k15 : Int32 → Int32 → Int32 → Int32 → Int32 → q_S → Option (Int32 × q_S)} (hk15 : ∀ (v2 : Int32) (v3 : Int32) (v4 : Int32) (v5 : Int32) (v6 : Int32) (σ : q_S), k15 v2 v3 v4 v5 v6 σ = some res → q_Wq X G x 9 (q_MQ X G (q_Qi G x res.1 res.2)) 0 0 15 [(0, .ref (G.2.1 + 1)), (1, .ref (G.2.1 + z1)), (2, .int v2), (3, .int v3), (4, .int v4), (5, .int v5), (6, .int v6)] [] σ) : ∀ (v2 : Int32) (v3 : Int32) (v4 : Int32) (v5 : Int32) (v6 : Int32) (s0 : Int32) (s1 : Int32) (s2 : Int32) (s3 : Int32) (σ : q_S), f_X8_isLayingBarred_121 z1 k15 v2 v3 v4 v5 v6 s0 s1 s2 s3 σ = some res → q_Wq X G x 9 (q_MQ X G (q_Qi G x res.1 res.2)) 0 0 121 [(0, .ref (G.2.1 + 1)), (1, .ref (G.2.1 + z1)), (2, .int v2), (3, .int v3), (4, .int v4), (5, .int v5), (6, .int v6)] [.int s0, .int s1, .int s2, .int s3, .ref (G.2.1 + 1)] σ := by
  intro v2 v3 v4 v5 v6 s0 s1 s2 s3 σ h
  unfold f_X8_isLayingBarred_121 at h
  refine q_bindE h (fun q5 hq5 h => ?_)
  refine q_callVi (As := [.int s3, .int s2, .int s1, .int s0]) (rest := []) hx q_kR0 (c_X8_isBarred (q_Xl X) G x σ s3 s2 s1 s0 hq5) q_ml_X8_132 q_mn_X8_isBarred q_mi_X8_isBarred q_se_X8_isBarred (by decide) rfl (Nat.le_of_ble_eq_true rfl) dX8_isLayingBarred_121 (q_ne kd_1 (by decide)) (q_e8 kd_1) rfl rfl rfl ?_
  refine q_if_eq hx 129 dX8_isLayingBarred_124 (by decide) (fun hc6 => ?_) (fun hc6 => ?_)
  · replace h := (if_pos hc6).symm.trans h
    refine q_iinc hx [(6, .int (v6 + 1)), (0, .ref (G.2.1 + 1)), (1, .ref (G.2.1 + z1)), (2, .int v2), (3, .int v3), (4, .int v4), (5, .int v5)] dX8_isLayingBarred_129 6 rfl rfl (by decide) rfl ?_
    refine q_goto hx 15 dX8_isLayingBarred_132 (by decide) ?_
    refine q_sub [1, 2, 3, 4, 5, 6, 0] rfl ?_
    exact hk15 v2 v3 v4 v5 (v6 + 1) q5.2 h
  · replace h := (if_neg hc6).symm.trans h
    refine q_iconst (v := 1) hx dX8_isLayingBarred_127 (by decide) ?_
    cases h
    exact q_zret (v := 1) hx hr rfl dX8_isLayingBarred_128
def f_X8_isLayingBarred_120 (z1 : Nat) (k15 : Int32 → Int32 → Int32 → Int32 → Int32 → q_S → Option (Int32 × q_S)) (v2 : Int32) (v3 : Int32) (v4 : Int32) (v5 : Int32) (v6 : Int32) (s0 : Int32) (s1 : Int32) (s2 : Int32) (σ : q_S) : Option (Int32 × q_S) :=
  f_X8_isLayingBarred_121 z1 k15 v2 v3 v4 v5 v6 0 s0 s1 s2 σ
set_option maxHeartbeats 4000000 in
set_option maxRecDepth 100000 in
theorem s_X8_isLayingBarred_120 {X : q_X} {G : q_G} {x : q_A} (z1 : Nat) (hx : q_Cx X G RX8 cX8_isLayingBarred 9 4) (hr : (q_Xm X).sig.returnType = some .boolean) (hz1 : q_isPlot z1) {res : Int32 × q_S} {k15 : Int32 → Int32 → Int32 → Int32 → Int32 → q_S → Option (Int32 × q_S)} (hk15 : ∀ (v2 : Int32) (v3 : Int32) (v4 : Int32) (v5 : Int32) (v6 : Int32) (σ : q_S), k15 v2 v3 v4 v5 v6 σ = some res → q_Wq X G x 9 (q_MQ X G (q_Qi G x res.1 res.2)) 0 0 15 [(0, .ref (G.2.1 + 1)), (1, .ref (G.2.1 + z1)), (2, .int v2), (3, .int v3), (4, .int v4), (5, .int v5), (6, .int v6)] [] σ) : ∀ (v2 : Int32) (v3 : Int32) (v4 : Int32) (v5 : Int32) (v6 : Int32) (s0 : Int32) (s1 : Int32) (s2 : Int32) (σ : q_S), f_X8_isLayingBarred_120 z1 k15 v2 v3 v4 v5 v6 s0 s1 s2 σ = some res → q_Wq X G x 9 (q_MQ X G (q_Qi G x res.1 res.2)) 0 0 120 [(0, .ref (G.2.1 + 1)), (1, .ref (G.2.1 + z1)), (2, .int v2), (3, .int v3), (4, .int v4), (5, .int v5), (6, .int v6)] [.int s0, .int s1, .int s2, .ref (G.2.1 + 1)] σ := by
  intro v2 v3 v4 v5 v6 s0 s1 s2 σ h
  unfold f_X8_isLayingBarred_120 at h
  refine q_iconst (v := 0) hx dX8_isLayingBarred_120 (by decide) ?_
  refine q_sub [0, 1, 2, 3, 4, 5, 6] rfl ?_
  exact s_X8_isLayingBarred_121 z1 hx hr hz1 hk15 v2 v3 v4 v5 v6 0 s0 s1 s2 σ h
def f_X8_isLayingBarred_90 (z1 : Nat) (k15 : Int32 → Int32 → Int32 → Int32 → Int32 → q_S → Option (Int32 × q_S)) (v2 : Int32) (v3 : Int32) (v4 : Int32) (v5 : Int32) (v6 : Int32) (s0 : Int32) (σ : q_S) : Option (Int32 × q_S) :=
  if s0 = 0 then (Option.bind (f_X6_goesOver σ z1 v4 v5 ((-1))) (fun q7 => if q7 = 0 then (f_X8_isLayingBarred_120 z1 k15 v2 v3 v4 v5 v6 v6 v5 v4 σ) else (f_X8_isLayingBarred_121 z1 k15 v2 v3 v4 v5 v6 1 v6 v5 v4 σ))) else (f_X8_isLayingBarred_120 z1 k15 v2 v3 v4 v5 v6 v6 v5 v4 σ)
set_option maxHeartbeats 4000000 in
set_option maxRecDepth 100000 in
theorem s_X8_isLayingBarred_90 {X : q_X} {G : q_G} {x : q_A} (z1 : Nat) (hx : q_Cx X G RX8 cX8_isLayingBarred 9 4) (hr : (q_Xm X).sig.returnType = some .boolean) (hz1 : q_isPlot z1) {res : Int32 × q_S} {k15 : Int32 → Int32 → Int32 → Int32 → Int32 → q_S → Option (Int32 × q_S)} (hk15 : ∀ (v2 : Int32) (v3 : Int32) (v4 : Int32) (v5 : Int32) (v6 : Int32) (σ : q_S), k15 v2 v3 v4 v5 v6 σ = some res → q_Wq X G x 9 (q_MQ X G (q_Qi G x res.1 res.2)) 0 0 15 [(0, .ref (G.2.1 + 1)), (1, .ref (G.2.1 + z1)), (2, .int v2), (3, .int v3), (4, .int v4), (5, .int v5), (6, .int v6)] [] σ) : ∀ (v2 : Int32) (v3 : Int32) (v4 : Int32) (v5 : Int32) (v6 : Int32) (s0 : Int32) (σ : q_S), f_X8_isLayingBarred_90 z1 k15 v2 v3 v4 v5 v6 s0 σ = some res → q_Wq X G x 9 (q_MQ X G (q_Qi G x res.1 res.2)) 0 0 90 [(0, .ref (G.2.1 + 1)), (1, .ref (G.2.1 + z1)), (2, .int v2), (3, .int v3), (4, .int v4), (5, .int v5), (6, .int v6)] [.int s0] σ := by
  intro v2 v3 v4 v5 v6 s0 σ h
  unfold f_X8_isLayingBarred_90 at h
  refine q_istore hx [(8, .int s0), (0, .ref (G.2.1 + 1)), (1, .ref (G.2.1 + z1)), (2, .int v2), (3, .int v3), (4, .int v4), (5, .int v5), (6, .int v6)] dX8_isLayingBarred_90 (by decide) rfl ?_
  refine q_aload_n hx dX8_isLayingBarred_92 1 rfl ?_
  refine q_iload hx dX8_isLayingBarred_93 5 rfl ?_
  refine q_iload hx dX8_isLayingBarred_95 6 rfl ?_
  refine q_iload hx dX8_isLayingBarred_97 7 rfl ?_
  refine q_iload hx dX8_isLayingBarred_99 0 rfl ?_
  refine q_if_ne hx 120 dX8_isLayingBarred_101 (by decide) (fun hc4 => ?_) (fun hc4 => ?_)
  · replace h := (if_neg hc4).symm.trans h
    refine q_sub [1, 2, 3, 4, 5, 6, 7] rfl ?_
    exact s_X8_isLayingBarred_120 z1 hx hr hz1 hk15 v2 v3 v4 v5 v6 v6 v5 v4 σ h
  · replace h := (if_pos hc4).symm.trans h
    refine q_aload_n hx dX8_isLayingBarred_104 2 rfl ?_
    refine q_iload hx dX8_isLayingBarred_105 5 rfl ?_
    refine q_iload hx dX8_isLayingBarred_107 6 rfl ?_
    refine q_iconst (v := (-1)) hx dX8_isLayingBarred_109 (by decide) ?_
    refine q_bindE h (fun q7 hq7 h => ?_)
    refine q_callVi (As := [.int v4, .int v5, .int ((-1))]) (rest := [.int v6, .int v5, .int v4, .ref (G.2.1 + 1)]) hx q_kR0 (c_X6_goesOver (q_Xl X) G x σ z1 v4 v5 ((-1)) hz1 hq7) q_ml_X8_129 q_mn_X6_goesOver q_mi_X6_goesOver q_se_X6_goesOver (by decide) rfl (Nat.le_of_ble_eq_true rfl) dX8_isLayingBarred_110 (q_ne hz1.1 (by decide)) (q_e6 hz1.1) rfl rfl rfl ?_
    refine q_if_eq hx 120 dX8_isLayingBarred_113 (by decide) (fun hc8 => ?_) (fun hc8 => ?_)
    · replace h := (if_pos hc8).symm.trans h
      refine q_sub [1, 2, 3, 4, 5, 6, 7] rfl ?_
      exact s_X8_isLayingBarred_120 z1 hx hr hz1 hk15 v2 v3 v4 v5 v6 v6 v5 v4 σ h
    · replace h := (if_neg hc8).symm.trans h
      refine q_iconst (v := 1) hx dX8_isLayingBarred_116 (by decide) ?_
      refine q_goto hx 121 dX8_isLayingBarred_117 (by decide) ?_
      refine q_sub [1, 2, 3, 4, 5, 6, 7] rfl ?_
      exact s_X8_isLayingBarred_121 z1 hx hr hz1 hk15 v2 v3 v4 v5 v6 1 v6 v5 v4 σ h
def f_X8_isLayingBarred_89 (z1 : Nat) (k15 : Int32 → Int32 → Int32 → Int32 → Int32 → q_S → Option (Int32 × q_S)) (v2 : Int32) (v3 : Int32) (v4 : Int32) (v5 : Int32) (v6 : Int32) (σ : q_S) : Option (Int32 × q_S) :=
  f_X8_isLayingBarred_90 z1 k15 v2 v3 v4 v5 v6 0 σ
set_option maxHeartbeats 4000000 in
set_option maxRecDepth 100000 in
theorem s_X8_isLayingBarred_89 {X : q_X} {G : q_G} {x : q_A} (z1 : Nat) (hx : q_Cx X G RX8 cX8_isLayingBarred 9 4) (hr : (q_Xm X).sig.returnType = some .boolean) (hz1 : q_isPlot z1) {res : Int32 × q_S} {k15 : Int32 → Int32 → Int32 → Int32 → Int32 → q_S → Option (Int32 × q_S)} (hk15 : ∀ (v2 : Int32) (v3 : Int32) (v4 : Int32) (v5 : Int32) (v6 : Int32) (σ : q_S), k15 v2 v3 v4 v5 v6 σ = some res → q_Wq X G x 9 (q_MQ X G (q_Qi G x res.1 res.2)) 0 0 15 [(0, .ref (G.2.1 + 1)), (1, .ref (G.2.1 + z1)), (2, .int v2), (3, .int v3), (4, .int v4), (5, .int v5), (6, .int v6)] [] σ) : ∀ (v2 : Int32) (v3 : Int32) (v4 : Int32) (v5 : Int32) (v6 : Int32) (σ : q_S), f_X8_isLayingBarred_89 z1 k15 v2 v3 v4 v5 v6 σ = some res → q_Wq X G x 9 (q_MQ X G (q_Qi G x res.1 res.2)) 0 0 89 [(0, .ref (G.2.1 + 1)), (1, .ref (G.2.1 + z1)), (2, .int v2), (3, .int v3), (4, .int v4), (5, .int v5), (6, .int v6)] [] σ := by
  intro v2 v3 v4 v5 v6 σ h
  unfold f_X8_isLayingBarred_89 at h
  refine q_iconst (v := 0) hx dX8_isLayingBarred_89 (by decide) ?_
  refine q_sub [0, 1, 2, 3, 4, 5, 6] rfl ?_
  exact s_X8_isLayingBarred_90 z1 hx hr hz1 hk15 v2 v3 v4 v5 v6 0 σ h
def f_X8_isLayingBarred_60 (z1 : Nat) (k15 : Int32 → Int32 → Int32 → Int32 → Int32 → q_S → Option (Int32 × q_S)) (v2 : Int32) (v3 : Int32) (v4 : Int32) (v5 : Int32) (v6 : Int32) (s0 : Int32) (σ : q_S) : Option (Int32 × q_S) :=
  if s0 = 0 then (f_X8_isLayingBarred_89 z1 k15 v2 v3 v4 v5 v6 σ) else (if v4 = (σ z1 2) then (if v5 = (σ z1 3) then (f_X8_isLayingBarred_90 z1 k15 v2 v3 v4 v5 v6 1 σ) else (f_X8_isLayingBarred_89 z1 k15 v2 v3 v4 v5 v6 σ)) else (f_X8_isLayingBarred_89 z1 k15 v2 v3 v4 v5 v6 σ))
set_option maxHeartbeats 4000000 in
set_option maxRecDepth 100000 in
theorem s_X8_isLayingBarred_60 {X : q_X} {G : q_G} {x : q_A} (z1 : Nat) (hx : q_Cx X G RX8 cX8_isLayingBarred 9 4) (hr : (q_Xm X).sig.returnType = some .boolean) (hz1 : q_isPlot z1) {res : Int32 × q_S} {k15 : Int32 → Int32 → Int32 → Int32 → Int32 → q_S → Option (Int32 × q_S)} (hk15 : ∀ (v2 : Int32) (v3 : Int32) (v4 : Int32) (v5 : Int32) (v6 : Int32) (σ : q_S), k15 v2 v3 v4 v5 v6 σ = some res → q_Wq X G x 9 (q_MQ X G (q_Qi G x res.1 res.2)) 0 0 15 [(0, .ref (G.2.1 + 1)), (1, .ref (G.2.1 + z1)), (2, .int v2), (3, .int v3), (4, .int v4), (5, .int v5), (6, .int v6)] [] σ) : ∀ (v2 : Int32) (v3 : Int32) (v4 : Int32) (v5 : Int32) (v6 : Int32) (s0 : Int32) (σ : q_S), f_X8_isLayingBarred_60 z1 k15 v2 v3 v4 v5 v6 s0 σ = some res → q_Wq X G x 9 (q_MQ X G (q_Qi G x res.1 res.2)) 0 0 60 [(0, .ref (G.2.1 + 1)), (1, .ref (G.2.1 + z1)), (2, .int v2), (3, .int v3), (4, .int v4), (5, .int v5), (6, .int v6)] [.int s0] σ := by
  intro v2 v3 v4 v5 v6 s0 σ h
  unfold f_X8_isLayingBarred_60 at h
  refine q_istore hx [(7, .int s0), (0, .ref (G.2.1 + 1)), (1, .ref (G.2.1 + z1)), (2, .int v2), (3, .int v3), (4, .int v4), (5, .int v5), (6, .int v6)] dX8_isLayingBarred_60 (by decide) rfl ?_
  refine q_iload hx dX8_isLayingBarred_62 0 rfl ?_
  refine q_if_eq hx 89 dX8_isLayingBarred_64 (by decide) (fun hc3 => ?_) (fun hc3 => ?_)
  · replace h := (if_pos hc3).symm.trans h
    refine q_sub [1, 2, 3, 4, 5, 6, 7] rfl ?_
    exact s_X8_isLayingBarred_89 z1 hx hr hz1 hk15 v2 v3 v4 v5 v6 σ h
  · replace h := (if_neg hc3).symm.trans h
    refine q_iload hx dX8_isLayingBarred_67 5 rfl ?_
    refine q_aload_n hx dX8_isLayingBarred_69 2 rfl ?_
    refine q_get (v := .int (σ z1 2)) hx q_fl_X8_109 dX8_isLayingBarred_70 (q_ne hz1.1 (by decide)) (q_e6 hz1.1) rfl ?_
    refine q_icmp_ne hx 89 dX8_isLayingBarred_73 (by decide) (fun hc9 => ?_) (fun hc9 => ?_)
    · replace h := (if_neg hc9).symm.trans h
      refine q_sub [1, 2, 3, 4, 5, 6, 7] rfl ?_
      exact s_X8_isLayingBarred_89 z1 hx hr hz1 hk15 v2 v3 v4 v5 v6 σ h
    · replace h := (if_pos hc9).symm.trans h
      refine q_iload hx dX8_isLayingBarred_76 6 rfl ?_
      refine q_aload_n hx dX8_isLayingBarred_78 2 rfl ?_
      refine q_get (v := .int (σ z1 3)) hx q_fl_X8_120 dX8_isLayingBarred_79 (q_ne hz1.1 (by decide)) (q_e6 hz1.1) rfl ?_
      refine q_icmp_ne hx 89 dX8_isLayingBarred_82 (by decide) (fun hc10 => ?_) (fun hc10 => ?_)
      · replace h := (if_neg hc10).symm.trans h
        refine q_sub [1, 2, 3, 4, 5, 6, 7] rfl ?_
        exact s_X8_isLayingBarred_89 z1 hx hr hz1 hk15 v2 v3 v4 v5 v6 σ h
      · replace h := (if_pos hc10).symm.trans h
        refine q_iconst (v := 1) hx dX8_isLayingBarred_85 (by decide) ?_
        refine q_goto hx 90 dX8_isLayingBarred_86 (by decide) ?_
        refine q_sub [1, 2, 3, 4, 5, 6, 7] rfl ?_
        exact s_X8_isLayingBarred_90 z1 hx hr hz1 hk15 v2 v3 v4 v5 v6 1 σ h
def f_X8_isLayingBarred_59 (z1 : Nat) (k15 : Int32 → Int32 → Int32 → Int32 → Int32 → q_S → Option (Int32 × q_S)) (v2 : Int32) (v3 : Int32) (v4 : Int32) (v5 : Int32) (v6 : Int32) (σ : q_S) : Option (Int32 × q_S) :=
  f_X8_isLayingBarred_60 z1 k15 v2 v3 v4 v5 v6 0 σ
set_option maxHeartbeats 4000000 in
set_option maxRecDepth 100000 in
theorem s_X8_isLayingBarred_59 {X : q_X} {G : q_G} {x : q_A} (z1 : Nat) (hx : q_Cx X G RX8 cX8_isLayingBarred 9 4) (hr : (q_Xm X).sig.returnType = some .boolean) (hz1 : q_isPlot z1) {res : Int32 × q_S} {k15 : Int32 → Int32 → Int32 → Int32 → Int32 → q_S → Option (Int32 × q_S)} (hk15 : ∀ (v2 : Int32) (v3 : Int32) (v4 : Int32) (v5 : Int32) (v6 : Int32) (σ : q_S), k15 v2 v3 v4 v5 v6 σ = some res → q_Wq X G x 9 (q_MQ X G (q_Qi G x res.1 res.2)) 0 0 15 [(0, .ref (G.2.1 + 1)), (1, .ref (G.2.1 + z1)), (2, .int v2), (3, .int v3), (4, .int v4), (5, .int v5), (6, .int v6)] [] σ) : ∀ (v2 : Int32) (v3 : Int32) (v4 : Int32) (v5 : Int32) (v6 : Int32) (σ : q_S), f_X8_isLayingBarred_59 z1 k15 v2 v3 v4 v5 v6 σ = some res → q_Wq X G x 9 (q_MQ X G (q_Qi G x res.1 res.2)) 0 0 59 [(0, .ref (G.2.1 + 1)), (1, .ref (G.2.1 + z1)), (2, .int v2), (3, .int v3), (4, .int v4), (5, .int v5), (6, .int v6)] [] σ := by
  intro v2 v3 v4 v5 v6 σ h
  unfold f_X8_isLayingBarred_59 at h
  refine q_iconst (v := 0) hx dX8_isLayingBarred_59 (by decide) ?_
  refine q_sub [0, 1, 2, 3, 4, 5, 6] rfl ?_
  exact s_X8_isLayingBarred_60 z1 hx hr hz1 hk15 v2 v3 v4 v5 v6 0 σ h
def f_X8_isLayingBarred_15 (z1 : Nat) : Nat → Int32 → Int32 → Int32 → Int32 → Int32 → q_S → Option (Int32 × q_S)
  | 0, _, _, _, _, _, _ => none
  | n + 1, v2, v3, v4, v5, v6, σ =>
    if v3 ≤ v6 then (some ((0, σ))) else (if v6 = (v3 - 1) then (if (σ z1 6) < 3 then (f_X8_isLayingBarred_59 z1 (f_X8_isLayingBarred_15 z1 n) v2 v3 (v4 + ((f_X9_stepX v2))) (v5 + ((f_X9_stepY v2))) v6 σ) else (f_X8_isLayingBarred_60 z1 (f_X8_isLayingBarred_15 z1 n) v2 v3 (v4 + ((f_X9_stepX v2))) (v5 + ((f_X9_stepY v2))) v6 1 σ)) else (f_X8_isLayingBarred_59 z1 (f_X8_isLayingBarred_15 z1 n) v2 v3 (v4 + ((f_X9_stepX v2))) (v5 + ((f_X9_stepY v2))) v6 σ))
set_option maxHeartbeats 4000000 in
set_option maxRecDepth 100000 in
theorem s_X8_isLayingBarred_15 {X : q_X} {G : q_G} {x : q_A} (z1 : Nat) (hx : q_Cx X G RX8 cX8_isLayingBarred 9 4) (hr : (q_Xm X).sig.returnType = some .boolean) (hz1 : q_isPlot z1) {res : Int32 × q_S} : ∀ (n : Nat) (v2 : Int32) (v3 : Int32) (v4 : Int32) (v5 : Int32) (v6 : Int32) (σ : q_S), f_X8_isLayingBarred_15 z1 n v2 v3 v4 v5 v6 σ = some res → q_Wq X G x 9 (q_MQ X G (q_Qi G x res.1 res.2)) 0 0 15 [(0, .ref (G.2.1 + 1)), (1, .ref (G.2.1 + z1)), (2, .int v2), (3, .int v3), (4, .int v4), (5, .int v5), (6, .int v6)] [] σ := by
  intro n
  induction n with
  | zero => exact fun _ _ _ _ _ _ h => nomatch (show (none : Option (Int32 × q_S)) = some res from h)
  | succ n ih =>
    intro v2 v3 v4 v5 v6 σ h
    rw [f_X8_isLayingBarred_15] at h
    refine q_iload hx dX8_isLayingBarred_15 6 rfl ?_
    refine q_iload_n hx dX8_isLayingBarred_17 3 rfl ?_
    refine q_icmp_ge hx 135 dX8_isLayingBarred_18 (by decide) (fun hc1 => ?_) (fun hc1 => ?_)
    · replace h := (if_pos hc1).symm.trans h
      refine q_iconst (v := 0) hx dX8_isLayingBarred_135 (by decide) ?_
      cases h
      exact q_zret (v := 0) hx hr rfl dX8_isLayingBarred_136
    · replace h := (if_neg hc1).symm.trans h
      refine q_iload hx dX8_isLayingBarred_21 4 rfl ?_
      refine q_iload_n hx dX8_isLayingBarred_23 2 rfl ?_
      refine q_callSi (As := [.int v2]) (rest := [.int v4]) hx q_kR0 (c_X9_stepX (q_Xl X) G x σ v2) q_ml_X8_123 q_mn_X9_stepX q_ms_X9_stepX (by decide) rfl (Nat.le_of_ble_eq_true rfl) dX8_isLayingBarred_24 rfl ?_
      refine q_iadd hx dX8_isLayingBarred_27 ?_
      refine q_istore hx [(4, .int (v4 + ((f_X9_stepX v2)))), (0, .ref (G.2.1 + 1)), (1, .ref (G.2.1 + z1)), (2, .int v2), (3, .int v3), (5, .int v5), (6, .int v6)] dX8_isLayingBarred_28 (by decide) rfl ?_
      refine q_iload hx dX8_isLayingBarred_30 5 rfl ?_
      refine q_iload_n hx dX8_isLayingBarred_32 3 rfl ?_
      refine q_callSi (As := [.int v2]) (rest := [.int v5]) hx q_kR0 (c_X9_stepY (q_Xl X) G x σ v2) q_ml_X8_126 q_mn_X9_stepY q_ms_X9_stepY (by decide) rfl (Nat.le_of_ble_eq_true rfl) dX8_isLayingBarred_33 rfl ?_
      refine q_iadd hx dX8_isLayingBarred_36 ?_
      refine q_istore hx [(5, .int (v5 + ((f_X9_stepY v2)))), (4, .int (v4 + ((f_X9_stepX v2)))), (0, .ref (G.2.1 + 1)), (1, .ref (G.2.1 + z1)), (2, .int v2), (3, .int v3), (6, .int v6)] dX8_isLayingBarred_37 (by decide) rfl ?_
      refine q_iload hx dX8_isLayingBarred_39 6 rfl ?_
      refine q_iload_n hx dX8_isLayingBarred_41 5 rfl ?_
      refine q_iconst (v := 1) hx dX8_isLayingBarred_42 (by decide) ?_
      refine q_isub hx dX8_isLayingBarred_43 ?_
      refine q_icmp_ne hx 59 dX8_isLayingBarred_44 (by decide) (fun hc2 => ?_) (fun hc2 => ?_)
      · replace h := (if_neg hc2).symm.trans h
        refine q_sub [2, 3, 4, 5, 1, 0, 6] rfl ?_
        exact s_X8_isLayingBarred_59 z1 hx hr hz1 (fun v2 v3 v4 v5 v6 σ h => ih v2 v3 v4 v5 v6 σ h) v2 v3 (v4 + ((f_X9_stepX v2))) (v5 + ((f_X9_stepY v2))) v6 σ h
      · replace h := (if_pos hc2).symm.trans h
        refine q_aload_n hx dX8_isLayingBarred_47 3 rfl ?_
        refine q_get (v := .int (σ z1 6)) hx q_fl_X8_82 dX8_isLayingBarred_48 (q_ne hz1.1 (by decide)) (q_e6 hz1.1) rfl ?_
        refine q_iconst (v := 3) hx dX8_isLayingBarred_51 (by decide) ?_
        refine q_icmp_lt hx 59 dX8_isLayingBarred_52 (by decide) (fun hc11 => ?_) (fun hc11 => ?_)
        · replace h := (if_pos hc11).symm.trans h
          refine q_sub [2, 3, 4, 5, 1, 0, 6] rfl ?_
          exact s_X8_isLayingBarred_59 z1 hx hr hz1 (fun v2 v3 v4 v5 v6 σ h => ih v2 v3 v4 v5 v6 σ h) v2 v3 (v4 + ((f_X9_stepX v2))) (v5 + ((f_X9_stepY v2))) v6 σ h
        · replace h := (if_neg hc11).symm.trans h
          refine q_iconst (v := 1) hx dX8_isLayingBarred_55 (by decide) ?_
          refine q_goto hx 60 dX8_isLayingBarred_56 (by decide) ?_
          refine q_sub [2, 3, 4, 5, 1, 0, 6] rfl ?_
          exact s_X8_isLayingBarred_60 z1 hx hr hz1 (fun v2 v3 v4 v5 v6 σ h => ih v2 v3 v4 v5 v6 σ h) v2 v3 (v4 + ((f_X9_stepX v2))) (v5 + ((f_X9_stepY v2))) v6 1 σ h
def f_X8_isLayingBarred (σ : q_S) (z1 : Nat) (a2 : Int32) (a3 : Int32) : Option (Int32 × q_S) :=
  f_X8_isLayingBarred_15 z1 q_fu a2 a3 (σ z1 4) (σ z1 5) 0 σ
set_option maxHeartbeats 4000000 in
set_option maxRecDepth 100000 in
theorem c_X8_isLayingBarred (l : Launch) (G : q_G) (x : q_A) (σ : q_S) (z1 : Nat) (a2 : Int32) (a3 : Int32) (hz1 : q_isPlot z1) {res : Int32 × q_S} (h : f_X8_isLayingBarred σ z1 a2 a3 = some res) : q_Met l yX8_isLayingBarred cX8_isLayingBarred 9 (some .boolean) 4 G [.ref (G.2.1 + 1), .ref (G.2.1 + z1), .int a2, .int a3] σ x (q_Qi G x res.1 res.2) := by
  refine q_of (by decide) (Nat.le_of_ble_eq_true rfl) (fun X hl0 hx hr => ?_)
  subst hl0
  have hx : q_Cx X G RX8 cX8_isLayingBarred 9 4 := hx
  unfold f_X8_isLayingBarred at h
  show q_Wq X G x 9 (q_MQ X G (q_Qi G x res.1 res.2)) 0 0 0 [(0, .ref (G.2.1 + 1)), (1, .ref (G.2.1 + z1)), (2, .int a2), (3, .int a3)] [] σ
  refine q_aload_n hx dX8_isLayingBarred_0 1 rfl ?_
  refine q_get (v := .int (σ z1 4)) hx q_fl_X8_106 dX8_isLayingBarred_1 (q_ne hz1.1 (by decide)) (q_e6 hz1.1) rfl ?_
  refine q_istore hx [(4, .int (σ z1 4)), (0, .ref (G.2.1 + 1)), (1, .ref (G.2.1 + z1)), (2, .int a2), (3, .int a3)] dX8_isLayingBarred_4 (by decide) rfl ?_
  refine q_aload_n hx dX8_isLayingBarred_6 2 rfl ?_
  refine q_get (v := .int (σ z1 5)) hx q_fl_X8_117 dX8_isLayingBarred_7 (q_ne hz1.1 (by decide)) (q_e6 hz1.1) rfl ?_
  refine q_istore hx [(5, .int (σ z1 5)), (4, .int (σ z1 4)), (0, .ref (G.2.1 + 1)), (1, .ref (G.2.1 + z1)), (2, .int a2), (3, .int a3)] dX8_isLayingBarred_10 (by decide) rfl ?_
  refine q_iconst (v := 0) hx dX8_isLayingBarred_12 (by decide) ?_
  refine q_istore hx [(6, .int 0), (5, .int (σ z1 5)), (4, .int (σ z1 4)), (0, .ref (G.2.1 + 1)), (1, .ref (G.2.1 + z1)), (2, .int a2), (3, .int a3)] dX8_isLayingBarred_13 (by decide) rfl ?_
  refine q_sub [3, 4, 5, 6, 2, 1, 0] rfl ?_
  exact s_X8_isLayingBarred_15 z1 hx hr hz1 q_fu a2 a3 (σ z1 4) (σ z1 5) 0 σ h
-- X8_layChain
def f_X8_layChain (σ : q_S) (a1 : Int32) (a2 : Int32) (a3 : Int32) : Option (Int32 × q_S) :=
  if ((f_X2_hasSleeper σ 2 a1)) = 0 then (some (((-1), σ))) else (if ((f_X9_directionFor a2)) = ((-1)) then (some (((-2), σ))) else (if ((f_X9_isFrom a3 1 9)) = 0 then (some (((-2), σ))) else (if (σ (f_X2_plotOf 2 a1) 0) = 0 then (some (((f_X7_refuse σ 4 a1).1, (f_X7_refuse σ 4 a1).2))) else (if (σ (f_X2_plotOf 2 a1) 1) = 0 then (if (σ (f_X2_plotOf 2 a1) 6) < 16 then (Option.bind (f_X8_isLayingBarred σ ((f_X2_plotOf 2 a1)) ((f_X9_directionFor a2)) a3) (fun q7 => if q7.1 = 0 then (some ((((if 0 ≤ ((((f_X6_add q7.2 ((f_X2_plotOf 2 a1)) ((f_X9_directionFor a2)) a3)) (f_X2_plotOf 2 a1) 4) - (((f_X6_add q7.2 ((f_X2_plotOf 2 a1)) ((f_X9_directionFor a2)) a3)) (f_X2_plotOf 2 a1) 2)) then ((((f_X6_add q7.2 ((f_X2_plotOf 2 a1)) ((f_X9_directionFor a2)) a3)) (f_X2_plotOf 2 a1) 4) - (((f_X6_add q7.2 ((f_X2_plotOf 2 a1)) ((f_X9_directionFor a2)) a3)) (f_X2_plotOf 2 a1) 2)) else 0 - ((((f_X6_add q7.2 ((f_X2_plotOf 2 a1)) ((f_X9_directionFor a2)) a3)) (f_X2_plotOf 2 a1) 4) - (((f_X6_add q7.2 ((f_X2_plotOf 2 a1)) ((f_X9_directionFor a2)) a3)) (f_X2_plotOf 2 a1) 2)))) + ((if 0 ≤ ((((f_X6_add q7.2 ((f_X2_plotOf 2 a1)) ((f_X9_directionFor a2)) a3)) (f_X2_plotOf 2 a1) 5) - (((f_X6_add q7.2 ((f_X2_plotOf 2 a1)) ((f_X9_directionFor a2)) a3)) (f_X2_plotOf 2 a1) 3)) then ((((f_X6_add q7.2 ((f_X2_plotOf 2 a1)) ((f_X9_directionFor a2)) a3)) (f_X2_plotOf 2 a1) 5) - (((f_X6_add q7.2 ((f_X2_plotOf 2 a1)) ((f_X9_directionFor a2)) a3)) (f_X2_plotOf 2 a1) 3)) else 0 - ((((f_X6_add q7.2 ((f_X2_plotOf 2 a1)) ((f_X9_directionFor a2)) a3)) (f_X2_plotOf 2 a1) 5) - (((f_X6_add q7.2 ((f_X2_plotOf 2 a1)) ((f_X9_directionFor a2)) a3)) (f_X2_plotOf 2 a1) 3)))), (f_X6_add q7.2 ((f_X2_plotOf 2 a1)) ((f_X9_directionFor a2)) a3)))) else (some (((-3), q7.2))))) else (some (((f_X7_refuse σ 1 16).1, (f_X7_refuse σ 1 16).2)))) else (some (((f_X7_refuse σ 5 (σ (f_X2_plotOf 2 a1) 6)).1, (f_X7_refuse σ 5 (σ (f_X2_plotOf 2 a1) 6)).2)))))))
set_option maxHeartbeats 4000000 in
set_option maxRecDepth 100000 in
theorem c_X8_layChain (l : Launch) (G : q_G) (x : q_A) (σ : q_S) (a1 : Int32) (a2 : Int32) (a3 : Int32)  {res : Int32 × q_S} (h : f_X8_layChain σ a1 a2 a3 = some res) : q_Met l yX8_layChain cX8_layChain 6 (some .int) 5 G [.ref (G.2.1 + 1), .int a1, .int a2, .int a3] σ x (q_Qi G x res.1 res.2) := by
  refine q_of (by decide) (Nat.le_of_ble_eq_true rfl) (fun X hl0 hx hr => ?_)
  subst hl0
  have hx : q_Cx X G RX8 cX8_layChain 6 5 := hx
  unfold f_X8_layChain at h
  show q_Wq X G x 6 (q_MQ X G (q_Qi G x res.1 res.2)) 0 0 0 [(0, .ref (G.2.1 + 1)), (1, .int a1), (2, .int a2), (3, .int a3)] [] σ
  refine q_aload_n hx dX8_layChain_0 0 rfl ?_
  refine q_get (v := .ref (G.2.1 + 2)) hx q_fl_X8_12 dX8_layChain_1 (q_ne kd_1 (by decide)) (q_e8 kd_1) rfl ?_
  refine q_iload_n hx dX8_layChain_4 1 rfl ?_
  refine q_callVi (As := [.int a1]) (rest := []) hx q_kR0 (c_X2_hasSleeper (q_Xl X) G x σ 2 a1 dr_2) q_ml_X8_74 q_mn_X2_hasSleeper q_mi_X2_hasSleeper q_se_X2_hasSleeper (by decide) rfl (Nat.le_of_ble_eq_true rfl) dX8_layChain_5 (q_ne dr_2.1 (by decide)) (q_e2 dr_2.1) rfl rfl rfl ?_
  refine q_if_ne hx 13 dX8_layChain_8 (by decide) (fun hc1 => ?_) (fun hc1 => ?_)
  · replace h := (if_neg hc1).symm.trans h
    refine q_iload_n hx dX8_layChain_13 2 rfl ?_
    refine q_callSi (As := [.int a2]) (rest := []) hx q_kR0 (c_X9_directionFor (q_Xl X) G x σ a2) q_ml_X8_93 q_mn_X9_directionFor q_ms_X9_directionFor (by decide) rfl (Nat.le_of_ble_eq_true rfl) dX8_layChain_14 rfl ?_
    refine q_istore hx [(4, .int ((f_X9_directionFor a2))), (0, .ref (G.2.1 + 1)), (1, .int a1), (2, .int a2), (3, .int a3)] dX8_layChain_17 (by decide) rfl ?_
    refine q_iload hx dX8_layChain_19 0 rfl ?_
    refine q_iconst (v := (-1)) hx dX8_layChain_21 (by decide) ?_
    refine q_icmp_eq hx 35 dX8_layChain_22 (by decide) (fun hc2 => ?_) (fun hc2 => ?_)
    · replace h := (if_pos hc2).symm.trans h
      refine q_bipush (v := (-2)) hx dX8_layChain_35 (by decide) ?_
      cases h
      exact q_iret hx hr dX8_layChain_37
    · replace h := (if_neg hc2).symm.trans h
      refine q_iload_n hx dX8_layChain_25 4 rfl ?_
      refine q_iconst (v := 1) hx dX8_layChain_26 (by decide) ?_
      refine q_bipush (v := 9) hx dX8_layChain_27 (by decide) ?_
      refine q_callSi (As := [.int a3, .int 1, .int 9]) (rest := []) hx q_kR0 (c_X9_isFrom (q_Xl X) G x σ a3 1 9) q_ml_X8_25 q_mn_X9_isFrom q_ms_X9_isFrom (by decide) rfl (Nat.le_of_ble_eq_true rfl) dX8_layChain_29 rfl ?_
      refine q_if_ne hx 38 dX8_layChain_32 (by decide) (fun hc3 => ?_) (fun hc3 => ?_)
      · replace h := (if_neg hc3).symm.trans h
        refine q_aload_n hx dX8_layChain_38 1 rfl ?_
        refine q_get (v := .ref (G.2.1 + 2)) hx q_fl_X8_12 dX8_layChain_39 (q_ne kd_1 (by decide)) (q_e8 kd_1) rfl ?_
        refine q_iload_n hx dX8_layChain_42 2 rfl ?_
        refine q_callVr (As := [.int a1]) (rest := []) hx q_kR0 (c_X2_plotOf (q_Xl X) G x σ 2 a1 dr_2) q_ml_X8_45 q_mn_X2_plotOf q_mi_X2_plotOf q_se_X2_plotOf (by decide) rfl (Nat.le_of_ble_eq_true rfl) dX8_layChain_43 (q_ne dr_2.1 (by decide)) (q_e2 dr_2.1) rfl rfl rfl ?_
        refine q_astore hx [(5, .ref (G.2.1 + (f_X2_plotOf 2 a1))), (4, .int ((f_X9_directionFor a2))), (0, .ref (G.2.1 + 1)), (1, .int a1), (2, .int a2), (3, .int a3)] dX8_layChain_46 (by decide) rfl ?_
        refine q_aload hx dX8_layChain_48 0 rfl ?_
        refine q_get (v := .int (σ (f_X2_plotOf 2 a1) 0)) hx q_fl_X8_78 dX8_layChain_50 (q_ne (q_plotOf_ok dr_2 a1).1 (by decide)) (q_e6 (q_plotOf_ok dr_2 a1).1) rfl ?_
        refine q_if_ne hx 66 dX8_layChain_53 (by decide) (fun hc4 => ?_) (fun hc4 => ?_)
        · replace h := (if_neg hc4).symm.trans h
          refine q_aload hx dX8_layChain_66 0 rfl ?_
          refine q_get (v := .int (σ (f_X2_plotOf 2 a1) 1)) hx q_fl_X8_97 dX8_layChain_68 (q_ne (q_plotOf_ok dr_2 a1).1 (by decide)) (q_e6 (q_plotOf_ok dr_2 a1).1) rfl ?_
          refine q_if_eq hx 88 dX8_layChain_71 (by decide) (fun hc5 => ?_) (fun hc5 => ?_)
          · replace h := (if_pos hc5).symm.trans h
            refine q_aload hx dX8_layChain_88 0 rfl ?_
            refine q_get (v := .int (σ (f_X2_plotOf 2 a1) 6)) hx q_fl_X8_82 dX8_layChain_90 (q_ne (q_plotOf_ok dr_2 a1).1 (by decide)) (q_e6 (q_plotOf_ok dr_2 a1).1) rfl ?_
            refine q_bipush (v := 16) hx dX8_layChain_93 (by decide) ?_
            refine q_icmp_lt hx 109 dX8_layChain_95 (by decide) (fun hc6 => ?_) (fun hc6 => ?_)
            · replace h := (if_pos hc6).symm.trans h
              refine q_aload_n hx dX8_layChain_109 2 rfl ?_
              refine q_aload hx dX8_layChain_110 0 rfl ?_
              refine q_iload hx dX8_layChain_112 1 rfl ?_
              refine q_iload_n hx dX8_layChain_114 5 rfl ?_
              refine q_bindE h (fun q7 hq7 h => ?_)
              refine q_callVi (As := [.ref (G.2.1 + (f_X2_plotOf 2 a1)), .int ((f_X9_directionFor a2)), .int a3]) (rest := []) hx q_kR0 (c_X8_isLayingBarred (q_Xl X) G x σ ((f_X2_plotOf 2 a1)) ((f_X9_directionFor a2)) a3 ((q_plotOf_ok dr_2 a1)) hq7) q_ml_X8_100 q_mn_X8_isLayingBarred q_mi_X8_isLayingBarred q_se_X8_isLayingBarred (by decide) rfl (Nat.le_of_ble_eq_true rfl) dX8_layChain_115 (q_ne kd_1 (by decide)) (q_e8 kd_1) rfl rfl rfl ?_
              refine q_if_eq hx 124 dX8_layChain_118 (by decide) (fun hc8 => ?_) (fun hc8 => ?_)
              · replace h := (if_pos hc8).symm.trans h
                refine q_aload hx dX8_layChain_124 0 rfl ?_
                refine q_iload hx dX8_layChain_126 1 rfl ?_
                refine q_iload_n hx dX8_layChain_128 5 rfl ?_
                refine q_callVv (As := [.int ((f_X9_directionFor a2)), .int a3]) (rest := []) hx q_kR0 (c_X6_add (q_Xl X) G x q7.2 ((f_X2_plotOf 2 a1)) ((f_X9_directionFor a2)) a3 ((q_plotOf_ok dr_2 a1))) q_ml_X8_104 q_mn_X6_add q_mi_X6_add q_se_X6_add (by decide) rfl (Nat.le_of_ble_eq_true rfl) dX8_layChain_129 (q_ne (q_plotOf_ok dr_2 a1).1 (by decide)) (q_e6 (q_plotOf_ok dr_2 a1).1) rfl rfl rfl ?_
                refine q_aload hx dX8_layChain_132 0 rfl ?_
                refine q_get (v := .int (((f_X6_add q7.2 ((f_X2_plotOf 2 a1)) ((f_X9_directionFor a2)) a3)) (f_X2_plotOf 2 a1) 4)) hx q_fl_X8_106 dX8_layChain_134 (q_ne (q_plotOf_ok dr_2 a1).1 (by decide)) (q_e6 (q_plotOf_ok dr_2 a1).1) rfl ?_
                refine q_aload hx dX8_layChain_137 0 rfl ?_
                refine q_get (v := .int (((f_X6_add q7.2 ((f_X2_plotOf 2 a1)) ((f_X9_directionFor a2)) a3)) (f_X2_plotOf 2 a1) 2)) hx q_fl_X8_109 dX8_layChain_139 (q_ne (q_plotOf_ok dr_2 a1).1 (by decide)) (q_e6 (q_plotOf_ok dr_2 a1).1) rfl ?_
                refine q_isub hx dX8_layChain_142 ?_
                refine q_mabs hx q_kR0 (by decide) q_mml_X8_112 q_mm_abs.1 q_mm_abs.2.1 q_mm_abs.2.2 (Nat.le_of_ble_eq_true rfl) dX8_layChain_143 ?_
                refine q_aload hx dX8_layChain_146 0 rfl ?_
                refine q_get (v := .int (((f_X6_add q7.2 ((f_X2_plotOf 2 a1)) ((f_X9_directionFor a2)) a3)) (f_X2_plotOf 2 a1) 5)) hx q_fl_X8_117 dX8_layChain_148 (q_ne (q_plotOf_ok dr_2 a1).1 (by decide)) (q_e6 (q_plotOf_ok dr_2 a1).1) rfl ?_
                refine q_aload hx dX8_layChain_151 0 rfl ?_
                refine q_get (v := .int (((f_X6_add q7.2 ((f_X2_plotOf 2 a1)) ((f_X9_directionFor a2)) a3)) (f_X2_plotOf 2 a1) 3)) hx q_fl_X8_120 dX8_layChain_153 (q_ne (q_plotOf_ok dr_2 a1).1 (by decide)) (q_e6 (q_plotOf_ok dr_2 a1).1) rfl ?_
                refine q_isub hx dX8_layChain_156 ?_
                refine q_mabs hx q_kR0 (by decide) q_mml_X8_112 q_mm_abs.1 q_mm_abs.2.1 q_mm_abs.2.2 (Nat.le_of_ble_eq_true rfl) dX8_layChain_157 ?_
                refine q_iadd hx dX8_layChain_160 ?_
                cases h
                exact q_iret hx hr dX8_layChain_161
              · replace h := (if_neg hc8).symm.trans h
                refine q_bipush (v := (-3)) hx dX8_layChain_121 (by decide) ?_
                cases h
                exact q_iret hx hr dX8_layChain_123
            · replace h := (if_neg hc6).symm.trans h
              refine q_aload_n hx dX8_layChain_98 2 rfl ?_
              refine q_get (v := .ref (G.2.1 + 27)) hx q_fl_X8_21 dX8_layChain_99 (q_ne kd_1 (by decide)) (q_e8 kd_1) rfl ?_
              refine q_iconst (v := 1) hx dX8_layChain_102 (by decide) ?_
              refine q_bipush (v := 16) hx dX8_layChain_103 (by decide) ?_
              refine q_callVi (As := [.int 1, .int 16]) (rest := []) hx q_kR0 (c_X7_refuse (q_Xl X) G x σ 1 16) q_ml_X8_33 q_mn_X7_refuse q_mi_X7_refuse q_se_X7_refuse (by decide) rfl (Nat.le_of_ble_eq_true rfl) dX8_layChain_105 (q_ne kd_27 (by decide)) (q_e7 kd_27) rfl rfl rfl ?_
              cases h
              exact q_iret hx hr dX8_layChain_108
          · replace h := (if_neg hc5).symm.trans h
            refine q_aload_n hx dX8_layChain_74 2 rfl ?_
            refine q_get (v := .ref (G.2.1 + 27)) hx q_fl_X8_21 dX8_layChain_75 (q_ne kd_1 (by decide)) (q_e8 kd_1) rfl ?_
            refine q_iconst (v := 5) hx dX8_layChain_78 (by decide) ?_
            refine q_aload hx dX8_layChain_79 0 rfl ?_
            refine q_get (v := .int (σ (f_X2_plotOf 2 a1) 6)) hx q_fl_X8_82 dX8_layChain_81 (q_ne (q_plotOf_ok dr_2 a1).1 (by decide)) (q_e6 (q_plotOf_ok dr_2 a1).1) rfl ?_
            refine q_callVi (As := [.int 5, .int (σ (f_X2_plotOf 2 a1) 6)]) (rest := []) hx q_kR0 (c_X7_refuse (q_Xl X) G x σ 5 (σ (f_X2_plotOf 2 a1) 6)) q_ml_X8_33 q_mn_X7_refuse q_mi_X7_refuse q_se_X7_refuse (by decide) rfl (Nat.le_of_ble_eq_true rfl) dX8_layChain_84 (q_ne kd_27 (by decide)) (q_e7 kd_27) rfl rfl rfl ?_
            cases h
            exact q_iret hx hr dX8_layChain_87
        · replace h := (if_pos hc4).symm.trans h
          refine q_aload_n hx dX8_layChain_56 2 rfl ?_
          refine q_get (v := .ref (G.2.1 + 27)) hx q_fl_X8_21 dX8_layChain_57 (q_ne kd_1 (by decide)) (q_e8 kd_1) rfl ?_
          refine q_iconst (v := 4) hx dX8_layChain_60 (by decide) ?_
          refine q_iload_n hx dX8_layChain_61 3 rfl ?_
          refine q_callVi (As := [.int 4, .int a1]) (rest := []) hx q_kR0 (c_X7_refuse (q_Xl X) G x σ 4 a1) q_ml_X8_33 q_mn_X7_refuse q_mi_X7_refuse q_se_X7_refuse (by decide) rfl (Nat.le_of_ble_eq_true rfl) dX8_layChain_62 (q_ne kd_27 (by decide)) (q_e7 kd_27) rfl rfl rfl ?_
          cases h
          exact q_iret hx hr dX8_layChain_65
      · replace h := (if_pos hc3).symm.trans h
        refine q_bipush (v := (-2)) hx dX8_layChain_35 (by decide) ?_
        cases h
        exact q_iret hx hr dX8_layChain_37
  · replace h := (if_pos hc1).symm.trans h
    refine q_iconst (v := (-1)) hx dX8_layChain_11 (by decide) ?_
    cases h
    exact q_iret hx hr dX8_layChain_12
-- X8_isBendingBarred
def f_X8_isBendingBarred_69 (z1 : Nat) (k27 : Int32 → Int32 → Int32 → Int32 → Int32 → Int32 → Int32 → q_S → Option (Int32 × q_S)) (v2 : Int32) (v3 : Int32) (v4 : Int32) (v5 : Int32) (v6 : Int32) (v7 : Int32) (v8 : Int32) (s0 : Int32) (σ : q_S) : Option (Int32 × q_S) :=
  Option.bind (f_X6_goesOver σ z1 (v5 + ((f_X9_stepX s0))) (v6 + ((f_X9_stepY s0))) v2) (fun q6 => Option.bind (f_X8_isBarred σ (v5 + ((f_X9_stepX s0))) (v6 + ((f_X9_stepY s0))) v8 q6) (fun q7 => if q7.1 = 0 then (k27 v2 v3 v4 (v5 + ((f_X9_stepX s0))) (v6 + ((f_X9_stepY s0))) v7 (v8 + 1) q7.2) else (some ((1, q7.2)))))
set_option maxHeartbeats 4000000 in
set_option maxRecDepth 100000 in
theorem s_X8_isBendingBarred_69 {X : q_X} {G : q_G} {x : q_A} (z1 : Nat) (hx : q_Cx X G RX8 cX8_isBendingBarred 10 4) (hr : (q_Xm X).sig.returnType = some .boolean) (hz1 : q_isPlot z1) {res : Int32 × q_S} {k27 : Int32 → Int32 → Int32 → Int32 → Int32 → Int32 → Int32 → q_S → Option (Int32 × q_S)} (hk27 : ∀ (v2 : Int32) (v3 : Int32) (v4 : Int32) (v5 : Int32) (v6 : Int32) (v7 : Int32) (v8 : Int32) (σ : q_S), k27 v2 v3 v4 v5 v6 v7 v8 σ = some res → q_Wq X G x 10 (q_MQ X G (q_Qi G x res.1 res.2)) 0 0 27 [(0, .ref (G.2.1 + 1)), (1, .ref (G.2.1 + z1)), (2, .int v2), (3, .int v3), (4, .int v4), (5, .int v5), (6, .int v6), (7, .int v7), (8, .int v8)] [] σ) : ∀ (v2 : Int32) (v3 : Int32) (v4 : Int32) (v5 : Int32) (v6 : Int32) (v7 : Int32) (v8 : Int32) (s0 : Int32) (σ : q_S), f_X8_isBendingBarred_69 z1 k27 v2 v3 v4 v5 v6 v7 v8 s0 σ = some res → q_Wq X G x 10 (q_MQ X G (q_Qi G x res.1 res.2)) 0 0 69 [(0, .ref (G.2.1 + 1)), (1, .ref (G.2.1 + z1)), (2, .int v2), (3, .int v3), (4, .int v4), (5, .int v5), (6, .int v6), (7, .int v7), (8, .int v8)] [.int s0] σ := by
  intro v2 v3 v4 v5 v6 v7 v8 s0 σ h
  unfold f_X8_isBendingBarred_69 at h
  refine q_istore hx [(9, .int s0), (0, .ref (G.2.1 + 1)), (1, .ref (G.2.1 + z1)), (2, .int v2), (3, .int v3), (4, .int v4), (5, .int v5), (6, .int v6), (7, .int v7), (8, .int v8)] dX8_isBendingBarred_69 (by decide) rfl ?_
  refine q_iload hx dX8_isBendingBarred_71 6 rfl ?_
  refine q_iload hx dX8_isBendingBarred_73 0 rfl ?_
  refine q_callSi (As := [.int s0]) (rest := [.int v5]) hx q_kR0 (c_X9_stepX (q_Xl X) G x σ s0) q_ml_X8_123 q_mn_X9_stepX q_ms_X9_stepX (by decide) rfl (Nat.le_of_ble_eq_true rfl) dX8_isBendingBarred_75 rfl ?_
  refine q_iadd hx dX8_isBendingBarred_78 ?_
  refine q_istore hx [(5, .int (v5 + ((f_X9_stepX s0)))), (9, .int s0), (0, .ref (G.2.1 + 1)), (1, .ref (G.2.1 + z1)), (2, .int v2), (3, .int v3), (4, .int v4), (6, .int v6), (7, .int v7), (8, .int v8)] dX8_isBendingBarred_79 (by decide) rfl ?_
  refine q_iload hx dX8_isBendingBarred_81 7 rfl ?_
  refine q_iload hx dX8_isBendingBarred_83 1 rfl ?_
  refine q_callSi (As := [.int s0]) (rest := [.int v6]) hx q_kR0 (c_X9_stepY (q_Xl X) G x σ s0) q_ml_X8_126 q_mn_X9_stepY q_ms_X9_stepY (by decide) rfl (Nat.le_of_ble_eq_true rfl) dX8_isBendingBarred_85 rfl ?_
  refine q_iadd hx dX8_isBendingBarred_88 ?_
  refine q_istore hx [(6, .int (v6 + ((f_X9_stepY s0)))), (5, .int (v5 + ((f_X9_stepX s0)))), (9, .int s0), (0, .ref (G.2.1 + 1)), (1, .ref (G.2.1 + z1)), (2, .int v2), (3, .int v3), (4, .int v4), (7, .int v7), (8, .int v8)] dX8_isBendingBarred_89 (by decide) rfl ?_
  refine q_aload_n hx dX8_isBendingBarred_91 3 rfl ?_
  refine q_iload hx dX8_isBendingBarred_92 1 rfl ?_
  refine q_iload hx dX8_isBendingBarred_94 0 rfl ?_
  refine q_iload hx dX8_isBendingBarred_96 9 rfl ?_
  refine q_aload_n hx dX8_isBendingBarred_98 4 rfl ?_
  refine q_iload hx dX8_isBendingBarred_99 1 rfl ?_
  refine q_iload hx dX8_isBendingBarred_101 0 rfl ?_
  refine q_iload_n hx dX8_isBendingBarred_103 5 rfl ?_
  refine q_bindE h (fun q6 hq6 h => ?_)
  refine q_callVi (As := [.int (v5 + ((f_X9_stepX s0))), .int (v6 + ((f_X9_stepY s0))), .int v2]) (rest := [.int v8, .int (v6 + ((f_X9_stepY s0))), .int (v5 + ((f_X9_stepX s0))), .ref (G.2.1 + 1)]) hx q_kR0 (c_X6_goesOver (q_Xl X) G x σ z1 (v5 + ((f_X9_stepX s0))) (v6 + ((f_X9_stepY s0))) v2 hz1 hq6) q_ml_X8_129 q_mn_X6_goesOver q_mi_X6_goesOver q_se_X6_goesOver (by decide) rfl (Nat.le_of_ble_eq_true rfl) dX8_isBendingBarred_104 (q_ne hz1.1 (by decide)) (q_e6 hz1.1) rfl rfl rfl ?_
  refine q_bindE h (fun q7 hq7 h => ?_)
  refine q_callVi (As := [.int (v5 + ((f_X9_stepX s0))), .int (v6 + ((f_X9_stepY s0))), .int v8, .int q6]) (rest := []) hx q_kR0 (c_X8_isBarred (q_Xl X) G x σ (v5 + ((f_X9_stepX s0))) (v6 + ((f_X9_stepY s0))) v8 q6 hq7) q_ml_X8_132 q_mn_X8_isBarred q_mi_X8_isBarred q_se_X8_isBarred (by decide) rfl (Nat.le_of_ble_eq_true rfl) dX8_isBendingBarred_107 (q_ne kd_1 (by decide)) (q_e8 kd_1) rfl rfl rfl ?_
  refine q_if_eq hx 115 dX8_isBendingBarred_110 (by decide) (fun hc8 => ?_) (fun hc8 => ?_)
  · replace h := (if_pos hc8).symm.trans h
    refine q_iinc hx [(8, .int (v8 + 1)), (6, .int (v6 + ((f_X9_stepY s0)))), (5, .int (v5 + ((f_X9_stepX s0)))), (9, .int s0), (0, .ref (G.2.1 + 1)), (1, .ref (G.2.1 + z1)), (2, .int v2), (3, .int v3), (4, .int v4), (7, .int v7)] dX8_isBendingBarred_115 9 rfl rfl (by decide) rfl ?_
    refine q_goto hx 27 dX8_isBendingBarred_118 (by decide) ?_
    refine q_sub [4, 5, 6, 7, 8, 2, 1, 9, 0] rfl ?_
    exact hk27 v2 v3 v4 (v5 + ((f_X9_stepX s0))) (v6 + ((f_X9_stepY s0))) v7 (v8 + 1) q7.2 h
  · replace h := (if_neg hc8).symm.trans h
    refine q_iconst (v := 1) hx dX8_isBendingBarred_113 (by decide) ?_
    cases h
    exact q_zret (v := 1) hx hr rfl dX8_isBendingBarred_114
def f_X8_isBendingBarred_27 (z1 : Nat) : Nat → Int32 → Int32 → Int32 → Int32 → Int32 → Int32 → Int32 → q_S → Option (Int32 × q_S)
  | 0, _, _, _, _, _, _, _, _ => none
  | n + 1, v2, v3, v4, v5, v6, v7, v8, σ =>
    if ((v7 + v4) - 1) ≤ v8 then (some ((0, σ))) else (if v4 ≤ v8 then (if v7 ≤ v8 then (f_X8_isBendingBarred_69 z1 (f_X8_isBendingBarred_27 z1 n) v2 v3 v4 v5 v6 v7 v8 ((f_X9_oppositeOf v3)) σ) else (f_X8_isBendingBarred_69 z1 (f_X8_isBendingBarred_27 z1 n) v2 v3 v4 v5 v6 v7 v8 ((f_X6_directionOf σ z1 v2)) σ)) else (f_X8_isBendingBarred_69 z1 (f_X8_isBendingBarred_27 z1 n) v2 v3 v4 v5 v6 v7 v8 v3 σ))
set_option maxHeartbeats 4000000 in
set_option maxRecDepth 100000 in
theorem s_X8_isBendingBarred_27 {X : q_X} {G : q_G} {x : q_A} (z1 : Nat) (hx : q_Cx X G RX8 cX8_isBendingBarred 10 4) (hr : (q_Xm X).sig.returnType = some .boolean) (hz1 : q_isPlot z1) {res : Int32 × q_S} : ∀ (n : Nat) (v2 : Int32) (v3 : Int32) (v4 : Int32) (v5 : Int32) (v6 : Int32) (v7 : Int32) (v8 : Int32) (σ : q_S), f_X8_isBendingBarred_27 z1 n v2 v3 v4 v5 v6 v7 v8 σ = some res → q_Wq X G x 10 (q_MQ X G (q_Qi G x res.1 res.2)) 0 0 27 [(0, .ref (G.2.1 + 1)), (1, .ref (G.2.1 + z1)), (2, .int v2), (3, .int v3), (4, .int v4), (5, .int v5), (6, .int v6), (7, .int v7), (8, .int v8)] [] σ := by
  intro n
  induction n with
  | zero => exact fun _ _ _ _ _ _ _ _ h => nomatch (show (none : Option (Int32 × q_S)) = some res from h)
  | succ n ih =>
    intro v2 v3 v4 v5 v6 v7 v8 σ h
    rw [f_X8_isBendingBarred_27] at h
    refine q_iload hx dX8_isBendingBarred_27 8 rfl ?_
    refine q_iload hx dX8_isBendingBarred_29 7 rfl ?_
    refine q_iload hx dX8_isBendingBarred_31 4 rfl ?_
    refine q_iadd hx dX8_isBendingBarred_33 ?_
    refine q_iconst (v := 1) hx dX8_isBendingBarred_34 (by decide) ?_
    refine q_isub hx dX8_isBendingBarred_35 ?_
    refine q_icmp_ge hx 121 dX8_isBendingBarred_36 (by decide) (fun hc3 => ?_) (fun hc3 => ?_)
    · replace h := (if_pos hc3).symm.trans h
      refine q_iconst (v := 0) hx dX8_isBendingBarred_121 (by decide) ?_
      cases h
      exact q_zret (v := 0) hx hr rfl dX8_isBendingBarred_122
    · replace h := (if_neg hc3).symm.trans h
      refine q_iload hx dX8_isBendingBarred_39 8 rfl ?_
      refine q_iload hx dX8_isBendingBarred_41 4 rfl ?_
      refine q_icmp_ge hx 50 dX8_isBendingBarred_43 (by decide) (fun hc4 => ?_) (fun hc4 => ?_)
      · replace h := (if_pos hc4).symm.trans h
        refine q_iload hx dX8_isBendingBarred_50 8 rfl ?_
        refine q_iload hx dX8_isBendingBarred_52 7 rfl ?_
        refine q_icmp_ge hx 65 dX8_isBendingBarred_54 (by decide) (fun hc5 => ?_) (fun hc5 => ?_)
        · replace h := (if_pos hc5).symm.trans h
          refine q_iload_n hx dX8_isBendingBarred_65 3 rfl ?_
          refine q_callSi (As := [.int v3]) (rest := []) hx q_kR0 (c_X9_oppositeOf (q_Xl X) G x σ v3) q_ml_X8_145 q_mn_X9_oppositeOf q_ms_X9_oppositeOf (by decide) rfl (Nat.le_of_ble_eq_true rfl) dX8_isBendingBarred_66 rfl ?_
          refine q_sub [0, 1, 2, 3, 4, 5, 6, 7, 8] rfl ?_
          exact s_X8_isBendingBarred_69 z1 hx hr hz1 (fun v2 v3 v4 v5 v6 v7 v8 σ h => ih v2 v3 v4 v5 v6 v7 v8 σ h) v2 v3 v4 v5 v6 v7 v8 ((f_X9_oppositeOf v3)) σ h
        · replace h := (if_neg hc5).symm.trans h
          refine q_aload_n hx dX8_isBendingBarred_57 1 rfl ?_
          refine q_iload_n hx dX8_isBendingBarred_58 2 rfl ?_
          refine q_callVi (As := [.int v2]) (rest := []) hx q_kR0 (c_X6_directionOf (q_Xl X) G x σ z1 v2 hz1) q_ml_X8_139 q_mn_X6_directionOf q_mi_X6_directionOf q_se_X6_directionOf (by decide) rfl (Nat.le_of_ble_eq_true rfl) dX8_isBendingBarred_59 (q_ne hz1.1 (by decide)) (q_e6 hz1.1) rfl rfl rfl ?_
          refine q_goto hx 69 dX8_isBendingBarred_62 (by decide) ?_
          refine q_sub [0, 1, 2, 3, 4, 5, 6, 7, 8] rfl ?_
          exact s_X8_isBendingBarred_69 z1 hx hr hz1 (fun v2 v3 v4 v5 v6 v7 v8 σ h => ih v2 v3 v4 v5 v6 v7 v8 σ h) v2 v3 v4 v5 v6 v7 v8 ((f_X6_directionOf σ z1 v2)) σ h
      · replace h := (if_neg hc4).symm.trans h
        refine q_iload_n hx dX8_isBendingBarred_46 3 rfl ?_
        refine q_goto hx 69 dX8_isBendingBarred_47 (by decide) ?_
        refine q_sub [0, 1, 2, 3, 4, 5, 6, 7, 8] rfl ?_
        exact s_X8_isBendingBarred_69 z1 hx hr hz1 (fun v2 v3 v4 v5 v6 v7 v8 σ h => ih v2 v3 v4 v5 v6 v7 v8 σ h) v2 v3 v4 v5 v6 v7 v8 v3 σ h
def f_X8_isBendingBarred (σ : q_S) (z1 : Nat) (a2 : Int32) (a3 : Int32) (a4 : Int32) : Option (Int32 × q_S) :=
  Option.bind (f_X6_startX σ z1 a2) (fun q1 => Option.bind (f_X6_startY σ z1 a2) (fun q2 => f_X8_isBendingBarred_27 z1 q_fu a2 a3 a4 q1 q2 (a4 + ((f_X6_lengthOf σ z1 a2))) 0 σ))
set_option maxHeartbeats 4000000 in
set_option maxRecDepth 100000 in
theorem c_X8_isBendingBarred (l : Launch) (G : q_G) (x : q_A) (σ : q_S) (z1 : Nat) (a2 : Int32) (a3 : Int32) (a4 : Int32) (hz1 : q_isPlot z1) {res : Int32 × q_S} (h : f_X8_isBendingBarred σ z1 a2 a3 a4 = some res) : q_Met l yX8_isBendingBarred cX8_isBendingBarred 10 (some .boolean) 4 G [.ref (G.2.1 + 1), .ref (G.2.1 + z1), .int a2, .int a3, .int a4] σ x (q_Qi G x res.1 res.2) := by
  refine q_of (by decide) (Nat.le_of_ble_eq_true rfl) (fun X hl0 hx hr => ?_)
  subst hl0
  have hx : q_Cx X G RX8 cX8_isBendingBarred 10 4 := hx
  unfold f_X8_isBendingBarred at h
  show q_Wq X G x 10 (q_MQ X G (q_Qi G x res.1 res.2)) 0 0 0 [(0, .ref (G.2.1 + 1)), (1, .ref (G.2.1 + z1)), (2, .int a2), (3, .int a3), (4, .int a4)] [] σ
  refine q_aload_n hx dX8_isBendingBarred_0 1 rfl ?_
  refine q_iload_n hx dX8_isBendingBarred_1 2 rfl ?_
  refine q_bindE h (fun q1 hq1 h => ?_)
  refine q_callVi (As := [.int a2]) (rest := []) hx q_kR0 (c_X6_startX (q_Xl X) G x σ z1 a2 hz1 hq1) q_ml_X8_161 q_mn_X6_startX q_mi_X6_startX q_se_X6_startX (by decide) rfl (Nat.le_of_ble_eq_true rfl) dX8_isBendingBarred_2 (q_ne hz1.1 (by decide)) (q_e6 hz1.1) rfl rfl rfl ?_
  refine q_istore hx [(5, .int q1), (0, .ref (G.2.1 + 1)), (1, .ref (G.2.1 + z1)), (2, .int a2), (3, .int a3), (4, .int a4)] dX8_isBendingBarred_5 (by decide) rfl ?_
  refine q_aload_n hx dX8_isBendingBarred_7 2 rfl ?_
  refine q_iload_n hx dX8_isBendingBarred_8 3 rfl ?_
  refine q_bindE h (fun q2 hq2 h => ?_)
  refine q_callVi (As := [.int a2]) (rest := []) hx q_kR0 (c_X6_startY (q_Xl X) G x σ z1 a2 hz1 hq2) q_ml_X8_164 q_mn_X6_startY q_mi_X6_startY q_se_X6_startY (by decide) rfl (Nat.le_of_ble_eq_true rfl) dX8_isBendingBarred_9 (q_ne hz1.1 (by decide)) (q_e6 hz1.1) rfl rfl rfl ?_
  refine q_istore hx [(6, .int q2), (5, .int q1), (0, .ref (G.2.1 + 1)), (1, .ref (G.2.1 + z1)), (2, .int a2), (3, .int a3), (4, .int a4)] dX8_isBendingBarred_12 (by decide) rfl ?_
  refine q_iload hx dX8_isBendingBarred_14 6 rfl ?_
  refine q_aload_n hx dX8_isBendingBarred_16 3 rfl ?_
  refine q_iload_n hx dX8_isBendingBarred_17 4 rfl ?_
  refine q_callVi (As := [.int a2]) (rest := [.int a4]) hx q_kR0 (c_X6_lengthOf (q_Xl X) G x σ z1 a2 hz1) q_ml_X8_167 q_mn_X6_lengthOf q_mi_X6_lengthOf q_se_X6_lengthOf (by decide) rfl (Nat.le_of_ble_eq_true rfl) dX8_isBendingBarred_18 (q_ne hz1.1 (by decide)) (q_e6 hz1.1) rfl rfl rfl ?_
  refine q_iadd hx dX8_isBendingBarred_21 ?_
  refine q_istore hx [(7, .int (a4 + ((f_X6_lengthOf σ z1 a2)))), (6, .int q2), (5, .int q1), (0, .ref (G.2.1 + 1)), (1, .ref (G.2.1 + z1)), (2, .int a2), (3, .int a3), (4, .int a4)] dX8_isBendingBarred_22 (by decide) rfl ?_
  refine q_iconst (v := 0) hx dX8_isBendingBarred_24 (by decide) ?_
  refine q_istore hx [(8, .int 0), (7, .int (a4 + ((f_X6_lengthOf σ z1 a2)))), (6, .int q2), (5, .int q1), (0, .ref (G.2.1 + 1)), (1, .ref (G.2.1 + z1)), (2, .int a2), (3, .int a3), (4, .int a4)] dX8_isBendingBarred_25 (by decide) rfl ?_
  refine q_sub [4, 5, 6, 7, 8, 3, 2, 1, 0] rfl ?_
  exact s_X8_isBendingBarred_27 z1 hx hr hz1 q_fu a2 a3 a4 q1 q2 (a4 + ((f_X6_lengthOf σ z1 a2))) 0 σ h
-- X8_bendChain
def f_X8_bendChain_121 (w121_4 : Nat) (v2 : Int32) (v3 : Int32) (s0 : Int32) (σ : q_S) : Option (Int32 × q_S) :=
  Option.bind (f_X8_isBendingBarred σ w121_4 v2 s0 ((if 0 ≤ v3 then v3 else 0 - v3))) (fun q8 => if q8.1 = 0 then (Option.bind (f_X6_replaceByThree q8.2 w121_4 v2 s0 ((if 0 ≤ v3 then v3 else 0 - v3))) (fun q10 => Option.bind (f_X6_areaByChains (q_up q10 2 6 ((q10 2 6) + 1)) w121_4) (fun q11 => some ((q11, q_up q10 2 6 ((q10 2 6) + 1)))))) else (some (((-3), q8.2))))
set_option maxHeartbeats 4000000 in
set_option maxRecDepth 100000 in
theorem s_X8_bendChain_121 {X : q_X} {G : q_G} {x : q_A} (w121_4 : Nat) (hx : q_Cx X G RX8 cX8_bendChain 7 5) (hr : (q_Xm X).sig.returnType = some .int) (hw121_4 : q_isPlot w121_4) {res : Int32 × q_S} : ∀ (v2 : Int32) (v3 : Int32) (s0 : Int32) (σ : q_S), f_X8_bendChain_121 w121_4 v2 v3 s0 σ = some res → q_Wq X G x 7 (q_MQ X G (q_Qi G x res.1 res.2)) 0 0 121 [(0, .ref (G.2.1 + 1)), (2, .int v2), (3, .int v3), (4, .ref (G.2.1 + w121_4))] [.int s0] σ := by
  intro v2 v3 s0 σ h
  unfold f_X8_bendChain_121 at h
  refine q_istore hx [(6, .int s0), (0, .ref (G.2.1 + 1)), (2, .int v2), (3, .int v3), (4, .ref (G.2.1 + w121_4))] dX8_bendChain_121 (by decide) rfl ?_
  refine q_aload_n hx dX8_bendChain_123 1 rfl ?_
  refine q_aload hx dX8_bendChain_124 4 rfl ?_
  refine q_iload_n hx dX8_bendChain_126 2 rfl ?_
  refine q_iload hx dX8_bendChain_127 0 rfl ?_
  refine q_iload_n hx dX8_bendChain_129 3 rfl ?_
  refine q_mabs hx q_kR0 (by decide) q_mml_X8_112 q_mm_abs.1 q_mm_abs.2.1 q_mm_abs.2.2 (Nat.le_of_ble_eq_true rfl) dX8_bendChain_130 ?_
  refine q_bindE h (fun q8 hq8 h => ?_)
  refine q_callVi (As := [.ref (G.2.1 + w121_4), .int v2, .int s0, .int ((if 0 ≤ v3 then v3 else 0 - v3))]) (rest := []) hx q_kR0 (c_X8_isBendingBarred (q_Xl X) G x σ w121_4 v2 s0 ((if 0 ≤ v3 then v3 else 0 - v3)) hw121_4 hq8) q_ml_X8_148 q_mn_X8_isBendingBarred q_mi_X8_isBendingBarred q_se_X8_isBendingBarred (by decide) rfl (Nat.le_of_ble_eq_true rfl) dX8_bendChain_133 (q_ne kd_1 (by decide)) (q_e8 kd_1) rfl rfl rfl ?_
  refine q_if_eq hx 142 dX8_bendChain_136 (by decide) (fun hc9 => ?_) (fun hc9 => ?_)
  · replace h := (if_pos hc9).symm.trans h
    refine q_aload hx dX8_bendChain_142 4 rfl ?_
    refine q_iload_n hx dX8_bendChain_144 2 rfl ?_
    refine q_iload hx dX8_bendChain_145 0 rfl ?_
    refine q_iload_n hx dX8_bendChain_147 3 rfl ?_
    refine q_mabs hx q_kR0 (by decide) q_mml_X8_112 q_mm_abs.1 q_mm_abs.2.1 q_mm_abs.2.2 (Nat.le_of_ble_eq_true rfl) dX8_bendChain_148 ?_
    refine q_bindE h (fun q10 hq10 h => ?_)
    refine q_callVv (As := [.int v2, .int s0, .int ((if 0 ≤ v3 then v3 else 0 - v3))]) (rest := []) hx q_kR0 (c_X6_replaceByThree (q_Xl X) G x q8.2 w121_4 v2 s0 ((if 0 ≤ v3 then v3 else 0 - v3)) hw121_4 hq10) q_ml_X8_152 q_mn_X6_replaceByThree q_mi_X6_replaceByThree q_se_X6_replaceByThree (by decide) rfl (Nat.le_of_ble_eq_true rfl) dX8_bendChain_151 (q_ne hw121_4.1 (by decide)) (q_e6 hw121_4.1) rfl rfl rfl ?_
    refine q_aload_n hx dX8_bendChain_154 1 rfl ?_
    refine q_get (v := .ref (G.2.1 + 2)) hx q_fl_X8_12 dX8_bendChain_155 (q_ne kd_1 (by decide)) (q_e8 kd_1) rfl ?_
    refine q_dup hx dX8_bendChain_158 rfl ?_
    refine q_get (v := .int (q10 2 6)) hx q_fl_X8_155 dX8_bendChain_159 (q_ne dr_2.1 (by decide)) (q_e2 dr_2.1) rfl ?_
    refine q_iconst (v := 1) hx dX8_bendChain_162 (by decide) ?_
    refine q_iadd hx dX8_bendChain_163 ?_
    refine q_put (v := (q10 2 6) + 1) hx q_fl_X8_155 q_fp_2_6 dX8_bendChain_164 (q_ne dr_2.1 (by decide)) (q_e2 dr_2.1) (by rw [q_l2]; decide) rfl rfl (by rw [q_e2 dr_2.1, q_s2_6]) ?_
    refine q_aload hx dX8_bendChain_167 4 rfl ?_
    refine q_bindE h (fun q11 hq11 h => ?_)
    refine q_callVi (As := []) (rest := []) hx q_kR0 (c_X6_areaByChains (q_Xl X) G x (q_up q10 2 6 ((q10 2 6) + 1)) w121_4 hw121_4 hq11) q_ml_X8_158 q_mn_X6_areaByChains q_mi_X6_areaByChains q_se_X6_areaByChains (by decide) rfl (Nat.le_of_ble_eq_true rfl) dX8_bendChain_169 (q_ne hw121_4.1 (by decide)) (q_e6 hw121_4.1) rfl rfl rfl ?_
    cases h
    exact q_iret hx hr dX8_bendChain_172
  · replace h := (if_neg hc9).symm.trans h
    refine q_bipush (v := (-3)) hx dX8_bendChain_139 (by decide) ?_
    cases h
    exact q_iret hx hr dX8_bendChain_141
def f_X8_bendChain (σ : q_S) (a1 : Int32) (a2 : Int32) (a3 : Int32) : Option (Int32 × q_S) :=
  if ((f_X2_hasSleeper σ 2 a1)) = 0 then (some (((-1), σ))) else (if ((f_X6_hasChain σ ((f_X2_plotOf 2 a1)) a2)) = 0 then (some (((-1), σ))) else (if a3 = 0 then (some (((-2), σ))) else (if ((f_X9_isFrom a3 ((-9)) 9)) = 0 then (some (((-2), σ))) else (if (σ (f_X2_plotOf 2 a1) 1) = 0 then (some (((f_X7_refuse σ 6 (σ (f_X2_plotOf 2 a1) 6)).1, (f_X7_refuse σ 6 (σ (f_X2_plotOf 2 a1) 6)).2))) else (if ((σ (f_X2_plotOf 2 a1) 6) + 2) ≤ 16 then (if a3 ≤ 0 then (f_X8_bendChain_121 ((f_X2_plotOf 2 a1)) a2 a3 ((f_X9_oppositeOf ((f_X9_leftOf ((f_X6_directionOf σ ((f_X2_plotOf 2 a1)) a2)))))) σ) else (f_X8_bendChain_121 ((f_X2_plotOf 2 a1)) a2 a3 ((f_X9_leftOf ((f_X6_directionOf σ ((f_X2_plotOf 2 a1)) a2)))) σ)) else (some (((f_X7_refuse σ 1 16).1, (f_X7_refuse σ 1 16).2))))))))
set_option maxHeartbeats 4000000 in
set_option maxRecDepth 100000 in
theorem c_X8_bendChain (l : Launch) (G : q_G) (x : q_A) (σ : q_S) (a1 : Int32) (a2 : Int32) (a3 : Int32)  {res : Int32 × q_S} (h : f_X8_bendChain σ a1 a2 a3 = some res) : q_Met l yX8_bendChain cX8_bendChain 7 (some .int) 5 G [.ref (G.2.1 + 1), .int a1, .int a2, .int a3] σ x (q_Qi G x res.1 res.2) := by
  refine q_of (by decide) (Nat.le_of_ble_eq_true rfl) (fun X hl0 hx hr => ?_)
  subst hl0
  have hx : q_Cx X G RX8 cX8_bendChain 7 5 := hx
  unfold f_X8_bendChain at h
  show q_Wq X G x 7 (q_MQ X G (q_Qi G x res.1 res.2)) 0 0 0 [(0, .ref (G.2.1 + 1)), (1, .int a1), (2, .int a2), (3, .int a3)] [] σ
  refine q_aload_n hx dX8_bendChain_0 0 rfl ?_
  refine q_get (v := .ref (G.2.1 + 2)) hx q_fl_X8_12 dX8_bendChain_1 (q_ne kd_1 (by decide)) (q_e8 kd_1) rfl ?_
  refine q_iload_n hx dX8_bendChain_4 1 rfl ?_
  refine q_callVr (As := [.int a1]) (rest := []) hx q_kR0 (c_X2_plotOf (q_Xl X) G x σ 2 a1 dr_2) q_ml_X8_45 q_mn_X2_plotOf q_mi_X2_plotOf q_se_X2_plotOf (by decide) rfl (Nat.le_of_ble_eq_true rfl) dX8_bendChain_5 (q_ne dr_2.1 (by decide)) (q_e2 dr_2.1) rfl rfl rfl ?_
  refine q_astore hx [(4, .ref (G.2.1 + (f_X2_plotOf 2 a1))), (0, .ref (G.2.1 + 1)), (1, .int a1), (2, .int a2), (3, .int a3)] dX8_bendChain_8 (by decide) rfl ?_
  refine q_aload_n hx dX8_bendChain_10 1 rfl ?_
  refine q_get (v := .ref (G.2.1 + 2)) hx q_fl_X8_12 dX8_bendChain_11 (q_ne kd_1 (by decide)) (q_e8 kd_1) rfl ?_
  refine q_iload_n hx dX8_bendChain_14 2 rfl ?_
  refine q_callVi (As := [.int a1]) (rest := []) hx q_kR0 (c_X2_hasSleeper (q_Xl X) G x σ 2 a1 dr_2) q_ml_X8_74 q_mn_X2_hasSleeper q_mi_X2_hasSleeper q_se_X2_hasSleeper (by decide) rfl (Nat.le_of_ble_eq_true rfl) dX8_bendChain_15 (q_ne dr_2.1 (by decide)) (q_e2 dr_2.1) rfl rfl rfl ?_
  refine q_if_eq hx 30 dX8_bendChain_18 (by decide) (fun hc1 => ?_) (fun hc1 => ?_)
  · replace h := (if_pos hc1).symm.trans h
    refine q_iconst (v := (-1)) hx dX8_bendChain_30 (by decide) ?_
    cases h
    exact q_iret hx hr dX8_bendChain_31
  · replace h := (if_neg hc1).symm.trans h
    refine q_aload hx dX8_bendChain_21 0 rfl ?_
    refine q_iload_n hx dX8_bendChain_23 3 rfl ?_
    refine q_callVi (As := [.int a2]) (rest := []) hx q_kR0 (c_X6_hasChain (q_Xl X) G x σ ((f_X2_plotOf 2 a1)) a2 ((q_plotOf_ok dr_2 a1))) q_ml_X8_136 q_mn_X6_hasChain q_mi_X6_hasChain q_se_X6_hasChain (by decide) rfl (Nat.le_of_ble_eq_true rfl) dX8_bendChain_24 (q_ne (q_plotOf_ok dr_2 a1).1 (by decide)) (q_e6 (q_plotOf_ok dr_2 a1).1) rfl rfl rfl ?_
    refine q_if_ne hx 32 dX8_bendChain_27 (by decide) (fun hc2 => ?_) (fun hc2 => ?_)
    · replace h := (if_neg hc2).symm.trans h
      refine q_iload_n hx dX8_bendChain_32 4 rfl ?_
      refine q_if_eq hx 47 dX8_bendChain_33 (by decide) (fun hc3 => ?_) (fun hc3 => ?_)
      · replace h := (if_pos hc3).symm.trans h
        refine q_bipush (v := (-2)) hx dX8_bendChain_47 (by decide) ?_
        cases h
        exact q_iret hx hr dX8_bendChain_49
      · replace h := (if_neg hc3).symm.trans h
        refine q_iload_n hx dX8_bendChain_36 4 rfl ?_
        refine q_bipush (v := (-9)) hx dX8_bendChain_37 (by decide) ?_
        refine q_bipush (v := 9) hx dX8_bendChain_39 (by decide) ?_
        refine q_callSi (As := [.int a3, .int ((-9)), .int 9]) (rest := []) hx q_kR0 (c_X9_isFrom (q_Xl X) G x σ a3 ((-9)) 9) q_ml_X8_25 q_mn_X9_isFrom q_ms_X9_isFrom (by decide) rfl (Nat.le_of_ble_eq_true rfl) dX8_bendChain_41 rfl ?_
        refine q_if_ne hx 50 dX8_bendChain_44 (by decide) (fun hc4 => ?_) (fun hc4 => ?_)
        · replace h := (if_neg hc4).symm.trans h
          refine q_aload hx dX8_bendChain_50 0 rfl ?_
          refine q_get (v := .int (σ (f_X2_plotOf 2 a1) 1)) hx q_fl_X8_97 dX8_bendChain_52 (q_ne (q_plotOf_ok dr_2 a1).1 (by decide)) (q_e6 (q_plotOf_ok dr_2 a1).1) rfl ?_
          refine q_if_ne hx 73 dX8_bendChain_55 (by decide) (fun hc5 => ?_) (fun hc5 => ?_)
          · replace h := (if_neg hc5).symm.trans h
            refine q_aload hx dX8_bendChain_73 0 rfl ?_
            refine q_get (v := .int (σ (f_X2_plotOf 2 a1) 6)) hx q_fl_X8_82 dX8_bendChain_75 (q_ne (q_plotOf_ok dr_2 a1).1 (by decide)) (q_e6 (q_plotOf_ok dr_2 a1).1) rfl ?_
            refine q_iconst (v := 2) hx dX8_bendChain_78 (by decide) ?_
            refine q_iadd hx dX8_bendChain_79 ?_
            refine q_bipush (v := 16) hx dX8_bendChain_80 (by decide) ?_
            refine q_icmp_le hx 96 dX8_bendChain_82 (by decide) (fun hc6 => ?_) (fun hc6 => ?_)
            · replace h := (if_pos hc6).symm.trans h
              refine q_aload hx dX8_bendChain_96 0 rfl ?_
              refine q_iload_n hx dX8_bendChain_98 3 rfl ?_
              refine q_callVi (As := [.int a2]) (rest := []) hx q_kR0 (c_X6_directionOf (q_Xl X) G x σ ((f_X2_plotOf 2 a1)) a2 ((q_plotOf_ok dr_2 a1))) q_ml_X8_139 q_mn_X6_directionOf q_mi_X6_directionOf q_se_X6_directionOf (by decide) rfl (Nat.le_of_ble_eq_true rfl) dX8_bendChain_99 (q_ne (q_plotOf_ok dr_2 a1).1 (by decide)) (q_e6 (q_plotOf_ok dr_2 a1).1) rfl rfl rfl ?_
              refine q_callSi (As := [.int ((f_X6_directionOf σ ((f_X2_plotOf 2 a1)) a2))]) (rest := []) hx q_kR0 (c_X9_leftOf (q_Xl X) G x σ ((f_X6_directionOf σ ((f_X2_plotOf 2 a1)) a2))) q_ml_X8_142 q_mn_X9_leftOf q_ms_X9_leftOf (by decide) rfl (Nat.le_of_ble_eq_true rfl) dX8_bendChain_102 rfl ?_
              refine q_istore hx [(5, .int ((f_X9_leftOf ((f_X6_directionOf σ ((f_X2_plotOf 2 a1)) a2))))), (4, .ref (G.2.1 + (f_X2_plotOf 2 a1))), (0, .ref (G.2.1 + 1)), (1, .int a1), (2, .int a2), (3, .int a3)] dX8_bendChain_105 (by decide) rfl ?_
              refine q_iload_n hx dX8_bendChain_107 5 rfl ?_
              refine q_if_le hx 116 dX8_bendChain_108 (by decide) (fun hc7 => ?_) (fun hc7 => ?_)
              · replace h := (if_pos hc7).symm.trans h
                refine q_iload hx dX8_bendChain_116 0 rfl ?_
                refine q_callSi (As := [.int ((f_X9_leftOf ((f_X6_directionOf σ ((f_X2_plotOf 2 a1)) a2))))]) (rest := []) hx q_kR0 (c_X9_oppositeOf (q_Xl X) G x σ ((f_X9_leftOf ((f_X6_directionOf σ ((f_X2_plotOf 2 a1)) a2))))) q_ml_X8_145 q_mn_X9_oppositeOf q_ms_X9_oppositeOf (by decide) rfl (Nat.le_of_ble_eq_true rfl) dX8_bendChain_118 rfl ?_
                refine q_sub [2, 4, 5, 1] rfl ?_
                exact s_X8_bendChain_121 ((f_X2_plotOf 2 a1)) hx hr ((q_plotOf_ok dr_2 a1)) a2 a3 ((f_X9_oppositeOf ((f_X9_leftOf ((f_X6_directionOf σ ((f_X2_plotOf 2 a1)) a2)))))) σ h
              · replace h := (if_neg hc7).symm.trans h
                refine q_iload hx dX8_bendChain_111 0 rfl ?_
                refine q_goto hx 121 dX8_bendChain_113 (by decide) ?_
                refine q_sub [2, 4, 5, 1] rfl ?_
                exact s_X8_bendChain_121 ((f_X2_plotOf 2 a1)) hx hr ((q_plotOf_ok dr_2 a1)) a2 a3 ((f_X9_leftOf ((f_X6_directionOf σ ((f_X2_plotOf 2 a1)) a2)))) σ h
            · replace h := (if_neg hc6).symm.trans h
              refine q_aload_n hx dX8_bendChain_85 1 rfl ?_
              refine q_get (v := .ref (G.2.1 + 27)) hx q_fl_X8_21 dX8_bendChain_86 (q_ne kd_1 (by decide)) (q_e8 kd_1) rfl ?_
              refine q_iconst (v := 1) hx dX8_bendChain_89 (by decide) ?_
              refine q_bipush (v := 16) hx dX8_bendChain_90 (by decide) ?_
              refine q_callVi (As := [.int 1, .int 16]) (rest := []) hx q_kR0 (c_X7_refuse (q_Xl X) G x σ 1 16) q_ml_X8_33 q_mn_X7_refuse q_mi_X7_refuse q_se_X7_refuse (by decide) rfl (Nat.le_of_ble_eq_true rfl) dX8_bendChain_92 (q_ne kd_27 (by decide)) (q_e7 kd_27) rfl rfl rfl ?_
              cases h
              exact q_iret hx hr dX8_bendChain_95
          · replace h := (if_pos hc5).symm.trans h
            refine q_aload_n hx dX8_bendChain_58 1 rfl ?_
            refine q_get (v := .ref (G.2.1 + 27)) hx q_fl_X8_21 dX8_bendChain_59 (q_ne kd_1 (by decide)) (q_e8 kd_1) rfl ?_
            refine q_bipush (v := 6) hx dX8_bendChain_62 (by decide) ?_
            refine q_aload hx dX8_bendChain_64 0 rfl ?_
            refine q_get (v := .int (σ (f_X2_plotOf 2 a1) 6)) hx q_fl_X8_82 dX8_bendChain_66 (q_ne (q_plotOf_ok dr_2 a1).1 (by decide)) (q_e6 (q_plotOf_ok dr_2 a1).1) rfl ?_
            refine q_callVi (As := [.int 6, .int (σ (f_X2_plotOf 2 a1) 6)]) (rest := []) hx q_kR0 (c_X7_refuse (q_Xl X) G x σ 6 (σ (f_X2_plotOf 2 a1) 6)) q_ml_X8_33 q_mn_X7_refuse q_mi_X7_refuse q_se_X7_refuse (by decide) rfl (Nat.le_of_ble_eq_true rfl) dX8_bendChain_69 (q_ne kd_27 (by decide)) (q_e7 kd_27) rfl rfl rfl ?_
            cases h
            exact q_iret hx hr dX8_bendChain_72
        · replace h := (if_pos hc4).symm.trans h
          refine q_bipush (v := (-2)) hx dX8_bendChain_47 (by decide) ?_
          cases h
          exact q_iret hx hr dX8_bendChain_49
    · replace h := (if_pos hc2).symm.trans h
      refine q_iconst (v := (-1)) hx dX8_bendChain_30 (by decide) ?_
      cases h
      exact q_iret hx hr dX8_bendChain_31
-- X8_giveUp
def f_X8_giveUp (σ : q_S) (a1 : Int32) : Int32 × q_S :=
  if ((f_X2_hasSleeper σ 2 a1)) = 0 then (((-1), σ)) else (if (σ (f_X2_plotOf 2 a1) 0) = 0 then (((f_X7_refuse σ 4 a1).1, (f_X7_refuse σ 4 a1).2)) else ((σ (f_X2_plotOf 2 a1) 6, (f_X6_end σ ((f_X2_plotOf 2 a1))))))
set_option maxHeartbeats 4000000 in
set_option maxRecDepth 100000 in
theorem ca_X8_giveUp (l : Launch) (G : q_G) (x : q_A) (σ : q_S) (a1 : Int32)  {res : Int32 × q_S} (h : f_X8_giveUp σ a1 = res) : q_Met l yX8_giveUp cX8_giveUp 4 (some .int) 2 G [.ref (G.2.1 + 1), .int a1] σ x (q_Qi G x res.1 res.2) := by
  refine q_of (by decide) (Nat.le_of_ble_eq_true rfl) (fun X hl0 hx hr => ?_)
  subst hl0
  have hx : q_Cx X G RX8 cX8_giveUp 4 2 := hx
  unfold f_X8_giveUp at h
  show q_Wq X G x 4 (q_MQ X G (q_Qi G x res.1 res.2)) 0 0 0 [(0, .ref (G.2.1 + 1)), (1, .int a1)] [] σ
  refine q_aload_n hx dX8_giveUp_0 0 rfl ?_
  refine q_get (v := .ref (G.2.1 + 2)) hx q_fl_X8_12 dX8_giveUp_1 (q_ne kd_1 (by decide)) (q_e8 kd_1) rfl ?_
  refine q_iload_n hx dX8_giveUp_4 1 rfl ?_
  refine q_callVi (As := [.int a1]) (rest := []) hx q_kR0 (c_X2_hasSleeper (q_Xl X) G x σ 2 a1 dr_2) q_ml_X8_74 q_mn_X2_hasSleeper q_mi_X2_hasSleeper q_se_X2_hasSleeper (by decide) rfl (Nat.le_of_ble_eq_true rfl) dX8_giveUp_5 (q_ne dr_2.1 (by decide)) (q_e2 dr_2.1) rfl rfl rfl ?_
  refine q_if_ne hx 13 dX8_giveUp_8 (by decide) (fun hc1 => ?_) (fun hc1 => ?_)
  · replace h := (if_neg hc1).symm.trans h
    refine q_aload_n hx dX8_giveUp_13 0 rfl ?_
    refine q_get (v := .ref (G.2.1 + 2)) hx q_fl_X8_12 dX8_giveUp_14 (q_ne kd_1 (by decide)) (q_e8 kd_1) rfl ?_
    refine q_iload_n hx dX8_giveUp_17 1 rfl ?_
    refine q_callVr (As := [.int a1]) (rest := []) hx q_kR0 (c_X2_plotOf (q_Xl X) G x σ 2 a1 dr_2) q_ml_X8_45 q_mn_X2_plotOf q_mi_X2_plotOf q_se_X2_plotOf (by decide) rfl (Nat.le_of_ble_eq_true rfl) dX8_giveUp_18 (q_ne dr_2.1 (by decide)) (q_e2 dr_2.1) rfl rfl rfl ?_
    refine q_astore_n hx [(2, .ref (G.2.1 + (f_X2_plotOf 2 a1))), (0, .ref (G.2.1 + 1)), (1, .int a1)] dX8_giveUp_21 (by decide) rfl ?_
    refine q_aload_n hx dX8_giveUp_22 0 rfl ?_
    refine q_get (v := .int (σ (f_X2_plotOf 2 a1) 0)) hx q_fl_X8_78 dX8_giveUp_23 (q_ne (q_plotOf_ok dr_2 a1).1 (by decide)) (q_e6 (q_plotOf_ok dr_2 a1).1) rfl ?_
    refine q_if_ne hx 39 dX8_giveUp_26 (by decide) (fun hc2 => ?_) (fun hc2 => ?_)
    · replace h := (if_neg hc2).symm.trans h
      refine q_aload_n hx dX8_giveUp_39 0 rfl ?_
      refine q_get (v := .int (σ (f_X2_plotOf 2 a1) 6)) hx q_fl_X8_82 dX8_giveUp_40 (q_ne (q_plotOf_ok dr_2 a1).1 (by decide)) (q_e6 (q_plotOf_ok dr_2 a1).1) rfl ?_
      refine q_istore_n hx [(3, .int (σ (f_X2_plotOf 2 a1) 6)), (2, .ref (G.2.1 + (f_X2_plotOf 2 a1))), (0, .ref (G.2.1 + 1)), (1, .int a1)] dX8_giveUp_43 (by decide) rfl ?_
      refine q_aload_n hx dX8_giveUp_44 1 rfl ?_
      refine q_callVv (As := []) (rest := []) hx q_kR0 (c_X6_end (q_Xl X) G x σ ((f_X2_plotOf 2 a1)) ((q_plotOf_ok dr_2 a1))) q_ml_X8_49 q_mn_X6_end q_mi_X6_end q_se_X6_end (by decide) rfl (Nat.le_of_ble_eq_true rfl) dX8_giveUp_45 (q_ne (q_plotOf_ok dr_2 a1).1 (by decide)) (q_e6 (q_plotOf_ok dr_2 a1).1) rfl rfl rfl ?_
      refine q_iload_n hx dX8_giveUp_48 0 rfl ?_
      subst h
      exact q_iret hx hr dX8_giveUp_49
    · replace h := (if_pos hc2).symm.trans h
      refine q_aload_n hx dX8_giveUp_29 1 rfl ?_
      refine q_get (v := .ref (G.2.1 + 27)) hx q_fl_X8_21 dX8_giveUp_30 (q_ne kd_1 (by decide)) (q_e8 kd_1) rfl ?_
      refine q_iconst (v := 4) hx dX8_giveUp_33 (by decide) ?_
      refine q_iload_n hx dX8_giveUp_34 2 rfl ?_
      refine q_callVi (As := [.int 4, .int a1]) (rest := []) hx q_kR0 (c_X7_refuse (q_Xl X) G x σ 4 a1) q_ml_X8_33 q_mn_X7_refuse q_mi_X7_refuse q_se_X7_refuse (by decide) rfl (Nat.le_of_ble_eq_true rfl) dX8_giveUp_35 (q_ne kd_27 (by decide)) (q_e7 kd_27) rfl rfl rfl ?_
      subst h
      exact q_iret hx hr dX8_giveUp_38
  · replace h := (if_pos hc1).symm.trans h
    refine q_iconst (v := (-1)) hx dX8_giveUp_11 (by decide) ?_
    subst h
    exact q_iret hx hr dX8_giveUp_12
theorem c_X8_giveUp (l : Launch) (G : q_G) (x : q_A) (σ : q_S) (a1 : Int32)  : q_Met l yX8_giveUp cX8_giveUp 4 (some .int) 2 G [.ref (G.2.1 + 1), .int a1] σ x (q_Qi G x (f_X8_giveUp σ a1).1 (f_X8_giveUp σ a1).2) := ca_X8_giveUp l G x σ a1 rfl
-- X8_giveDepth
def f_X8_giveDepth (σ : q_S) (a1 : Int32) (a2 : Int32) : Int32 × q_S :=
  if ((f_X2_hasSleeper σ 2 a1)) = 0 then (((-1), σ)) else (if ((f_X9_isFrom a2 0 9)) = 0 then (((-2), σ)) else (if ((f_X2_depthOf σ 2 a1)) = a2 then (((f_X7_refuse σ 10 a2).1, (f_X7_refuse σ 10 a2).2)) else (((f_X2_depthOf σ 2 a1), (f_X9_setNumberAt σ 3 5 a1 a2)))))
set_option maxHeartbeats 4000000 in
set_option maxRecDepth 100000 in
theorem ca_X8_giveDepth (l : Launch) (G : q_G) (x : q_A) (σ : q_S) (a1 : Int32) (a2 : Int32)  {res : Int32 × q_S} (h : f_X8_giveDepth σ a1 a2 = res) : q_Met l yX8_giveDepth cX8_giveDepth 4 (some .int) 3 G [.ref (G.2.1 + 1), .int a1, .int a2] σ x (q_Qi G x res.1 res.2) := by
  refine q_of (by decide) (Nat.le_of_ble_eq_true rfl) (fun X hl0 hx hr => ?_)
  subst hl0
  have hx : q_Cx X G RX8 cX8_giveDepth 4 3 := hx
  unfold f_X8_giveDepth at h
  show q_Wq X G x 4 (q_MQ X G (q_Qi G x res.1 res.2)) 0 0 0 [(0, .ref (G.2.1 + 1)), (1, .int a1), (2, .int a2)] [] σ
  refine q_aload_n hx dX8_giveDepth_0 0 rfl ?_
  refine q_get (v := .ref (G.2.1 + 2)) hx q_fl_X8_12 dX8_giveDepth_1 (q_ne kd_1 (by decide)) (q_e8 kd_1) rfl ?_
  refine q_iload_n hx dX8_giveDepth_4 1 rfl ?_
  refine q_callVi (As := [.int a1]) (rest := []) hx q_kR0 (c_X2_hasSleeper (q_Xl X) G x σ 2 a1 dr_2) q_ml_X8_74 q_mn_X2_hasSleeper q_mi_X2_hasSleeper q_se_X2_hasSleeper (by decide) rfl (Nat.le_of_ble_eq_true rfl) dX8_giveDepth_5 (q_ne dr_2.1 (by decide)) (q_e2 dr_2.1) rfl rfl rfl ?_
  refine q_if_ne hx 13 dX8_giveDepth_8 (by decide) (fun hc1 => ?_) (fun hc1 => ?_)
  · replace h := (if_neg hc1).symm.trans h
    refine q_iload_n hx dX8_giveDepth_13 2 rfl ?_
    refine q_iconst (v := 0) hx dX8_giveDepth_14 (by decide) ?_
    refine q_bipush (v := 9) hx dX8_giveDepth_15 (by decide) ?_
    refine q_callSi (As := [.int a2, .int 0, .int 9]) (rest := []) hx q_kR0 (c_X9_isFrom (q_Xl X) G x σ a2 0 9) q_ml_X8_25 q_mn_X9_isFrom q_ms_X9_isFrom (by decide) rfl (Nat.le_of_ble_eq_true rfl) dX8_giveDepth_17 rfl ?_
    refine q_if_ne hx 26 dX8_giveDepth_20 (by decide) (fun hc2 => ?_) (fun hc2 => ?_)
    · replace h := (if_neg hc2).symm.trans h
      refine q_aload_n hx dX8_giveDepth_26 0 rfl ?_
      refine q_get (v := .ref (G.2.1 + 2)) hx q_fl_X8_12 dX8_giveDepth_27 (q_ne kd_1 (by decide)) (q_e8 kd_1) rfl ?_
      refine q_iload_n hx dX8_giveDepth_30 1 rfl ?_
      refine q_callVi (As := [.int a1]) (rest := []) hx q_kR0 (c_X2_depthOf (q_Xl X) G x σ 2 a1 dr_2) q_ml_X8_176 q_mn_X2_depthOf q_mi_X2_depthOf q_se_X2_depthOf (by decide) rfl (Nat.le_of_ble_eq_true rfl) dX8_giveDepth_31 (q_ne dr_2.1 (by decide)) (q_e2 dr_2.1) rfl rfl rfl ?_
      refine q_istore_n hx [(3, .int ((f_X2_depthOf σ 2 a1))), (0, .ref (G.2.1 + 1)), (1, .int a1), (2, .int a2)] dX8_giveDepth_34 (by decide) rfl ?_
      refine q_iload_n hx dX8_giveDepth_35 0 rfl ?_
      refine q_iload_n hx dX8_giveDepth_36 3 rfl ?_
      refine q_icmp_ne hx 51 dX8_giveDepth_37 (by decide) (fun hc3 => ?_) (fun hc3 => ?_)
      · replace h := (if_neg hc3).symm.trans h
        refine q_aload_n hx dX8_giveDepth_51 1 rfl ?_
        refine q_get (v := .ref (G.2.1 + 2)) hx q_fl_X8_12 dX8_giveDepth_52 (q_ne kd_1 (by decide)) (q_e8 kd_1) rfl ?_
        refine q_get (v := .ref (G.2.1 + 3)) hx q_fl_X8_37 dX8_giveDepth_55 (q_ne dr_2.1 (by decide)) (q_e2 dr_2.1) rfl ?_
        refine q_iload_n hx dX8_giveDepth_58 2 rfl ?_
        refine q_iload_n hx dX8_giveDepth_59 3 rfl ?_
        refine q_callSv (As := [.ref (G.2.1 + 3), .int a1, .int a2]) (rest := []) hx q_kR0 (c_X9_setNumberAt (q_Xl X) G x σ 3 5 a1 a2 kd_3) q_ml_X8_41 q_mn_X9_setNumberAt q_ms_X9_setNumberAt (by decide) rfl (Nat.le_of_ble_eq_true rfl) dX8_giveDepth_60 rfl ?_
        refine q_iload_n hx dX8_giveDepth_63 0 rfl ?_
        subst h
        exact q_iret hx hr dX8_giveDepth_64
      · replace h := (if_pos hc3).symm.trans h
        refine q_aload_n hx dX8_giveDepth_40 1 rfl ?_
        refine q_get (v := .ref (G.2.1 + 27)) hx q_fl_X8_21 dX8_giveDepth_41 (q_ne kd_1 (by decide)) (q_e8 kd_1) rfl ?_
        refine q_bipush (v := 10) hx dX8_giveDepth_44 (by decide) ?_
        refine q_iload_n hx dX8_giveDepth_46 3 rfl ?_
        refine q_callVi (As := [.int 10, .int a2]) (rest := []) hx q_kR0 (c_X7_refuse (q_Xl X) G x σ 10 a2) q_ml_X8_33 q_mn_X7_refuse q_mi_X7_refuse q_se_X7_refuse (by decide) rfl (Nat.le_of_ble_eq_true rfl) dX8_giveDepth_47 (q_ne kd_27 (by decide)) (q_e7 kd_27) rfl rfl rfl ?_
        subst h
        exact q_iret hx hr dX8_giveDepth_50
    · replace h := (if_pos hc2).symm.trans h
      refine q_bipush (v := (-2)) hx dX8_giveDepth_23 (by decide) ?_
      subst h
      exact q_iret hx hr dX8_giveDepth_25
  · replace h := (if_pos hc1).symm.trans h
    refine q_iconst (v := (-1)) hx dX8_giveDepth_11 (by decide) ?_
    subst h
    exact q_iret hx hr dX8_giveDepth_12
theorem c_X8_giveDepth (l : Launch) (G : q_G) (x : q_A) (σ : q_S) (a1 : Int32) (a2 : Int32)  : q_Met l yX8_giveDepth cX8_giveDepth 4 (some .int) 3 G [.ref (G.2.1 + 1), .int a1, .int a2] σ x (q_Qi G x (f_X8_giveDepth σ a1 a2).1 (f_X8_giveDepth σ a1 a2).2) := ca_X8_giveDepth l G x σ a1 a2 rfl
-- X8_letHoursGoBy
def f_X8_letHoursGoBy_23 : Nat → Int32 → Int32 → Int32 → q_S → Option (Int32 × q_S)
  | 0, _, _, _, _ => none
  | n + 1, v1, v2, v3, σ =>
    if (σ 2 0) ≤ v3 then (Option.bind (f_X2_countAwake (q_up σ 2 5 ((σ 2 5) + v1)) 2) (fun q4 => some ((q4 - v2, q_up σ 2 5 ((σ 2 5) + v1))))) else (f_X8_letHoursGoBy_23 n v1 v2 (v3 + 1) ((f_X9_setNumberAt σ 3 5 v3 ((if 0 < (((f_X2_depthOf σ 2 v3)) - v1) then (((f_X2_depthOf σ 2 v3)) - v1) else 0)))))
set_option maxHeartbeats 4000000 in
set_option maxRecDepth 100000 in
theorem s_X8_letHoursGoBy_23 {X : q_X} {G : q_G} {x : q_A} (hx : q_Cx X G RX8 cX8_letHoursGoBy 4 4) (hr : (q_Xm X).sig.returnType = some .int) {res : Int32 × q_S} : ∀ (n : Nat) (v1 : Int32) (v2 : Int32) (v3 : Int32) (σ : q_S), f_X8_letHoursGoBy_23 n v1 v2 v3 σ = some res → q_Wq X G x 4 (q_MQ X G (q_Qi G x res.1 res.2)) 0 0 23 [(0, .ref (G.2.1 + 1)), (1, .int v1), (2, .int v2), (3, .int v3)] [] σ := by
  intro n
  induction n with
  | zero => exact fun _ _ _ _ h => nomatch (show (none : Option (Int32 × q_S)) = some res from h)
  | succ n ih =>
    intro v1 v2 v3 σ h
    rw [f_X8_letHoursGoBy_23] at h
    refine q_iload_n hx dX8_letHoursGoBy_23 3 rfl ?_
    refine q_aload_n hx dX8_letHoursGoBy_24 0 rfl ?_
    refine q_get (v := .ref (G.2.1 + 2)) hx q_fl_X8_12 dX8_letHoursGoBy_25 (q_ne kd_1 (by decide)) (q_e8 kd_1) rfl ?_
    refine q_get (v := .int (σ 2 0)) hx q_fl_X8_29 dX8_letHoursGoBy_28 (q_ne dr_2.1 (by decide)) (q_e2 dr_2.1) rfl ?_
    refine q_icmp_ge hx 65 dX8_letHoursGoBy_31 (by decide) (fun hc3 => ?_) (fun hc3 => ?_)
    · replace h := (if_pos hc3).symm.trans h
      refine q_aload_n hx dX8_letHoursGoBy_65 0 rfl ?_
      refine q_get (v := .ref (G.2.1 + 2)) hx q_fl_X8_12 dX8_letHoursGoBy_66 (q_ne kd_1 (by decide)) (q_e8 kd_1) rfl ?_
      refine q_dup hx dX8_letHoursGoBy_69 rfl ?_
      refine q_get (v := .int (σ 2 5)) hx q_fl_X8_170 dX8_letHoursGoBy_70 (q_ne dr_2.1 (by decide)) (q_e2 dr_2.1) rfl ?_
      refine q_iload_n hx dX8_letHoursGoBy_73 1 rfl ?_
      refine q_iadd hx dX8_letHoursGoBy_74 ?_
      refine q_put (v := (σ 2 5) + v1) hx q_fl_X8_170 q_fp_2_5 dX8_letHoursGoBy_75 (q_ne dr_2.1 (by decide)) (q_e2 dr_2.1) (by rw [q_l2]; decide) rfl rfl (by rw [q_e2 dr_2.1, q_s2_5]) ?_
      refine q_aload_n hx dX8_letHoursGoBy_78 0 rfl ?_
      refine q_get (v := .ref (G.2.1 + 2)) hx q_fl_X8_12 dX8_letHoursGoBy_79 (q_ne kd_1 (by decide)) (q_e8 kd_1) rfl ?_
      refine q_bindE h (fun q4 hq4 h => ?_)
      refine q_callVi (As := []) (rest := []) hx q_kR0 (c_X2_countAwake (q_Xl X) G x (q_up σ 2 5 ((σ 2 5) + v1)) 2 dr_2 hq4) q_ml_X8_179 q_mn_X2_countAwake q_mi_X2_countAwake q_se_X2_countAwake (by decide) rfl (Nat.le_of_ble_eq_true rfl) dX8_letHoursGoBy_82 (q_ne dr_2.1 (by decide)) (q_e2 dr_2.1) rfl rfl rfl ?_
      refine q_iload_n hx dX8_letHoursGoBy_85 2 rfl ?_
      refine q_isub hx dX8_letHoursGoBy_86 ?_
      cases h
      exact q_iret hx hr dX8_letHoursGoBy_87
    · replace h := (if_neg hc3).symm.trans h
      refine q_aload_n hx dX8_letHoursGoBy_34 0 rfl ?_
      refine q_get (v := .ref (G.2.1 + 2)) hx q_fl_X8_12 dX8_letHoursGoBy_35 (q_ne kd_1 (by decide)) (q_e8 kd_1) rfl ?_
      refine q_get (v := .ref (G.2.1 + 3)) hx q_fl_X8_37 dX8_letHoursGoBy_38 (q_ne dr_2.1 (by decide)) (q_e2 dr_2.1) rfl ?_
      refine q_iload_n hx dX8_letHoursGoBy_41 3 rfl ?_
      refine q_iconst (v := 0) hx dX8_letHoursGoBy_42 (by decide) ?_
      refine q_aload_n hx dX8_letHoursGoBy_43 0 rfl ?_
      refine q_get (v := .ref (G.2.1 + 2)) hx q_fl_X8_12 dX8_letHoursGoBy_44 (q_ne kd_1 (by decide)) (q_e8 kd_1) rfl ?_
      refine q_iload_n hx dX8_letHoursGoBy_47 3 rfl ?_
      refine q_callVi (As := [.int v3]) (rest := [.int 0, .int v3, .ref (G.2.1 + 3)]) hx q_kR0 (c_X2_depthOf (q_Xl X) G x σ 2 v3 dr_2) q_ml_X8_176 q_mn_X2_depthOf q_mi_X2_depthOf q_se_X2_depthOf (by decide) rfl (Nat.le_of_ble_eq_true rfl) dX8_letHoursGoBy_48 (q_ne dr_2.1 (by decide)) (q_e2 dr_2.1) rfl rfl rfl ?_
      refine q_iload_n hx dX8_letHoursGoBy_51 1 rfl ?_
      refine q_isub hx dX8_letHoursGoBy_52 ?_
      refine q_mmax hx q_kR0 (by decide) q_mml_X8_182 q_mm_max.1 q_mm_max.2.1 q_mm_max.2.2 (Nat.le_of_ble_eq_true rfl) dX8_letHoursGoBy_53 ?_
      refine q_callSv (As := [.ref (G.2.1 + 3), .int v3, .int ((if 0 < (((f_X2_depthOf σ 2 v3)) - v1) then (((f_X2_depthOf σ 2 v3)) - v1) else 0))]) (rest := []) hx q_kR0 (c_X9_setNumberAt (q_Xl X) G x σ 3 5 v3 ((if 0 < (((f_X2_depthOf σ 2 v3)) - v1) then (((f_X2_depthOf σ 2 v3)) - v1) else 0)) kd_3) q_ml_X8_41 q_mn_X9_setNumberAt q_ms_X9_setNumberAt (by decide) rfl (Nat.le_of_ble_eq_true rfl) dX8_letHoursGoBy_56 rfl ?_
      refine q_iinc hx [(3, .int (v3 + 1)), (0, .ref (G.2.1 + 1)), (1, .int v1), (2, .int v2)] dX8_letHoursGoBy_59 3 rfl rfl (by decide) rfl ?_
      refine q_goto hx 23 dX8_letHoursGoBy_62 (by decide) ?_
      refine q_sub [1, 2, 3, 0] rfl ?_
      exact ih v1 v2 (v3 + 1) ((f_X9_setNumberAt σ 3 5 v3 ((if 0 < (((f_X2_depthOf σ 2 v3)) - v1) then (((f_X2_depthOf σ 2 v3)) - v1) else 0)))) h
def f_X8_letHoursGoBy (σ : q_S) (a1 : Int32) : Option (Int32 × q_S) :=
  if ((f_X9_isFrom a1 1 20)) = 0 then (some (((-2), σ))) else (Option.bind (f_X2_countAwake σ 2) (fun q2 => f_X8_letHoursGoBy_23 q_fu a1 q2 0 σ))
set_option maxHeartbeats 4000000 in
set_option maxRecDepth 100000 in
theorem c_X8_letHoursGoBy (l : Launch) (G : q_G) (x : q_A) (σ : q_S) (a1 : Int32)  {res : Int32 × q_S} (h : f_X8_letHoursGoBy σ a1 = some res) : q_Met l yX8_letHoursGoBy cX8_letHoursGoBy 4 (some .int) 4 G [.ref (G.2.1 + 1), .int a1] σ x (q_Qi G x res.1 res.2) := by
  refine q_of (by decide) (Nat.le_of_ble_eq_true rfl) (fun X hl0 hx hr => ?_)
  subst hl0
  have hx : q_Cx X G RX8 cX8_letHoursGoBy 4 4 := hx
  unfold f_X8_letHoursGoBy at h
  show q_Wq X G x 4 (q_MQ X G (q_Qi G x res.1 res.2)) 0 0 0 [(0, .ref (G.2.1 + 1)), (1, .int a1)] [] σ
  refine q_iload_n hx dX8_letHoursGoBy_0 1 rfl ?_
  refine q_iconst (v := 1) hx dX8_letHoursGoBy_1 (by decide) ?_
  refine q_bipush (v := 20) hx dX8_letHoursGoBy_2 (by decide) ?_
  refine q_callSi (As := [.int a1, .int 1, .int 20]) (rest := []) hx q_kR0 (c_X9_isFrom (q_Xl X) G x σ a1 1 20) q_ml_X8_25 q_mn_X9_isFrom q_ms_X9_isFrom (by decide) rfl (Nat.le_of_ble_eq_true rfl) dX8_letHoursGoBy_4 rfl ?_
  refine q_if_ne hx 13 dX8_letHoursGoBy_7 (by decide) (fun hc1 => ?_) (fun hc1 => ?_)
  · replace h := (if_neg hc1).symm.trans h
    refine q_aload_n hx dX8_letHoursGoBy_13 0 rfl ?_
    refine q_get (v := .ref (G.2.1 + 2)) hx q_fl_X8_12 dX8_letHoursGoBy_14 (q_ne kd_1 (by decide)) (q_e8 kd_1) rfl ?_
    refine q_bindE h (fun q2 hq2 h => ?_)
    refine q_callVi (As := []) (rest := []) hx q_kR0 (c_X2_countAwake (q_Xl X) G x σ 2 dr_2 hq2) q_ml_X8_179 q_mn_X2_countAwake q_mi_X2_countAwake q_se_X2_countAwake (by decide) rfl (Nat.le_of_ble_eq_true rfl) dX8_letHoursGoBy_17 (q_ne dr_2.1 (by decide)) (q_e2 dr_2.1) rfl rfl rfl ?_
    refine q_istore_n hx [(2, .int q2), (0, .ref (G.2.1 + 1)), (1, .int a1)] dX8_letHoursGoBy_20 (by decide) rfl ?_
    refine q_iconst (v := 0) hx dX8_letHoursGoBy_21 (by decide) ?_
    refine q_istore_n hx [(3, .int 0), (2, .int q2), (0, .ref (G.2.1 + 1)), (1, .int a1)] dX8_letHoursGoBy_22 (by decide) rfl ?_
    refine q_sub [2, 3, 1, 0] rfl ?_
    exact s_X8_letHoursGoBy_23 hx hr q_fu a1 q2 0 σ h
  · replace h := (if_pos hc1).symm.trans h
    refine q_bipush (v := (-2)) hx dX8_letHoursGoBy_10 (by decide) ?_
    cases h
    exact q_iret hx hr dX8_letHoursGoBy_12
