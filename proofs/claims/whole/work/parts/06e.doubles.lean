-- X9_meanDepth
def f_X9_meanDepth (σ : q_S) : Option (Nat × UInt64) :=
  if (σ 2 0) = 0 then (some ((6, 0))) else (Option.bind (f_X2_sumOfDepths σ 2) (fun q2 => if q_n64 (FP.ddiv (FP.i2d q2) (FP.i2d (σ 2 0))) = true then some ((0, FP.ddiv (FP.i2d q2) (FP.i2d (σ 2 0)))) else none))
set_option maxHeartbeats 4000000 in
set_option maxRecDepth 100000 in
theorem c_X9_meanDepth (l : Launch) (G : q_G) (x : q_A) (σ : q_S)   {res : Nat × UInt64} (h : f_X9_meanDepth σ = some res) (hfl : l.stackTraces = false) : q_MetX l yX9_meanDepth cX9_meanDepth 1 (some .double) 7 G [.ref (G.2.1 + 0)] σ x (q_QdX G x res.1 res.2 σ) res.1 σ := by
  refine q_ofX (by decide) (Nat.le_of_ble_eq_true rfl) (fun X hl0 hx hr hE hR6 => ?_)
  subst hl0
  have hx : q_Cx X G RX9 cX9_meanDepth 1 7 := hx
  unfold f_X9_meanDepth at h
  show q_Wq X G x 1 (q_MQX X G x (q_QdX G x res.1 res.2 σ) res.1 σ) 0 0 0 [(0, .ref (G.2.1 + 0))] [] σ
  refine q_aload_n hx dX9_meanDepth_0 0 rfl ?_
  refine q_get (v := .ref (G.2.1 + 2)) hx q_fl_X9_20 dX9_meanDepth_1 (q_ne kd_0 (by decide)) (q_e9 kd_0) rfl ?_
  refine q_get (v := .int (σ 2 0)) hx q_fl_X9_280 dX9_meanDepth_4 (q_ne dr_2.1 (by decide)) (q_e2 dr_2.1) rfl ?_
  refine q_if_ne hx 21 dX9_meanDepth_7 (by decide) (fun hc1 => ?_) (fun hc1 => ?_)
  · replace h := (if_neg hc1).symm.trans h
    refine q_aload_n hx dX9_meanDepth_21 0 rfl ?_
    refine q_get (v := .ref (G.2.1 + 2)) hx q_fl_X9_20 dX9_meanDepth_22 (q_ne kd_0 (by decide)) (q_e9 kd_0) rfl ?_
    refine q_bindE h (fun q2 hq2 h => ?_)
    refine q_callVi (As := []) (rest := []) hx q_kR0 (c_X2_sumOfDepths (q_Xl X) G x σ 2 dr_2 hq2) q_ml_X9_400 q_mn_X2_sumOfDepths q_mi_X2_sumOfDepths q_se_X2_sumOfDepths (by decide) rfl (Nat.le_of_ble_eq_true rfl) dX9_meanDepth_25 (q_ne dr_2.1 (by decide)) (q_e2 dr_2.1) rfl rfl rfl ?_
    refine q_i2d hx dX9_meanDepth_28 ?_
    refine q_aload_n hx dX9_meanDepth_29 0 rfl ?_
    refine q_get (v := .ref (G.2.1 + 2)) hx q_fl_X9_20 dX9_meanDepth_30 (q_ne kd_0 (by decide)) (q_e9 kd_0) rfl ?_
    refine q_get (v := .int (σ 2 0)) hx q_fl_X9_280 dX9_meanDepth_33 (q_ne dr_2.1 (by decide)) (q_e2 dr_2.1) rfl ?_
    refine q_i2d hx dX9_meanDepth_36 ?_
    by_cases hg3 : q_n64 (FP.ddiv (FP.i2d q2) (FP.i2d (σ 2 0))) = true
    case neg => rw [if_neg hg3] at h; exact nomatch h
    replace h := (if_pos hg3).symm.trans h
    refine q_ddiv hx dX9_meanDepth_37 (q_n64.v hg3) ?_
    cases h
    exact q_dretX hx hr dX9_meanDepth_38
  · replace h := (if_pos hc1).symm.trans h
    cases h
    exact q_throwSW hx hE hR6 (by decide) hfl q_th_X9_395_397_399 6 (by decide) rfl (by decide) dX9_meanDepth_10 dX9_meanDepth_13 dX9_meanDepth_14 dX9_meanDepth_17 dX9_meanDepth_20
-- X9_ownedShare
def f_X9_ownedShare (σ : q_S) : Option (UInt32 × q_S) :=
  Option.bind (f_X0_survey σ 2 0) (fun q1 => Option.bind (f_X0_countOwned q1) (fun q2 => if q_n32 (FP.fdiv (FP.i2f q2) 1119879168) = true then some ((FP.fdiv (FP.i2f q2) 1119879168, q1)) else none))
set_option maxHeartbeats 4000000 in
set_option maxRecDepth 100000 in
theorem c_X9_ownedShare (l : Launch) (G : q_G) (x : q_A) (σ : q_S)   {res : UInt32 × q_S} (h : f_X9_ownedShare σ = some res) : q_Met l yX9_ownedShare cX9_ownedShare 1 (some .float) 6 G [.ref (G.2.1 + 0)] σ x (q_Qf G x res.1 res.2) := by
  refine q_of (by decide) (Nat.le_of_ble_eq_true rfl) (fun X hl0 hx hr => ?_)
  subst hl0
  have hx : q_Cx X G RX9 cX9_ownedShare 1 6 := hx
  unfold f_X9_ownedShare at h
  show q_Wq X G x 1 (q_MQ X G (q_Qf G x res.1 res.2)) 0 0 0 [(0, .ref (G.2.1 + 0))] [] σ
  refine q_aload_n hx dX9_ownedShare_0 0 rfl ?_
  refine q_get (v := .ref (G.2.1 + 280)) hx q_fl_X9_50 dX9_ownedShare_1 (q_ne kd_0 (by decide)) (q_e9 kd_0) rfl ?_
  refine q_aload_n hx dX9_ownedShare_4 0 rfl ?_
  refine q_get (v := .ref (G.2.1 + 2)) hx q_fl_X9_20 dX9_ownedShare_5 (q_ne kd_0 (by decide)) (q_e9 kd_0) rfl ?_
  refine q_iconst (v := 0) hx dX9_ownedShare_8 (by decide) ?_
  refine q_bindE h (fun q1 hq1 h => ?_)
  refine q_callVv (As := [.ref (G.2.1 + 2), .int 0]) (rest := []) hx q_kR0 (c_X0_survey (q_Xl X) G x σ 2 0 dr_2 hq1) q_ml_X9_176 q_mn_X0_survey q_mi_X0_survey q_se_X0_survey (by decide) rfl (Nat.le_of_ble_eq_true rfl) dX9_ownedShare_9 (q_ne kd_280 (by decide)) (q_e0 kd_280) rfl rfl rfl ?_
  refine q_aload_n hx dX9_ownedShare_12 0 rfl ?_
  refine q_get (v := .ref (G.2.1 + 280)) hx q_fl_X9_50 dX9_ownedShare_13 (q_ne kd_0 (by decide)) (q_e9 kd_0) rfl ?_
  refine q_bindE h (fun q2 hq2 h => ?_)
  refine q_callVi (As := []) (rest := []) hx q_kR0 (c_X0_countOwned (q_Xl X) G x q1  hq2) q_ml_X9_386 q_mn_X0_countOwned q_mi_X0_countOwned q_se_X0_countOwned (by decide) rfl (Nat.le_of_ble_eq_true rfl) dX9_ownedShare_16 (q_ne kd_280 (by decide)) (q_e0 kd_280) rfl rfl rfl ?_
  refine q_i2f hx dX9_ownedShare_19 ?_
  refine q_ldcwf hx q_fc_X9_403 dX9_ownedShare_20 ?_
  by_cases hg3 : q_n32 (FP.fdiv (FP.i2f q2) 1119879168) = true
  case neg => rw [if_neg hg3] at h; exact nomatch h
  replace h := (if_pos hg3).symm.trans h
  refine q_fdiv hx dX9_ownedShare_23 (q_n32.v hg3) ?_
  cases h
  exact q_fret hx hr dX9_ownedShare_24
-- X10_meanDepth
def f_X10_meanDepth_17 (v1 : Int32) (s0 : Int32) (σ : q_S) : Option (UInt64 × q_S) :=
  if v1 = 0 then (some ((FP.dconst0, q_up σ 292 4 s0))) else (Option.bind (f_X10_sumOf (q_up σ 292 4 s0) 0) (fun q3 => if q_n64 (FP.ddiv (FP.i2d q3) (FP.i2d v1)) = true then some ((FP.ddiv (FP.i2d q3) (FP.i2d v1), q_up σ 292 4 s0)) else none))
set_option maxHeartbeats 4000000 in
set_option maxRecDepth 100000 in
theorem s_X10_meanDepth_17 {X : q_X} {G : q_G} {x : q_A} (hx : q_Cx X G RX10 cX10_meanDepth 2 3) (hr : (q_Xm X).sig.returnType = some .double) {res : UInt64 × q_S} : ∀ (v1 : Int32) (s0 : Int32) (σ : q_S), f_X10_meanDepth_17 v1 s0 σ = some res → q_Wq X G x 2 (q_MQ X G (q_Qd G x res.1 res.2)) 0 0 17 [(0, .ref (G.2.1 + 292)), (1, .int v1)] [.int s0, .ref (G.2.1 + 292)] σ := by
  intro v1 s0 σ h
  unfold f_X10_meanDepth_17 at h
  refine q_put (v := s0) hx q_fl_X10_22 q_fp_10_4 dX10_meanDepth_17 (q_ne kd_292 (by decide)) (q_e10 kd_292) (by rw [q_l10]; decide) rfl rfl (by rw [q_e10 kd_292, q_s10_4]) ?_
  refine q_iload_n hx dX10_meanDepth_20 1 rfl ?_
  refine q_if_ne hx 28 dX10_meanDepth_21 (by decide) (fun hc2 => ?_) (fun hc2 => ?_)
  · replace h := (if_neg hc2).symm.trans h
    refine q_aload_n hx dX10_meanDepth_28 0 rfl ?_
    refine q_iconst (v := 0) hx dX10_meanDepth_29 (by decide) ?_
    refine q_bindE h (fun q3 hq3 h => ?_)
    refine q_callVi (As := [.int 0]) (rest := []) hx q_kR0 (c_X10_sumOf (q_Xl X) G x (q_up σ 292 4 s0) 0 hq3) q_ml_X10_349 q_mn_X10_sumOf q_mi_X10_sumOf q_se_X10_sumOf (by decide) rfl (Nat.le_of_ble_eq_true rfl) dX10_meanDepth_30 (q_ne kd_292 (by decide)) (q_e10 kd_292) rfl rfl rfl ?_
    refine q_i2d hx dX10_meanDepth_33 ?_
    refine q_iload_n hx dX10_meanDepth_34 1 rfl ?_
    refine q_i2d hx dX10_meanDepth_35 ?_
    by_cases hg4 : q_n64 (FP.ddiv (FP.i2d q3) (FP.i2d v1)) = true
    case neg => rw [if_neg hg4] at h; exact nomatch h
    replace h := (if_pos hg4).symm.trans h
    refine q_ddiv hx dX10_meanDepth_36 (q_n64.v hg4) ?_
    cases h
    exact q_dret hx hr dX10_meanDepth_37
  · replace h := (if_pos hc2).symm.trans h
    refine q_dconst0 hx dX10_meanDepth_24 ?_
    refine q_goto hx 37 dX10_meanDepth_25 (by decide) ?_
    cases h
    exact q_dret hx hr dX10_meanDepth_37
def f_X10_meanDepth (σ : q_S) : Option (UInt64 × q_S) :=
  if (σ 293 0) = 0 then (f_X10_meanDepth_17 (σ 293 0) 1 σ) else (f_X10_meanDepth_17 (σ 293 0) 0 σ)
set_option maxHeartbeats 4000000 in
set_option maxRecDepth 100000 in
theorem c_X10_meanDepth (l : Launch) (G : q_G) (x : q_A) (σ : q_S)   {res : UInt64 × q_S} (h : f_X10_meanDepth σ = some res) : q_Met l yX10_meanDepth cX10_meanDepth 2 (some .double) 3 G [.ref (G.2.1 + 292)] σ x (q_Qd G x res.1 res.2) := by
  refine q_of (by decide) (Nat.le_of_ble_eq_true rfl) (fun X hl0 hx hr => ?_)
  subst hl0
  have hx : q_Cx X G RX10 cX10_meanDepth 2 3 := hx
  unfold f_X10_meanDepth at h
  show q_Wq X G x 2 (q_MQ X G (q_Qd G x res.1 res.2)) 0 0 0 [(0, .ref (G.2.1 + 292))] [] σ
  refine q_aload_n hx dX10_meanDepth_0 0 rfl ?_
  refine q_get (v := .ref (G.2.1 + 293)) hx q_fl_X10_7 dX10_meanDepth_1 (q_ne kd_292 (by decide)) (q_e10 kd_292) rfl ?_
  refine q_iconst (v := 0) hx dX10_meanDepth_4 (by decide) ?_
  refine q_ialdK (N := 220) hx 0 dX10_meanDepth_5 kd_293 (by decide) (by decide) (by decide) (by decide) ?_
  refine q_istore_n hx [(1, .int (σ 293 0)), (0, .ref (G.2.1 + 292))] dX10_meanDepth_6 (by decide) rfl ?_
  refine q_aload_n hx dX10_meanDepth_7 1 rfl ?_
  refine q_iload_n hx dX10_meanDepth_8 0 rfl ?_
  refine q_if_ne hx 16 dX10_meanDepth_9 (by decide) (fun hc1 => ?_) (fun hc1 => ?_)
  · replace h := (if_neg hc1).symm.trans h
    refine q_iconst (v := 0) hx dX10_meanDepth_16 (by decide) ?_
    refine q_sub [1, 0] rfl ?_
    exact s_X10_meanDepth_17 hx hr (σ 293 0) 0 σ h
  · replace h := (if_pos hc1).symm.trans h
    refine q_iconst (v := 1) hx dX10_meanDepth_12 (by decide) ?_
    refine q_goto hx 17 dX10_meanDepth_13 (by decide) ?_
    refine q_sub [1, 0] rfl ?_
    exact s_X10_meanDepth_17 hx hr (σ 293 0) 1 σ h
-- X10_ownedShare
def f_X10_ownedShare (σ : q_S) : Option (UInt32 × q_S) :=
  Option.bind (f_X10_owned (q_up σ 292 4 0)) (fun q1 => if q_n32 (FP.fdiv (FP.i2f q1) 1119879168) = true then some ((FP.fdiv (FP.i2f q1) 1119879168, q_up σ 292 4 0)) else none)
set_option maxHeartbeats 4000000 in
set_option maxRecDepth 100000 in
theorem c_X10_ownedShare (l : Launch) (G : q_G) (x : q_A) (σ : q_S)   {res : UInt32 × q_S} (h : f_X10_ownedShare σ = some res) : q_Met l yX10_ownedShare cX10_ownedShare 1 (some .float) 7 G [.ref (G.2.1 + 292)] σ x (q_Qf G x res.1 res.2) := by
  refine q_of (by decide) (Nat.le_of_ble_eq_true rfl) (fun X hl0 hx hr => ?_)
  subst hl0
  have hx : q_Cx X G RX10 cX10_ownedShare 1 7 := hx
  unfold f_X10_ownedShare at h
  show q_Wq X G x 1 (q_MQ X G (q_Qf G x res.1 res.2)) 0 0 0 [(0, .ref (G.2.1 + 292))] [] σ
  refine q_aload_n hx dX10_ownedShare_0 0 rfl ?_
  refine q_iconst (v := 0) hx dX10_ownedShare_1 (by decide) ?_
  refine q_put (v := 0) hx q_fl_X10_22 q_fp_10_4 dX10_ownedShare_2 (q_ne kd_292 (by decide)) (q_e10 kd_292) (by rw [q_l10]; decide) rfl rfl (by rw [q_e10 kd_292, q_s10_4]) ?_
  refine q_aload_n hx dX10_ownedShare_5 0 rfl ?_
  refine q_bindE h (fun q1 hq1 h => ?_)
  refine q_callVi (As := []) (rest := []) hx q_kR0 (c_X10_owned (q_Xl X) G x (q_up σ 292 4 0)  hq1) q_ml_X10_352 q_mn_X10_owned q_mi_X10_owned q_se_X10_owned (by decide) rfl (Nat.le_of_ble_eq_true rfl) dX10_ownedShare_6 (q_ne kd_292 (by decide)) (q_e10 kd_292) rfl rfl rfl ?_
  refine q_i2f hx dX10_ownedShare_9 ?_
  refine q_ldcwf hx q_fc_X10_355 dX10_ownedShare_10 ?_
  by_cases hg2 : q_n32 (FP.fdiv (FP.i2f q1) 1119879168) = true
  case neg => rw [if_neg hg2] at h; exact nomatch h
  replace h := (if_pos hg2).symm.trans h
  refine q_fdiv hx dX10_ownedShare_13 (q_n32.v hg2) ?_
  cases h
  exact q_fret hx hr dX10_ownedShare_14
