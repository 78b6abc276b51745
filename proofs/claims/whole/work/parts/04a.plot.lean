-- X9_isFrom
def f_X9_isFrom (a0 : Int32) (a1 : Int32) (a2 : Int32) : Int32 :=
  if a0 < a1 then (0) else (if a2 < a0 then (0) else (1))
set_option maxHeartbeats 4000000 in
set_option maxRecDepth 100000 in
theorem ca_X9_isFrom (l : Launch) (G : q_G) (x : q_A) (σ : q_S) (a0 : Int32) (a1 : Int32) (a2 : Int32)  {res : Int32} (h : f_X9_isFrom a0 a1 a2 = res) : q_Met l yX9_isFrom cX9_isFrom 3 (some .boolean) 1 G [.int a0, .int a1, .int a2] σ x (q_Qi G x res σ) := by
  refine q_of (by decide) (Nat.le_of_ble_eq_true rfl) (fun X hl0 hx hr => ?_)
  subst hl0
  have hx : q_Cx X G RX9 cX9_isFrom 3 1 := hx
  unfold f_X9_isFrom at h
  show q_Wq X G x 3 (q_MQ X G (q_Qi G x res σ)) 0 0 0 [(0, .int a0), (1, .int a1), (2, .int a2)] [] σ
  refine q_iload_n hx dX9_isFrom_0 0 rfl ?_
  refine q_iload_n hx dX9_isFrom_1 1 rfl ?_
  refine q_icmp_lt hx 14 dX9_isFrom_2 (by decide) (fun hc1 => ?_) (fun hc1 => ?_)
  · replace h := (if_pos hc1).symm.trans h
    refine q_iconst (v := 0) hx dX9_isFrom_14 (by decide) ?_
    subst h
    exact q_zret hx hr rfl dX9_isFrom_15
  · replace h := (if_neg hc1).symm.trans h
    refine q_iload_n hx dX9_isFrom_5 0 rfl ?_
    refine q_iload_n hx dX9_isFrom_6 2 rfl ?_
    refine q_icmp_gt hx 14 dX9_isFrom_7 (by decide) (fun hc2 => ?_) (fun hc2 => ?_)
    · replace h := (if_pos hc2).symm.trans h
      refine q_iconst (v := 0) hx dX9_isFrom_14 (by decide) ?_
      subst h
      exact q_zret hx hr rfl dX9_isFrom_15
    · replace h := (if_neg hc2).symm.trans h
      refine q_iconst (v := 1) hx dX9_isFrom_10 (by decide) ?_
      refine q_goto hx 15 dX9_isFrom_11 (by decide) ?_
      subst h
      exact q_zret hx hr rfl dX9_isFrom_15
theorem c_X9_isFrom (l : Launch) (G : q_G) (x : q_A) (σ : q_S) (a0 : Int32) (a1 : Int32) (a2 : Int32)  : q_Met l yX9_isFrom cX9_isFrom 3 (some .boolean) 1 G [.int a0, .int a1, .int a2] σ x (q_Qi G x (f_X9_isFrom a0 a1 a2) σ) := ca_X9_isFrom l G x σ a0 a1 a2 rfl
-- X9_isCell
def f_X9_isCell (a0 : Int32) (a1 : Int32) : Int32 :=
  if ((f_X9_isFrom a0 0 11)) = 0 then (0) else (if ((f_X9_isFrom a1 0 7)) = 0 then (0) else (1))
set_option maxHeartbeats 4000000 in
set_option maxRecDepth 100000 in
theorem ca_X9_isCell (l : Launch) (G : q_G) (x : q_A) (σ : q_S) (a0 : Int32) (a1 : Int32)  {res : Int32} (h : f_X9_isCell a0 a1 = res) : q_Met l yX9_isCell cX9_isCell 2 (some .boolean) 2 G [.int a0, .int a1] σ x (q_Qi G x res σ) := by
  refine q_of (by decide) (Nat.le_of_ble_eq_true rfl) (fun X hl0 hx hr => ?_)
  subst hl0
  have hx : q_Cx X G RX9 cX9_isCell 2 2 := hx
  unfold f_X9_isCell at h
  show q_Wq X G x 2 (q_MQ X G (q_Qi G x res σ)) 0 0 0 [(0, .int a0), (1, .int a1)] [] σ
  refine q_iload_n hx dX9_isCell_0 0 rfl ?_
  refine q_iconst (v := 0) hx dX9_isCell_1 (by decide) ?_
  refine q_bipush (v := 11) hx dX9_isCell_2 (by decide) ?_
  refine q_callSi (As := [.int a0, .int 0, .int 11]) (rest := []) hx q_kR0 (c_X9_isFrom (q_Xl X) G x σ a0 0 11) q_ml_X9_276 q_mn_X9_isFrom q_ms_X9_isFrom (by decide) rfl (Nat.le_of_ble_eq_true rfl) dX9_isCell_4 rfl ?_
  refine q_if_eq hx 24 dX9_isCell_7 (by decide) (fun hc1 => ?_) (fun hc1 => ?_)
  · replace h := (if_pos hc1).symm.trans h
    refine q_iconst (v := 0) hx dX9_isCell_24 (by decide) ?_
    subst h
    exact q_zret hx hr rfl dX9_isCell_25
  · replace h := (if_neg hc1).symm.trans h
    refine q_iload_n hx dX9_isCell_10 1 rfl ?_
    refine q_iconst (v := 0) hx dX9_isCell_11 (by decide) ?_
    refine q_bipush (v := 7) hx dX9_isCell_12 (by decide) ?_
    refine q_callSi (As := [.int a1, .int 0, .int 7]) (rest := []) hx q_kR0 (c_X9_isFrom (q_Xl X) G x σ a1 0 7) q_ml_X9_276 q_mn_X9_isFrom q_ms_X9_isFrom (by decide) rfl (Nat.le_of_ble_eq_true rfl) dX9_isCell_14 rfl ?_
    refine q_if_eq hx 24 dX9_isCell_17 (by decide) (fun hc2 => ?_) (fun hc2 => ?_)
    · replace h := (if_pos hc2).symm.trans h
      refine q_iconst (v := 0) hx dX9_isCell_24 (by decide) ?_
      subst h
      exact q_zret hx hr rfl dX9_isCell_25
    · replace h := (if_neg hc2).symm.trans h
      refine q_iconst (v := 1) hx dX9_isCell_20 (by decide) ?_
      refine q_goto hx 25 dX9_isCell_21 (by decide) ?_
      subst h
      exact q_zret hx hr rfl dX9_isCell_25
theorem c_X9_isCell (l : Launch) (G : q_G) (x : q_A) (σ : q_S) (a0 : Int32) (a1 : Int32)  : q_Met l yX9_isCell cX9_isCell 2 (some .boolean) 2 G [.int a0, .int a1] σ x (q_Qi G x (f_X9_isCell a0 a1) σ) := ca_X9_isCell l G x σ a0 a1 rfl
-- X9_isCorner
def f_X9_isCorner (a0 : Int32) (a1 : Int32) : Int32 :=
  if ((f_X9_isFrom a0 0 12)) = 0 then (0) else (if ((f_X9_isFrom a1 0 8)) = 0 then (0) else (1))
set_option maxHeartbeats 4000000 in
set_option maxRecDepth 100000 in
theorem ca_X9_isCorner (l : Launch) (G : q_G) (x : q_A) (σ : q_S) (a0 : Int32) (a1 : Int32)  {res : Int32} (h : f_X9_isCorner a0 a1 = res) : q_Met l yX9_isCorner cX9_isCorner 2 (some .boolean) 2 G [.int a0, .int a1] σ x (q_Qi G x res σ) := by
  refine q_of (by decide) (Nat.le_of_ble_eq_true rfl) (fun X hl0 hx hr => ?_)
  subst hl0
  have hx : q_Cx X G RX9 cX9_isCorner 2 2 := hx
  unfold f_X9_isCorner at h
  show q_Wq X G x 2 (q_MQ X G (q_Qi G x res σ)) 0 0 0 [(0, .int a0), (1, .int a1)] [] σ
  refine q_iload_n hx dX9_isCorner_0 0 rfl ?_
  refine q_iconst (v := 0) hx dX9_isCorner_1 (by decide) ?_
  refine q_bipush (v := 12) hx dX9_isCorner_2 (by decide) ?_
  refine q_callSi (As := [.int a0, .int 0, .int 12]) (rest := []) hx q_kR0 (c_X9_isFrom (q_Xl X) G x σ a0 0 12) q_ml_X9_276 q_mn_X9_isFrom q_ms_X9_isFrom (by decide) rfl (Nat.le_of_ble_eq_true rfl) dX9_isCorner_4 rfl ?_
  refine q_if_eq hx 24 dX9_isCorner_7 (by decide) (fun hc1 => ?_) (fun hc1 => ?_)
  · replace h := (if_pos hc1).symm.trans h
    refine q_iconst (v := 0) hx dX9_isCorner_24 (by decide) ?_
    subst h
    exact q_zret hx hr rfl dX9_isCorner_25
  · replace h := (if_neg hc1).symm.trans h
    refine q_iload_n hx dX9_isCorner_10 1 rfl ?_
    refine q_iconst (v := 0) hx dX9_isCorner_11 (by decide) ?_
    refine q_bipush (v := 8) hx dX9_isCorner_12 (by decide) ?_
    refine q_callSi (As := [.int a1, .int 0, .int 8]) (rest := []) hx q_kR0 (c_X9_isFrom (q_Xl X) G x σ a1 0 8) q_ml_X9_276 q_mn_X9_isFrom q_ms_X9_isFrom (by decide) rfl (Nat.le_of_ble_eq_true rfl) dX9_isCorner_14 rfl ?_
    refine q_if_eq hx 24 dX9_isCorner_17 (by decide) (fun hc2 => ?_) (fun hc2 => ?_)
    · replace h := (if_pos hc2).symm.trans h
      refine q_iconst (v := 0) hx dX9_isCorner_24 (by decide) ?_
      subst h
      exact q_zret hx hr rfl dX9_isCorner_25
    · replace h := (if_neg hc2).symm.trans h
      refine q_iconst (v := 1) hx dX9_isCorner_20 (by decide) ?_
      refine q_goto hx 25 dX9_isCorner_21 (by decide) ?_
      subst h
      exact q_zret hx hr rfl dX9_isCorner_25
theorem c_X9_isCorner (l : Launch) (G : q_G) (x : q_A) (σ : q_S) (a0 : Int32) (a1 : Int32)  : q_Met l yX9_isCorner cX9_isCorner 2 (some .boolean) 2 G [.int a0, .int a1] σ x (q_Qi G x (f_X9_isCorner a0 a1) σ) := ca_X9_isCorner l G x σ a0 a1 rfl
-- X9_stepX
def f_X9_stepX (a0 : Int32) : Int32 :=
  if a0 = 1 then (1) else (if a0 = 3 then ((-1)) else (0))
set_option maxHeartbeats 4000000 in
set_option maxRecDepth 100000 in
theorem ca_X9_stepX (l : Launch) (G : q_G) (x : q_A) (σ : q_S) (a0 : Int32)  {res : Int32} (h : f_X9_stepX a0 = res) : q_Met l yX9_stepX cX9_stepX 1 (some .int) 1 G [.int a0] σ x (q_Qi G x res σ) := by
  refine q_of (by decide) (Nat.le_of_ble_eq_true rfl) (fun X hl0 hx hr => ?_)
  subst hl0
  have hx : q_Cx X G RX9 cX9_stepX 1 1 := hx
  unfold f_X9_stepX at h
  show q_Wq X G x 1 (q_MQ X G (q_Qi G x res σ)) 0 0 0 [(0, .int a0)] [] σ
  refine q_iload_n hx dX9_stepX_0 0 rfl ?_
  refine q_iconst (v := 1) hx dX9_stepX_1 (by decide) ?_
  refine q_icmp_ne hx 9 dX9_stepX_2 (by decide) (fun hc1 => ?_) (fun hc1 => ?_)
  · replace h := (if_neg hc1).symm.trans h
    refine q_iload_n hx dX9_stepX_9 0 rfl ?_
    refine q_iconst (v := 3) hx dX9_stepX_10 (by decide) ?_
    refine q_icmp_ne hx 18 dX9_stepX_11 (by decide) (fun hc2 => ?_) (fun hc2 => ?_)
    · replace h := (if_neg hc2).symm.trans h
      refine q_iconst (v := 0) hx dX9_stepX_18 (by decide) ?_
      subst h
      exact q_iret hx hr dX9_stepX_19
    · replace h := (if_pos hc2).symm.trans h
      refine q_iconst (v := (-1)) hx dX9_stepX_14 (by decide) ?_
      refine q_goto hx 19 dX9_stepX_15 (by decide) ?_
      subst h
      exact q_iret hx hr dX9_stepX_19
  · replace h := (if_pos hc1).symm.trans h
    refine q_iconst (v := 1) hx dX9_stepX_5 (by decide) ?_
    refine q_goto hx 19 dX9_stepX_6 (by decide) ?_
    subst h
    exact q_iret hx hr dX9_stepX_19
theorem c_X9_stepX (l : Launch) (G : q_G) (x : q_A) (σ : q_S) (a0 : Int32)  : q_Met l yX9_stepX cX9_stepX 1 (some .int) 1 G [.int a0] σ x (q_Qi G x (f_X9_stepX a0) σ) := ca_X9_stepX l G x σ a0 rfl
-- X9_stepY
def f_X9_stepY (a0 : Int32) : Int32 :=
  if a0 = 2 then (1) else (if a0 = 0 then ((-1)) else (0))
set_option maxHeartbeats 4000000 in
set_option maxRecDepth 100000 in
theorem ca_X9_stepY (l : Launch) (G : q_G) (x : q_A) (σ : q_S) (a0 : Int32)  {res : Int32} (h : f_X9_stepY a0 = res) : q_Met l yX9_stepY cX9_stepY 1 (some .int) 1 G [.int a0] σ x (q_Qi G x res σ) := by
  refine q_of (by decide) (Nat.le_of_ble_eq_true rfl) (fun X hl0 hx hr => ?_)
  subst hl0
  have hx : q_Cx X G RX9 cX9_stepY 1 1 := hx
  unfold f_X9_stepY at h
  show q_Wq X G x 1 (q_MQ X G (q_Qi G x res σ)) 0 0 0 [(0, .int a0)] [] σ
  refine q_iload_n hx dX9_stepY_0 0 rfl ?_
  refine q_iconst (v := 2) hx dX9_stepY_1 (by decide) ?_
  refine q_icmp_ne hx 9 dX9_stepY_2 (by decide) (fun hc1 => ?_) (fun hc1 => ?_)
  · replace h := (if_neg hc1).symm.trans h
    refine q_iload_n hx dX9_stepY_9 0 rfl ?_
    refine q_if_ne hx 17 dX9_stepY_10 (by decide) (fun hc2 => ?_) (fun hc2 => ?_)
    · replace h := (if_neg hc2).symm.trans h
      refine q_iconst (v := 0) hx dX9_stepY_17 (by decide) ?_
      subst h
      exact q_iret hx hr dX9_stepY_18
    · replace h := (if_pos hc2).symm.trans h
      refine q_iconst (v := (-1)) hx dX9_stepY_13 (by decide) ?_
      refine q_goto hx 18 dX9_stepY_14 (by decide) ?_
      subst h
      exact q_iret hx hr dX9_stepY_18
  · replace h := (if_pos hc1).symm.trans h
    refine q_iconst (v := 1) hx dX9_stepY_5 (by decide) ?_
    refine q_goto hx 18 dX9_stepY_6 (by decide) ?_
    subst h
    exact q_iret hx hr dX9_stepY_18
theorem c_X9_stepY (l : Launch) (G : q_G) (x : q_A) (σ : q_S) (a0 : Int32)  : q_Met l yX9_stepY cX9_stepY 1 (some .int) 1 G [.int a0] σ x (q_Qi G x (f_X9_stepY a0) σ) := ca_X9_stepY l G x σ a0 rfl
-- X9_leftOf
def f_X9_leftOf (a0 : Int32) : Int32 :=
  if a0 = 0 then (3) else (a0 - 1)
set_option maxHeartbeats 4000000 in
set_option maxRecDepth 100000 in
theorem ca_X9_leftOf (l : Launch) (G : q_G) (x : q_A) (σ : q_S) (a0 : Int32)  {res : Int32} (h : f_X9_leftOf a0 = res) : q_Met l yX9_leftOf cX9_leftOf 1 (some .int) 1 G [.int a0] σ x (q_Qi G x res σ) := by
  refine q_of (by decide) (Nat.le_of_ble_eq_true rfl) (fun X hl0 hx hr => ?_)
  subst hl0
  have hx : q_Cx X G RX9 cX9_leftOf 1 1 := hx
  unfold f_X9_leftOf at h
  show q_Wq X G x 1 (q_MQ X G (q_Qi G x res σ)) 0 0 0 [(0, .int a0)] [] σ
  refine q_iload_n hx dX9_leftOf_0 0 rfl ?_
  refine q_if_ne hx 8 dX9_leftOf_1 (by decide) (fun hc1 => ?_) (fun hc1 => ?_)
  · replace h := (if_neg hc1).symm.trans h
    refine q_iload_n hx dX9_leftOf_8 0 rfl ?_
    refine q_iconst (v := 1) hx dX9_leftOf_9 (by decide) ?_
    refine q_isub hx dX9_leftOf_10 ?_
    subst h
    exact q_iret hx hr dX9_leftOf_11
  · replace h := (if_pos hc1).symm.trans h
    refine q_iconst (v := 3) hx dX9_leftOf_4 (by decide) ?_
    refine q_goto hx 11 dX9_leftOf_5 (by decide) ?_
    subst h
    exact q_iret hx hr dX9_leftOf_11
theorem c_X9_leftOf (l : Launch) (G : q_G) (x : q_A) (σ : q_S) (a0 : Int32)  : q_Met l yX9_leftOf cX9_leftOf 1 (some .int) 1 G [.int a0] σ x (q_Qi G x (f_X9_leftOf a0) σ) := ca_X9_leftOf l G x σ a0 rfl
-- X9_oppositeOf
def f_X9_oppositeOf (a0 : Int32) : Int32 :=
  (f_X9_leftOf ((f_X9_leftOf a0)))
set_option maxHeartbeats 4000000 in
set_option maxRecDepth 100000 in
theorem ca_X9_oppositeOf (l : Launch) (G : q_G) (x : q_A) (σ : q_S) (a0 : Int32)  {res : Int32} (h : f_X9_oppositeOf a0 = res) : q_Met l yX9_oppositeOf cX9_oppositeOf 1 (some .int) 2 G [.int a0] σ x (q_Qi G x res σ) := by
  refine q_of (by decide) (Nat.le_of_ble_eq_true rfl) (fun X hl0 hx hr => ?_)
  subst hl0
  have hx : q_Cx X G RX9 cX9_oppositeOf 1 2 := hx
  unfold f_X9_oppositeOf at h
  show q_Wq X G x 1 (q_MQ X G (q_Qi G x res σ)) 0 0 0 [(0, .int a0)] [] σ
  refine q_iload_n hx dX9_oppositeOf_0 0 rfl ?_
  refine q_callSi (As := [.int a0]) (rest := []) hx q_kR0 (c_X9_leftOf (q_Xl X) G x σ a0) q_ml_X9_441 q_mn_X9_leftOf q_ms_X9_leftOf (by decide) rfl (Nat.le_of_ble_eq_true rfl) dX9_oppositeOf_1 rfl ?_
  refine q_callSi (As := [.int ((f_X9_leftOf a0))]) (rest := []) hx q_kR0 (c_X9_leftOf (q_Xl X) G x σ ((f_X9_leftOf a0))) q_ml_X9_441 q_mn_X9_leftOf q_ms_X9_leftOf (by decide) rfl (Nat.le_of_ble_eq_true rfl) dX9_oppositeOf_4 rfl ?_
  subst h
  exact q_iret hx hr dX9_oppositeOf_7
theorem c_X9_oppositeOf (l : Launch) (G : q_G) (x : q_A) (σ : q_S) (a0 : Int32)  : q_Met l yX9_oppositeOf cX9_oppositeOf 1 (some .int) 2 G [.int a0] σ x (q_Qi G x (f_X9_oppositeOf a0) σ) := ca_X9_oppositeOf l G x σ a0 rfl
-- X9_directionFor
def f_X9_directionFor (a0 : Int32) : Int32 :=
  if a0 = 101 then (1) else if a0 = 110 then (0) else if a0 = 115 then (2) else if a0 = 119 then (3) else (-1)
set_option maxHeartbeats 4000000 in
set_option maxRecDepth 100000 in
theorem ca_X9_directionFor (l : Launch) (G : q_G) (x : q_A) (σ : q_S) (a0 : Int32)  {res : Int32} (h : f_X9_directionFor a0 = res) : q_Met l yX9_directionFor cX9_directionFor 1 (some .int) 1 G [.int a0] σ x (q_Qi G x res σ) := by
  refine q_of (by decide) (Nat.le_of_ble_eq_true rfl) (fun X hl0 hx hr => ?_)
  subst hl0
  have hx : q_Cx X G RX9 cX9_directionFor 1 1 := hx
  unfold f_X9_directionFor at h
  show q_Wq X G x 1 (q_MQ X G (q_Qi G x res σ)) 0 0 0 [(0, .int a0)] [] σ
  refine q_iload_n hx dX9_directionFor_0 0 rfl ?_
  by_cases hc1 : a0 = 101
  · replace h := (if_pos hc1).symm.trans h
    refine q_look hx 46 dX9_directionFor_1 (by decide) (by rw [hc1] <;> rfl) (by decide) ?_
    refine q_iconst (v := 1) hx dX9_directionFor_46 (by decide) ?_
    subst h
    exact q_iret hx hr dX9_directionFor_47
  replace h := (if_neg hc1).symm.trans h
  by_cases hc2 : a0 = 110
  · replace h := (if_pos hc2).symm.trans h
    refine q_look hx 44 dX9_directionFor_1 (by decide) (by rw [hc2] <;> rfl) (by decide) ?_
    refine q_iconst (v := 0) hx dX9_directionFor_44 (by decide) ?_
    subst h
    exact q_iret hx hr dX9_directionFor_45
  replace h := (if_neg hc2).symm.trans h
  by_cases hc3 : a0 = 115
  · replace h := (if_pos hc3).symm.trans h
    refine q_look hx 48 dX9_directionFor_1 (by decide) (by rw [hc3] <;> rfl) (by decide) ?_
    refine q_iconst (v := 2) hx dX9_directionFor_48 (by decide) ?_
    subst h
    exact q_iret hx hr dX9_directionFor_49
  replace h := (if_neg hc3).symm.trans h
  by_cases hc4 : a0 = 119
  · replace h := (if_pos hc4).symm.trans h
    refine q_look hx 50 dX9_directionFor_1 (by decide) (by rw [hc4] <;> rfl) (by decide) ?_
    refine q_iconst (v := 3) hx dX9_directionFor_50 (by decide) ?_
    subst h
    exact q_iret hx hr dX9_directionFor_51
  replace h := (if_neg hc4).symm.trans h
  refine q_look (off := 51) hx 52 dX9_directionFor_1 (by decide) (by rw [lv_osw (k := 101) hc1 (by decide), lv_osw (k := 110) hc2 (by decide), lv_osw (k := 115) hc3 (by decide), lv_osw (k := 119) hc4 (by decide)] <;> rfl) (by decide) ?_
  refine q_iconst (v := (-1)) hx dX9_directionFor_52 (by decide) ?_
  subst h
  exact q_iret hx hr dX9_directionFor_53
theorem c_X9_directionFor (l : Launch) (G : q_G) (x : q_A) (σ : q_S) (a0 : Int32)  : q_Met l yX9_directionFor cX9_directionFor 1 (some .int) 1 G [.int a0] σ x (q_Qi G x (f_X9_directionFor a0) σ) := ca_X9_directionFor l G x σ a0 rfl
-- X9_letterFor
def f_X9_letterFor (a0 : Int32) : Int32 :=
  if a0 = 0 then (110) else if a0 = 1 then (101) else if a0 = 2 then (115) else 119
set_option maxHeartbeats 4000000 in
set_option maxRecDepth 100000 in
theorem ca_X9_letterFor (l : Launch) (G : q_G) (x : q_A) (σ : q_S) (a0 : Int32)  {res : Int32} (h : f_X9_letterFor a0 = res) : q_Met l yX9_letterFor cX9_letterFor 1 (some .char) 1 G [.int a0] σ x (q_Qi G x res σ) := by
  refine q_of (by decide) (Nat.le_of_ble_eq_true rfl) (fun X hl0 hx hr => ?_)
  subst hl0
  have hx : q_Cx X G RX9 cX9_letterFor 1 1 := hx
  unfold f_X9_letterFor at h
  show q_Wq X G x 1 (q_MQ X G (q_Qi G x res σ)) 0 0 0 [(0, .int a0)] [] σ
  refine q_iload_n hx dX9_letterFor_0 0 rfl ?_
  by_cases hc1 : a0 = 0
  · replace h := (if_pos hc1).symm.trans h
    refine q_tin hx 28 dX9_letterFor_1 (by rw [hc1] <;> decide) (by rw [hc1] <;> decide) (by rw [hc1] <;> rfl) (by decide) ?_
    refine q_bipush (v := 110) hx dX9_letterFor_28 (by decide) ?_
    subst h
    exact q_zret hx hr rfl dX9_letterFor_30
  replace h := (if_neg hc1).symm.trans h
  by_cases hc2 : a0 = 1
  · replace h := (if_pos hc2).symm.trans h
    refine q_tin hx 31 dX9_letterFor_1 (by rw [hc2] <;> decide) (by rw [hc2] <;> decide) (by rw [hc2] <;> rfl) (by decide) ?_
    refine q_bipush (v := 101) hx dX9_letterFor_31 (by decide) ?_
    subst h
    exact q_zret hx hr rfl dX9_letterFor_33
  replace h := (if_neg hc2).symm.trans h
  by_cases hc3 : a0 = 2
  · replace h := (if_pos hc3).symm.trans h
    refine q_tin hx 34 dX9_letterFor_1 (by rw [hc3] <;> decide) (by rw [hc3] <;> decide) (by rw [hc3] <;> rfl) (by decide) ?_
    refine q_bipush (v := 115) hx dX9_letterFor_34 (by decide) ?_
    subst h
    exact q_zret hx hr rfl dX9_letterFor_36
  replace h := (if_neg hc3).symm.trans h
  have hc1T := lv_neT (k := 0) (a := 0) hc1 (by decide)
  have hc2T := lv_neT (k := 1) (a := 1) hc2 (by decide)
  have hc3T := lv_neT (k := 2) (a := 2) hc3 (by decide)
  refine q_tout hx 37 dX9_letterFor_1 (by omega) (by decide) ?_
  refine q_bipush (v := 119) hx dX9_letterFor_37 (by decide) ?_
  subst h
  exact q_zret hx hr rfl dX9_letterFor_39
theorem c_X9_letterFor (l : Launch) (G : q_G) (x : q_A) (σ : q_S) (a0 : Int32)  : q_Met l yX9_letterFor cX9_letterFor 1 (some .char) 1 G [.int a0] σ x (q_Qi G x (f_X9_letterFor a0) σ) := ca_X9_letterFor l G x σ a0 rfl
-- X9_chainsFor
def f_X9_chainsFor (a0 : Int32) : Int32 :=
  ((((if 0 ≤ a0 then a0 else 0 - a0)) + 9) - 1) / 9
set_option maxHeartbeats 4000000 in
set_option maxRecDepth 100000 in
theorem ca_X9_chainsFor (l : Launch) (G : q_G) (x : q_A) (σ : q_S) (a0 : Int32)  {res : Int32} (h : f_X9_chainsFor a0 = res) : q_Met l yX9_chainsFor cX9_chainsFor 1 (some .int) 2 G [.int a0] σ x (q_Qi G x res σ) := by
  refine q_of (by decide) (Nat.le_of_ble_eq_true rfl) (fun X hl0 hx hr => ?_)
  subst hl0
  have hx : q_Cx X G RX9 cX9_chainsFor 1 2 := hx
  unfold f_X9_chainsFor at h
  show q_Wq X G x 1 (q_MQ X G (q_Qi G x res σ)) 0 0 0 [(0, .int a0)] [] σ
  refine q_iload_n hx dX9_chainsFor_0 0 rfl ?_
  refine q_mabs hx q_kR0 (by decide) q_mml_X9_444 q_mm_abs.1 q_mm_abs.2.1 q_mm_abs.2.2 (Nat.le_of_ble_eq_true rfl) dX9_chainsFor_1 ?_
  refine q_bipush (v := 9) hx dX9_chainsFor_4 (by decide) ?_
  refine q_iadd hx dX9_chainsFor_6 ?_
  refine q_iconst (v := 1) hx dX9_chainsFor_7 (by decide) ?_
  refine q_isub hx dX9_chainsFor_8 ?_
  refine q_bipush (v := 9) hx dX9_chainsFor_9 (by decide) ?_
  refine q_idiv hx dX9_chainsFor_11 (by decide) ?_
  subst h
  exact q_iret hx hr dX9_chainsFor_12
theorem c_X9_chainsFor (l : Launch) (G : q_G) (x : q_A) (σ : q_S) (a0 : Int32)  : q_Met l yX9_chainsFor cX9_chainsFor 1 (some .int) 2 G [.int a0] σ x (q_Qi G x (f_X9_chainsFor a0) σ) := ca_X9_chainsFor l G x σ a0 rfl
-- X6_hasChain
def f_X6_hasChain (σ : q_S) (z0 : Nat) (a1 : Int32) : Int32 :=
  if a1 < 0 then (0) else (if (σ z0 6) ≤ a1 then (0) else (1))
set_option maxHeartbeats 4000000 in
set_option maxRecDepth 100000 in
theorem ca_X6_hasChain (l : Launch) (G : q_G) (x : q_A) (σ : q_S) (z0 : Nat) (a1 : Int32) (hz0 : q_isPlot z0) {res : Int32} (h : f_X6_hasChain σ z0 a1 = res) : q_Met l yX6_hasChain cX6_hasChain 2 (some .boolean) 1 G [.ref (G.2.1 + z0), .int a1] σ x (q_Qi G x res σ) := by
  refine q_of (by decide) (Nat.le_of_ble_eq_true rfl) (fun X hl0 hx hr => ?_)
  subst hl0
  have hx : q_Cx X G RX6 cX6_hasChain 2 1 := hx
  unfold f_X6_hasChain at h
  show q_Wq X G x 2 (q_MQ X G (q_Qi G x res σ)) 0 0 0 [(0, .ref (G.2.1 + z0)), (1, .int a1)] [] σ
  refine q_iload_n hx dX6_hasChain_0 1 rfl ?_
  refine q_if_lt hx 16 dX6_hasChain_1 (by decide) (fun hc1 => ?_) (fun hc1 => ?_)
  · replace h := (if_pos hc1).symm.trans h
    refine q_iconst (v := 0) hx dX6_hasChain_16 (by decide) ?_
    subst h
    exact q_zret hx hr rfl dX6_hasChain_17
  · replace h := (if_neg hc1).symm.trans h
    refine q_iload_n hx dX6_hasChain_4 1 rfl ?_
    refine q_aload_n hx dX6_hasChain_5 0 rfl ?_
    refine q_get (v := .int (σ z0 6)) hx q_fl_X6_31 dX6_hasChain_6 (q_ne hz0.1 (by decide)) (q_e6 hz0.1) rfl ?_
    refine q_icmp_ge hx 16 dX6_hasChain_9 (by decide) (fun hc2 => ?_) (fun hc2 => ?_)
    · replace h := (if_pos hc2).symm.trans h
      refine q_iconst (v := 0) hx dX6_hasChain_16 (by decide) ?_
      subst h
      exact q_zret hx hr rfl dX6_hasChain_17
    · replace h := (if_neg hc2).symm.trans h
      refine q_iconst (v := 1) hx dX6_hasChain_12 (by decide) ?_
      refine q_goto hx 17 dX6_hasChain_13 (by decide) ?_
      subst h
      exact q_zret hx hr rfl dX6_hasChain_17
theorem c_X6_hasChain (l : Launch) (G : q_G) (x : q_A) (σ : q_S) (z0 : Nat) (a1 : Int32) (hz0 : q_isPlot z0) : q_Met l yX6_hasChain cX6_hasChain 2 (some .boolean) 1 G [.ref (G.2.1 + z0), .int a1] σ x (q_Qi G x (f_X6_hasChain σ z0 a1) σ) := ca_X6_hasChain l G x σ z0 a1 hz0 rfl
-- X6_directionOf
def f_X6_directionOf (σ : q_S) (z0 : Nat) (a1 : Int32) : Int32 :=
  (f_X9_numberAt σ ((z0 + 1)) 16 a1)
set_option maxHeartbeats 4000000 in
set_option maxRecDepth 100000 in
theorem ca_X6_directionOf (l : Launch) (G : q_G) (x : q_A) (σ : q_S) (z0 : Nat) (a1 : Int32) (hz0 : q_isPlot z0) {res : Int32} (h : f_X6_directionOf σ z0 a1 = res) : q_Met l yX6_directionOf cX6_directionOf 2 (some .int) 2 G [.ref (G.2.1 + z0), .int a1] σ x (q_Qi G x res σ) := by
  refine q_of (by decide) (Nat.le_of_ble_eq_true rfl) (fun X hl0 hx hr => ?_)
  subst hl0
  have hx : q_Cx X G RX6 cX6_directionOf 2 2 := hx
  unfold f_X6_directionOf at h
  show q_Wq X G x 2 (q_MQ X G (q_Qi G x res σ)) 0 0 0 [(0, .ref (G.2.1 + z0)), (1, .int a1)] [] σ
  refine q_aload_n hx dX6_directionOf_0 0 rfl ?_
  refine q_get (v := .ref (G.2.1 + (z0 + 1))) hx q_fl_X6_34 dX6_directionOf_1 (q_ne hz0.1 (by decide)) (q_e6 hz0.1) rfl ?_
  refine q_iload_n hx dX6_directionOf_4 1 rfl ?_
  refine q_callSi (As := [.ref (G.2.1 + (z0 + 1)), .int a1]) (rest := []) hx q_kR0 (c_X9_numberAt (q_Xl X) G x σ ((z0 + 1)) 16 a1 hz0.2.1) q_ml_X6_69 q_mn_X9_numberAt q_ms_X9_numberAt (by decide) rfl (Nat.le_of_ble_eq_true rfl) dX6_directionOf_5 rfl ?_
  subst h
  exact q_iret hx hr dX6_directionOf_8
theorem c_X6_directionOf (l : Launch) (G : q_G) (x : q_A) (σ : q_S) (z0 : Nat) (a1 : Int32) (hz0 : q_isPlot z0) : q_Met l yX6_directionOf cX6_directionOf 2 (some .int) 2 G [.ref (G.2.1 + z0), .int a1] σ x (q_Qi G x (f_X6_directionOf σ z0 a1) σ) := ca_X6_directionOf l G x σ z0 a1 hz0 rfl
-- X6_lengthOf
def f_X6_lengthOf (σ : q_S) (z0 : Nat) (a1 : Int32) : Int32 :=
  (f_X9_numberAt σ ((z0 + 2)) 16 a1)
set_option maxHeartbeats 4000000 in
set_option maxRecDepth 100000 in
theorem ca_X6_lengthOf (l : Launch) (G : q_G) (x : q_A) (σ : q_S) (z0 : Nat) (a1 : Int32) (hz0 : q_isPlot z0) {res : Int32} (h : f_X6_lengthOf σ z0 a1 = res) : q_Met l yX6_lengthOf cX6_lengthOf 2 (some .int) 2 G [.ref (G.2.1 + z0), .int a1] σ x (q_Qi G x res σ) := by
  refine q_of (by decide) (Nat.le_of_ble_eq_true rfl) (fun X hl0 hx hr => ?_)
  subst hl0
  have hx : q_Cx X G RX6 cX6_lengthOf 2 2 := hx
  unfold f_X6_lengthOf at h
  show q_Wq X G x 2 (q_MQ X G (q_Qi G x res σ)) 0 0 0 [(0, .ref (G.2.1 + z0)), (1, .int a1)] [] σ
  refine q_aload_n hx dX6_lengthOf_0 0 rfl ?_
  refine q_get (v := .ref (G.2.1 + (z0 + 2))) hx q_fl_X6_38 dX6_lengthOf_1 (q_ne hz0.1 (by decide)) (q_e6 hz0.1) rfl ?_
  refine q_iload_n hx dX6_lengthOf_4 1 rfl ?_
  refine q_callSi (As := [.ref (G.2.1 + (z0 + 2)), .int a1]) (rest := []) hx q_kR0 (c_X9_numberAt (q_Xl X) G x σ ((z0 + 2)) 16 a1 hz0.2.2) q_ml_X6_69 q_mn_X9_numberAt q_ms_X9_numberAt (by decide) rfl (Nat.le_of_ble_eq_true rfl) dX6_lengthOf_5 rfl ?_
  subst h
  exact q_iret hx hr dX6_lengthOf_8
theorem c_X6_lengthOf (l : Launch) (G : q_G) (x : q_A) (σ : q_S) (z0 : Nat) (a1 : Int32) (hz0 : q_isPlot z0) : q_Met l yX6_lengthOf cX6_lengthOf 2 (some .int) 2 G [.ref (G.2.1 + z0), .int a1] σ x (q_Qi G x (f_X6_lengthOf σ z0 a1) σ) := ca_X6_lengthOf l G x σ z0 a1 hz0 rfl
-- X6_setChain
def f_X6_setChain (σ : q_S) (z0 : Nat) (a1 : Int32) (a2 : Int32) (a3 : Int32) : q_S :=
  (f_X9_setNumberAt ((f_X9_setNumberAt σ ((z0 + 1)) 16 a1 a2)) ((z0 + 2)) 16 a1 a3)
set_option maxHeartbeats 4000000 in
set_option maxRecDepth 100000 in
theorem ca_X6_setChain (l : Launch) (G : q_G) (x : q_A) (σ : q_S) (z0 : Nat) (a1 : Int32) (a2 : Int32) (a3 : Int32) (hz0 : q_isPlot z0) {res : q_S} (h : f_X6_setChain σ z0 a1 a2 a3 = res) : q_Met l yX6_setChain cX6_setChain 4 (none) 2 G [.ref (G.2.1 + z0), .int a1, .int a2, .int a3] σ x (q_Qv G x res) := by
  refine q_of (by decide) (Nat.le_of_ble_eq_true rfl) (fun X hl0 hx hr => ?_)
  subst hl0
  have hx : q_Cx X G RX6 cX6_setChain 4 2 := hx
  unfold f_X6_setChain at h
  show q_Wq X G x 4 (q_MQ X G (q_Qv G x res)) 0 0 0 [(0, .ref (G.2.1 + z0)), (1, .int a1), (2, .int a2), (3, .int a3)] [] σ
  refine q_aload_n hx dX6_setChain_0 0 rfl ?_
  refine q_get (v := .ref (G.2.1 + (z0 + 1))) hx q_fl_X6_34 dX6_setChain_1 (q_ne hz0.1 (by decide)) (q_e6 hz0.1) rfl ?_
  refine q_iload_n hx dX6_setChain_4 1 rfl ?_
  refine q_iload_n hx dX6_setChain_5 2 rfl ?_
  refine q_callSv (As := [.ref (G.2.1 + (z0 + 1)), .int a1, .int a2]) (rest := []) hx q_kR0 (c_X9_setNumberAt (q_Xl X) G x σ ((z0 + 1)) 16 a1 a2 hz0.2.1) q_ml_X6_65 q_mn_X9_setNumberAt q_ms_X9_setNumberAt (by decide) rfl (Nat.le_of_ble_eq_true rfl) dX6_setChain_6 rfl ?_
  refine q_aload_n hx dX6_setChain_9 0 rfl ?_
  refine q_get (v := .ref (G.2.1 + (z0 + 2))) hx q_fl_X6_38 dX6_setChain_10 (q_ne hz0.1 (by decide)) (q_e6 hz0.1) rfl ?_
  refine q_iload_n hx dX6_setChain_13 1 rfl ?_
  refine q_iload_n hx dX6_setChain_14 3 rfl ?_
  refine q_callSv (As := [.ref (G.2.1 + (z0 + 2)), .int a1, .int a3]) (rest := []) hx q_kR0 (c_X9_setNumberAt (q_Xl X) G x ((f_X9_setNumberAt σ ((z0 + 1)) 16 a1 a2)) ((z0 + 2)) 16 a1 a3 hz0.2.2) q_ml_X6_65 q_mn_X9_setNumberAt q_ms_X9_setNumberAt (by decide) rfl (Nat.le_of_ble_eq_true rfl) dX6_setChain_15 rfl ?_
  subst h
  exact q_vret hx hr dX6_setChain_18
theorem c_X6_setChain (l : Launch) (G : q_G) (x : q_A) (σ : q_S) (z0 : Nat) (a1 : Int32) (a2 : Int32) (a3 : Int32) (hz0 : q_isPlot z0) : q_Met l yX6_setChain cX6_setChain 4 (none) 2 G [.ref (G.2.1 + z0), .int a1, .int a2, .int a3] σ x (q_Qv G x (f_X6_setChain σ z0 a1 a2 a3)) := ca_X6_setChain l G x σ z0 a1 a2 a3 hz0 rfl
-- X6_begin
def f_X6_begin (σ : q_S) (z0 : Nat) (a1 : Int32) (a2 : Int32) : q_S :=
  q_up (q_up (q_up (q_up (q_up (q_up (q_up σ z0 0 1) z0 1 0) z0 2 a1) z0 3 a2) z0 4 a1) z0 5 a2) z0 6 0
set_option maxHeartbeats 4000000 in
set_option maxRecDepth 100000 in
theorem ca_X6_begin (l : Launch) (G : q_G) (x : q_A) (σ : q_S) (z0 : Nat) (a1 : Int32) (a2 : Int32) (hz0 : q_isPlot z0) {res : q_S} (h : f_X6_begin σ z0 a1 a2 = res) : q_Met l yX6_begin cX6_begin 3 (none) 1 G [.ref (G.2.1 + z0), .int a1, .int a2] σ x (q_Qv G x res) := by
  refine q_of (by decide) (Nat.le_of_ble_eq_true rfl) (fun X hl0 hx hr => ?_)
  subst hl0
  have hx : q_Cx X G RX6 cX6_begin 3 1 := hx
  unfold f_X6_begin at h
  show q_Wq X G x 3 (q_MQ X G (q_Qv G x res)) 0 0 0 [(0, .ref (G.2.1 + z0)), (1, .int a1), (2, .int a2)] [] σ
  refine q_aload_n hx dX6_begin_0 0 rfl ?_
  refine q_iconst (v := 1) hx dX6_begin_1 (by decide) ?_
  refine q_put (v := 1) hx q_fl_X6_9 q_fp_6_0 dX6_begin_2 (q_ne hz0.1 (by decide)) (q_e6 hz0.1) (by rw [q_l6]; decide) rfl rfl (by rw [q_e6 hz0.1, q_s6_0]) ?_
  refine q_aload_n hx dX6_begin_5 0 rfl ?_
  refine q_iconst (v := 0) hx dX6_begin_6 (by decide) ?_
  refine q_put (v := 0) hx q_fl_X6_15 q_fp_6_1 dX6_begin_7 (q_ne hz0.1 (by decide)) (q_e6 hz0.1) (by rw [q_l6]; decide) rfl rfl (by rw [q_e6 hz0.1, q_s6_1]) ?_
  refine q_aload_n hx dX6_begin_10 0 rfl ?_
  refine q_iload_n hx dX6_begin_11 1 rfl ?_
  refine q_put (v := a1) hx q_fl_X6_18 q_fp_6_2 dX6_begin_12 (q_ne hz0.1 (by decide)) (q_e6 hz0.1) (by rw [q_l6]; decide) rfl rfl (by rw [q_e6 hz0.1, q_s6_2]) ?_
  refine q_aload_n hx dX6_begin_15 0 rfl ?_
  refine q_iload_n hx dX6_begin_16 2 rfl ?_
  refine q_put (v := a2) hx q_fl_X6_22 q_fp_6_3 dX6_begin_17 (q_ne hz0.1 (by decide)) (q_e6 hz0.1) (by rw [q_l6]; decide) rfl rfl (by rw [q_e6 hz0.1, q_s6_3]) ?_
  refine q_aload_n hx dX6_begin_20 0 rfl ?_
  refine q_iload_n hx dX6_begin_21 1 rfl ?_
  refine q_put (v := a1) hx q_fl_X6_25 q_fp_6_4 dX6_begin_22 (q_ne hz0.1 (by decide)) (q_e6 hz0.1) (by rw [q_l6]; decide) rfl rfl (by rw [q_e6 hz0.1, q_s6_4]) ?_
  refine q_aload_n hx dX6_begin_25 0 rfl ?_
  refine q_iload_n hx dX6_begin_26 2 rfl ?_
  refine q_put (v := a2) hx q_fl_X6_28 q_fp_6_5 dX6_begin_27 (q_ne hz0.1 (by decide)) (q_e6 hz0.1) (by rw [q_l6]; decide) rfl rfl (by rw [q_e6 hz0.1, q_s6_5]) ?_
  refine q_aload_n hx dX6_begin_30 0 rfl ?_
  refine q_iconst (v := 0) hx dX6_begin_31 (by decide) ?_
  refine q_put (v := 0) hx q_fl_X6_31 q_fp_6_6 dX6_begin_32 (q_ne hz0.1 (by decide)) (q_e6 hz0.1) (by rw [q_l6]; decide) rfl rfl (by rw [q_e6 hz0.1, q_s6_6]) ?_
  subst h
  exact q_vret hx hr dX6_begin_35
theorem c_X6_begin (l : Launch) (G : q_G) (x : q_A) (σ : q_S) (z0 : Nat) (a1 : Int32) (a2 : Int32) (hz0 : q_isPlot z0) : q_Met l yX6_begin cX6_begin 3 (none) 1 G [.ref (G.2.1 + z0), .int a1, .int a2] σ x (q_Qv G x (f_X6_begin σ z0 a1 a2)) := ca_X6_begin l G x σ z0 a1 a2 hz0 rfl
-- X6_end
def f_X6_end (σ : q_S) (z0 : Nat) : q_S :=
  q_up (q_up (q_up σ z0 0 0) z0 1 0) z0 6 0
set_option maxHeartbeats 4000000 in
set_option maxRecDepth 100000 in
theorem ca_X6_end (l : Launch) (G : q_G) (x : q_A) (σ : q_S) (z0 : Nat) (hz0 : q_isPlot z0) {res : q_S} (h : f_X6_end σ z0 = res) : q_Met l yX6_end cX6_end 1 (none) 1 G [.ref (G.2.1 + z0)] σ x (q_Qv G x res) := by
  refine q_of (by decide) (Nat.le_of_ble_eq_true rfl) (fun X hl0 hx hr => ?_)
  subst hl0
  have hx : q_Cx X G RX6 cX6_end 1 1 := hx
  unfold f_X6_end at h
  show q_Wq X G x 1 (q_MQ X G (q_Qv G x res)) 0 0 0 [(0, .ref (G.2.1 + z0))] [] σ
  refine q_aload_n hx dX6_end_0 0 rfl ?_
  refine q_iconst (v := 0) hx dX6_end_1 (by decide) ?_
  refine q_put (v := 0) hx q_fl_X6_9 q_fp_6_0 dX6_end_2 (q_ne hz0.1 (by decide)) (q_e6 hz0.1) (by rw [q_l6]; decide) rfl rfl (by rw [q_e6 hz0.1, q_s6_0]) ?_
  refine q_aload_n hx dX6_end_5 0 rfl ?_
  refine q_iconst (v := 0) hx dX6_end_6 (by decide) ?_
  refine q_put (v := 0) hx q_fl_X6_15 q_fp_6_1 dX6_end_7 (q_ne hz0.1 (by decide)) (q_e6 hz0.1) (by rw [q_l6]; decide) rfl rfl (by rw [q_e6 hz0.1, q_s6_1]) ?_
  refine q_aload_n hx dX6_end_10 0 rfl ?_
  refine q_iconst (v := 0) hx dX6_end_11 (by decide) ?_
  refine q_put (v := 0) hx q_fl_X6_31 q_fp_6_6 dX6_end_12 (q_ne hz0.1 (by decide)) (q_e6 hz0.1) (by rw [q_l6]; decide) rfl rfl (by rw [q_e6 hz0.1, q_s6_6]) ?_
  subst h
  exact q_vret hx hr dX6_end_15
theorem c_X6_end (l : Launch) (G : q_G) (x : q_A) (σ : q_S) (z0 : Nat) (hz0 : q_isPlot z0) : q_Met l yX6_end cX6_end 1 (none) 1 G [.ref (G.2.1 + z0)] σ x (q_Qv G x (f_X6_end σ z0)) := ca_X6_end l G x σ z0 hz0 rfl
-- X6_startX
def f_X6_startX_7 (z0 : Nat) (σ : q_S) : Nat → Int32 → Int32 → Int32 → Option (Int32)
  | 0, _, _, _ => none
  | n + 1, v1, v2, v3 =>
    if v1 ≤ v3 then (some v2) else (if (σ z0 6) ≤ v3 then (some v2) else (f_X6_startX_7 z0 σ n v1 (v2 + (((f_X9_stepX ((f_X6_directionOf σ z0 v3)))) * ((f_X6_lengthOf σ z0 v3)))) (v3 + 1)))
set_option maxHeartbeats 4000000 in
set_option maxRecDepth 100000 in
theorem s_X6_startX_7 {X : q_X} {G : q_G} {x : q_A} (z0 : Nat) (σ : q_S) (hx : q_Cx X G RX6 cX6_startX 4 3) (hr : (q_Xm X).sig.returnType = some .int) (hz0 : q_isPlot z0) {res : Int32} : ∀ (n : Nat) (v1 : Int32) (v2 : Int32) (v3 : Int32), f_X6_startX_7 z0 σ n v1 v2 v3 = some res → q_Wq X G x 4 (q_MQ X G (q_Qi G x res σ)) 0 0 7 [(0, .ref (G.2.1 + z0)), (1, .int v1), (2, .int v2), (3, .int v3)] [] σ := by
  intro n
  induction n with
  | zero => exact fun _ _ _ h => nomatch (show (none : Option (Int32)) = some res from h)
  | succ n ih =>
    intro v1 v2 v3 h
    rw [f_X6_startX_7] at h
    refine q_iload_n hx dX6_startX_7 3 rfl ?_
    refine q_iload_n hx dX6_startX_8 1 rfl ?_
    refine q_icmp_ge hx 43 dX6_startX_9 (by decide) (fun hc1 => ?_) (fun hc1 => ?_)
    · replace h := (if_pos hc1).symm.trans h
      refine q_iload_n hx dX6_startX_43 2 rfl ?_
      cases h
      exact q_iret hx hr dX6_startX_44
    · replace h := (if_neg hc1).symm.trans h
      refine q_iload_n hx dX6_startX_12 3 rfl ?_
      refine q_aload_n hx dX6_startX_13 0 rfl ?_
      refine q_get (v := .int (σ z0 6)) hx q_fl_X6_31 dX6_startX_14 (q_ne hz0.1 (by decide)) (q_e6 hz0.1) rfl ?_
      refine q_icmp_ge hx 43 dX6_startX_17 (by decide) (fun hc2 => ?_) (fun hc2 => ?_)
      · replace h := (if_pos hc2).symm.trans h
        refine q_iload_n hx dX6_startX_43 2 rfl ?_
        cases h
        exact q_iret hx hr dX6_startX_44
      · replace h := (if_neg hc2).symm.trans h
        refine q_iload_n hx dX6_startX_20 2 rfl ?_
        refine q_aload_n hx dX6_startX_21 0 rfl ?_
        refine q_iload_n hx dX6_startX_22 3 rfl ?_
        refine q_callVi (As := [.int v3]) (rest := [.int v2]) hx q_kR0 (c_X6_directionOf (q_Xl X) G x σ z0 v3 hz0) q_ml_X6_56 q_mn_X6_directionOf q_mi_X6_directionOf q_se_X6_directionOf (by decide) rfl (Nat.le_of_ble_eq_true rfl) dX6_startX_23 (q_ne hz0.1 (by decide)) (q_e6 hz0.1) rfl rfl rfl ?_
        refine q_callSi (As := [.int ((f_X6_directionOf σ z0 v3))]) (rest := [.int v2]) hx q_kR0 (c_X9_stepX (q_Xl X) G x σ ((f_X6_directionOf σ z0 v3))) q_ml_X6_49 q_mn_X9_stepX q_ms_X9_stepX (by decide) rfl (Nat.le_of_ble_eq_true rfl) dX6_startX_26 rfl ?_
        refine q_aload_n hx dX6_startX_29 0 rfl ?_
        refine q_iload_n hx dX6_startX_30 3 rfl ?_
        refine q_callVi (As := [.int v3]) (rest := [.int ((f_X9_stepX ((f_X6_directionOf σ z0 v3)))), .int v2]) hx q_kR0 (c_X6_lengthOf (q_Xl X) G x σ z0 v3 hz0) q_ml_X6_59 q_mn_X6_lengthOf q_mi_X6_lengthOf q_se_X6_lengthOf (by decide) rfl (Nat.le_of_ble_eq_true rfl) dX6_startX_31 (q_ne hz0.1 (by decide)) (q_e6 hz0.1) rfl rfl rfl ?_
        refine q_imul hx dX6_startX_34 ?_
        refine q_iadd hx dX6_startX_35 ?_
        refine q_istore_n hx [(2, .int (v2 + (((f_X9_stepX ((f_X6_directionOf σ z0 v3)))) * ((f_X6_lengthOf σ z0 v3))))), (0, .ref (G.2.1 + z0)), (1, .int v1), (3, .int v3)] dX6_startX_36 (by decide) rfl ?_
        refine q_iinc hx [(3, .int (v3 + 1)), (2, .int (v2 + (((f_X9_stepX ((f_X6_directionOf σ z0 v3)))) * ((f_X6_lengthOf σ z0 v3))))), (0, .ref (G.2.1 + z0)), (1, .int v1)] dX6_startX_37 3 rfl rfl (by decide) rfl ?_
        refine q_goto hx 7 dX6_startX_40 (by decide) ?_
        refine q_sub [2, 3, 1, 0] rfl ?_
        exact ih v1 (v2 + (((f_X9_stepX ((f_X6_directionOf σ z0 v3)))) * ((f_X6_lengthOf σ z0 v3)))) (v3 + 1) h
def f_X6_startX (σ : q_S) (z0 : Nat) (a1 : Int32) : Option (Int32) :=
  f_X6_startX_7 z0 σ q_fu a1 (σ z0 2) 0
set_option maxHeartbeats 4000000 in
set_option maxRecDepth 100000 in
theorem c_X6_startX (l : Launch) (G : q_G) (x : q_A) (σ : q_S) (z0 : Nat) (a1 : Int32) (hz0 : q_isPlot z0) {res : Int32} (h : f_X6_startX σ z0 a1 = some res) : q_Met l yX6_startX cX6_startX 4 (some .int) 3 G [.ref (G.2.1 + z0), .int a1] σ x (q_Qi G x res σ) := by
  refine q_of (by decide) (Nat.le_of_ble_eq_true rfl) (fun X hl0 hx hr => ?_)
  subst hl0
  have hx : q_Cx X G RX6 cX6_startX 4 3 := hx
  unfold f_X6_startX at h
  show q_Wq X G x 4 (q_MQ X G (q_Qi G x res σ)) 0 0 0 [(0, .ref (G.2.1 + z0)), (1, .int a1)] [] σ
  refine q_aload_n hx dX6_startX_0 0 rfl ?_
  refine q_get (v := .int (σ z0 2)) hx q_fl_X6_18 dX6_startX_1 (q_ne hz0.1 (by decide)) (q_e6 hz0.1) rfl ?_
  refine q_istore_n hx [(2, .int (σ z0 2)), (0, .ref (G.2.1 + z0)), (1, .int a1)] dX6_startX_4 (by decide) rfl ?_
  refine q_iconst (v := 0) hx dX6_startX_5 (by decide) ?_
  refine q_istore_n hx [(3, .int 0), (2, .int (σ z0 2)), (0, .ref (G.2.1 + z0)), (1, .int a1)] dX6_startX_6 (by decide) rfl ?_
  refine q_sub [2, 3, 1, 0] rfl ?_
  exact s_X6_startX_7 z0 σ hx hr hz0 q_fu a1 (σ z0 2) 0 h
-- X6_startY
def f_X6_startY_7 (z0 : Nat) (σ : q_S) : Nat → Int32 → Int32 → Int32 → Option (Int32)
  | 0, _, _, _ => none
  | n + 1, v1, v2, v3 =>
    if v1 ≤ v3 then (some v2) else (if (σ z0 6) ≤ v3 then (some v2) else (f_X6_startY_7 z0 σ n v1 (v2 + (((f_X9_stepY ((f_X6_directionOf σ z0 v3)))) * ((f_X6_lengthOf σ z0 v3)))) (v3 + 1)))
set_option maxHeartbeats 4000000 in
set_option maxRecDepth 100000 in
theorem s_X6_startY_7 {X : q_X} {G : q_G} {x : q_A} (z0 : Nat) (σ : q_S) (hx : q_Cx X G RX6 cX6_startY 4 3) (hr : (q_Xm X).sig.returnType = some .int) (hz0 : q_isPlot z0) {res : Int32} : ∀ (n : Nat) (v1 : Int32) (v2 : Int32) (v3 : Int32), f_X6_startY_7 z0 σ n v1 v2 v3 = some res → q_Wq X G x 4 (q_MQ X G (q_Qi G x res σ)) 0 0 7 [(0, .ref (G.2.1 + z0)), (1, .int v1), (2, .int v2), (3, .int v3)] [] σ := by
  intro n
  induction n with
  | zero => exact fun _ _ _ h => nomatch (show (none : Option (Int32)) = some res from h)
  | succ n ih =>
    intro v1 v2 v3 h
    rw [f_X6_startY_7] at h
    refine q_iload_n hx dX6_startY_7 3 rfl ?_
    refine q_iload_n hx dX6_startY_8 1 rfl ?_
    refine q_icmp_ge hx 43 dX6_startY_9 (by decide) (fun hc1 => ?_) (fun hc1 => ?_)
    · replace h := (if_pos hc1).symm.trans h
      refine q_iload_n hx dX6_startY_43 2 rfl ?_
      cases h
      exact q_iret hx hr dX6_startY_44
    · replace h := (if_neg hc1).symm.trans h
      refine q_iload_n hx dX6_startY_12 3 rfl ?_
      refine q_aload_n hx dX6_startY_13 0 rfl ?_
      refine q_get (v := .int (σ z0 6)) hx q_fl_X6_31 dX6_startY_14 (q_ne hz0.1 (by decide)) (q_e6 hz0.1) rfl ?_
      refine q_icmp_ge hx 43 dX6_startY_17 (by decide) (fun hc2 => ?_) (fun hc2 => ?_)
      · replace h := (if_pos hc2).symm.trans h
        refine q_iload_n hx dX6_startY_43 2 rfl ?_
        cases h
        exact q_iret hx hr dX6_startY_44
      · replace h := (if_neg hc2).symm.trans h
        refine q_iload_n hx dX6_startY_20 2 rfl ?_
        refine q_aload_n hx dX6_startY_21 0 rfl ?_
        refine q_iload_n hx dX6_startY_22 3 rfl ?_
        refine q_callVi (As := [.int v3]) (rest := [.int v2]) hx q_kR0 (c_X6_directionOf (q_Xl X) G x σ z0 v3 hz0) q_ml_X6_56 q_mn_X6_directionOf q_mi_X6_directionOf q_se_X6_directionOf (by decide) rfl (Nat.le_of_ble_eq_true rfl) dX6_startY_23 (q_ne hz0.1 (by decide)) (q_e6 hz0.1) rfl rfl rfl ?_
        refine q_callSi (As := [.int ((f_X6_directionOf σ z0 v3))]) (rest := [.int v2]) hx q_kR0 (c_X9_stepY (q_Xl X) G x σ ((f_X6_directionOf σ z0 v3))) q_ml_X6_53 q_mn_X9_stepY q_ms_X9_stepY (by decide) rfl (Nat.le_of_ble_eq_true rfl) dX6_startY_26 rfl ?_
        refine q_aload_n hx dX6_startY_29 0 rfl ?_
        refine q_iload_n hx dX6_startY_30 3 rfl ?_
        refine q_callVi (As := [.int v3]) (rest := [.int ((f_X9_stepY ((f_X6_directionOf σ z0 v3)))), .int v2]) hx q_kR0 (c_X6_lengthOf (q_Xl X) G x σ z0 v3 hz0) q_ml_X6_59 q_mn_X6_lengthOf q_mi_X6_lengthOf q_se_X6_lengthOf (by decide) rfl (Nat.le_of_ble_eq_true rfl) dX6_startY_31 (q_ne hz0.1 (by decide)) (q_e6 hz0.1) rfl rfl rfl ?_
        refine q_imul hx dX6_startY_34 ?_
        refine q_iadd hx dX6_startY_35 ?_
        refine q_istore_n hx [(2, .int (v2 + (((f_X9_stepY ((f_X6_directionOf σ z0 v3)))) * ((f_X6_lengthOf σ z0 v3))))), (0, .ref (G.2.1 + z0)), (1, .int v1), (3, .int v3)] dX6_startY_36 (by decide) rfl ?_
        refine q_iinc hx [(3, .int (v3 + 1)), (2, .int (v2 + (((f_X9_stepY ((f_X6_directionOf σ z0 v3)))) * ((f_X6_lengthOf σ z0 v3))))), (0, .ref (G.2.1 + z0)), (1, .int v1)] dX6_startY_37 3 rfl rfl (by decide) rfl ?_
        refine q_goto hx 7 dX6_startY_40 (by decide) ?_
        refine q_sub [2, 3, 1, 0] rfl ?_
        exact ih v1 (v2 + (((f_X9_stepY ((f_X6_directionOf σ z0 v3)))) * ((f_X6_lengthOf σ z0 v3)))) (v3 + 1) h
def f_X6_startY (σ : q_S) (z0 : Nat) (a1 : Int32) : Option (Int32) :=
  f_X6_startY_7 z0 σ q_fu a1 (σ z0 3) 0
set_option maxHeartbeats 4000000 in
set_option maxRecDepth 100000 in
theorem c_X6_startY (l : Launch) (G : q_G) (x : q_A) (σ : q_S) (z0 : Nat) (a1 : Int32) (hz0 : q_isPlot z0) {res : Int32} (h : f_X6_startY σ z0 a1 = some res) : q_Met l yX6_startY cX6_startY 4 (some .int) 3 G [.ref (G.2.1 + z0), .int a1] σ x (q_Qi G x res σ) := by
  refine q_of (by decide) (Nat.le_of_ble_eq_true rfl) (fun X hl0 hx hr => ?_)
  subst hl0
  have hx : q_Cx X G RX6 cX6_startY 4 3 := hx
  unfold f_X6_startY at h
  show q_Wq X G x 4 (q_MQ X G (q_Qi G x res σ)) 0 0 0 [(0, .ref (G.2.1 + z0)), (1, .int a1)] [] σ
  refine q_aload_n hx dX6_startY_0 0 rfl ?_
  refine q_get (v := .int (σ z0 3)) hx q_fl_X6_22 dX6_startY_1 (q_ne hz0.1 (by decide)) (q_e6 hz0.1) rfl ?_
  refine q_istore_n hx [(2, .int (σ z0 3)), (0, .ref (G.2.1 + z0)), (1, .int a1)] dX6_startY_4 (by decide) rfl ?_
  refine q_iconst (v := 0) hx dX6_startY_5 (by decide) ?_
  refine q_istore_n hx [(3, .int 0), (2, .int (σ z0 3)), (0, .ref (G.2.1 + z0)), (1, .int a1)] dX6_startY_6 (by decide) rfl ?_
  refine q_sub [2, 3, 1, 0] rfl ?_
  exact s_X6_startY_7 z0 σ hx hr hz0 q_fu a1 (σ z0 3) 0 h
-- X6_corners
def f_X6_corners_24 (z0 : Nat) (σ : q_S) : Nat → Int32 → Int32 → Option (Int32)
  | 0, _, _ => none
  | n + 1, v1, v2 =>
    if (σ z0 6) ≤ v2 then (some v1) else (f_X6_corners_24 z0 σ n (v1 + ((f_X6_lengthOf σ z0 v2))) (v2 + 1))
set_option maxHeartbeats 4000000 in
set_option maxRecDepth 100000 in
theorem s_X6_corners_24 {X : q_X} {G : q_G} {x : q_A} (z0 : Nat) (σ : q_S) (hx : q_Cx X G RX6 cX6_corners 3 3) (hr : (q_Xm X).sig.returnType = some .int) (hz0 : q_isPlot z0) {res : Int32} : ∀ (n : Nat) (v1 : Int32) (v2 : Int32), f_X6_corners_24 z0 σ n v1 v2 = some res → q_Wq X G x 3 (q_MQ X G (q_Qi G x res σ)) 0 0 24 [(0, .ref (G.2.1 + z0)), (1, .int v1), (2, .int v2)] [] σ := by
  intro n
  induction n with
  | zero => exact fun _ _ h => nomatch (show (none : Option (Int32)) = some res from h)
  | succ n ih =>
    intro v1 v2 h
    rw [f_X6_corners_24] at h
    refine q_iload_n hx dX6_corners_24 2 rfl ?_
    refine q_aload_n hx dX6_corners_25 0 rfl ?_
    refine q_get (v := .int (σ z0 6)) hx q_fl_X6_31 dX6_corners_26 (q_ne hz0.1 (by decide)) (q_e6 hz0.1) rfl ?_
    refine q_icmp_ge hx 46 dX6_corners_29 (by decide) (fun hc3 => ?_) (fun hc3 => ?_)
    · replace h := (if_pos hc3).symm.trans h
      refine q_iload_n hx dX6_corners_46 1 rfl ?_
      cases h
      exact q_iret hx hr dX6_corners_47
    · replace h := (if_neg hc3).symm.trans h
      refine q_iload_n hx dX6_corners_32 1 rfl ?_
      refine q_aload_n hx dX6_corners_33 0 rfl ?_
      refine q_iload_n hx dX6_corners_34 2 rfl ?_
      refine q_callVi (As := [.int v2]) (rest := [.int v1]) hx q_kR0 (c_X6_lengthOf (q_Xl X) G x σ z0 v2 hz0) q_ml_X6_59 q_mn_X6_lengthOf q_mi_X6_lengthOf q_se_X6_lengthOf (by decide) rfl (Nat.le_of_ble_eq_true rfl) dX6_corners_35 (q_ne hz0.1 (by decide)) (q_e6 hz0.1) rfl rfl rfl ?_
      refine q_iadd hx dX6_corners_38 ?_
      refine q_istore_n hx [(1, .int (v1 + ((f_X6_lengthOf σ z0 v2)))), (0, .ref (G.2.1 + z0)), (2, .int v2)] dX6_corners_39 (by decide) rfl ?_
      refine q_iinc hx [(2, .int (v2 + 1)), (1, .int (v1 + ((f_X6_lengthOf σ z0 v2)))), (0, .ref (G.2.1 + z0))] dX6_corners_40 2 rfl rfl (by decide) rfl ?_
      refine q_goto hx 24 dX6_corners_43 (by decide) ?_
      refine q_sub [2, 1, 0] rfl ?_
      exact ih (v1 + ((f_X6_lengthOf σ z0 v2))) (v2 + 1) h
def f_X6_corners (σ : q_S) (z0 : Nat) : Option (Int32) :=
  if (σ z0 0) = 0 then (some 0) else (if (σ z0 1) = 0 then (f_X6_corners_24 z0 σ q_fu 1 0) else (f_X6_corners_24 z0 σ q_fu 0 0))
set_option maxHeartbeats 4000000 in
set_option maxRecDepth 100000 in
theorem c_X6_corners (l : Launch) (G : q_G) (x : q_A) (σ : q_S) (z0 : Nat) (hz0 : q_isPlot z0) {res : Int32} (h : f_X6_corners σ z0 = some res) : q_Met l yX6_corners cX6_corners 3 (some .int) 3 G [.ref (G.2.1 + z0)] σ x (q_Qi G x res σ) := by
  refine q_of (by decide) (Nat.le_of_ble_eq_true rfl) (fun X hl0 hx hr => ?_)
  subst hl0
  have hx : q_Cx X G RX6 cX6_corners 3 3 := hx
  unfold f_X6_corners at h
  show q_Wq X G x 3 (q_MQ X G (q_Qi G x res σ)) 0 0 0 [(0, .ref (G.2.1 + z0))] [] σ
  refine q_aload_n hx dX6_corners_0 0 rfl ?_
  refine q_get (v := .int (σ z0 0)) hx q_fl_X6_9 dX6_corners_1 (q_ne hz0.1 (by decide)) (q_e6 hz0.1) rfl ?_
  refine q_if_ne hx 9 dX6_corners_4 (by decide) (fun hc1 => ?_) (fun hc1 => ?_)
  · replace h := (if_neg hc1).symm.trans h
    refine q_aload_n hx dX6_corners_9 0 rfl ?_
    refine q_get (v := .int (σ z0 1)) hx q_fl_X6_15 dX6_corners_10 (q_ne hz0.1 (by decide)) (q_e6 hz0.1) rfl ?_
    refine q_if_eq hx 20 dX6_corners_13 (by decide) (fun hc2 => ?_) (fun hc2 => ?_)
    · replace h := (if_pos hc2).symm.trans h
      refine q_iconst (v := 1) hx dX6_corners_20 (by decide) ?_
      refine q_istore_n hx [(1, .int 1), (0, .ref (G.2.1 + z0))] dX6_corners_21 (by decide) rfl ?_
      refine q_iconst (v := 0) hx dX6_corners_22 (by decide) ?_
      refine q_istore_n hx [(2, .int 0), (1, .int 1), (0, .ref (G.2.1 + z0))] dX6_corners_23 (by decide) rfl ?_
      refine q_sub [2, 1, 0] rfl ?_
      exact s_X6_corners_24 z0 σ hx hr hz0 q_fu 1 0 h
    · replace h := (if_neg hc2).symm.trans h
      refine q_iconst (v := 0) hx dX6_corners_16 (by decide) ?_
      refine q_goto hx 21 dX6_corners_17 (by decide) ?_
      refine q_istore_n hx [(1, .int 0), (0, .ref (G.2.1 + z0))] dX6_corners_21 (by decide) rfl ?_
      refine q_iconst (v := 0) hx dX6_corners_22 (by decide) ?_
      refine q_istore_n hx [(2, .int 0), (1, .int 0), (0, .ref (G.2.1 + z0))] dX6_corners_23 (by decide) rfl ?_
      refine q_sub [2, 1, 0] rfl ?_
      exact s_X6_corners_24 z0 σ hx hr hz0 q_fu 0 0 h
  · replace h := (if_pos hc1).symm.trans h
    refine q_iconst (v := 0) hx dX6_corners_7 (by decide) ?_
    cases h
    exact q_iret hx hr dX6_corners_8
-- X6_goesOver
def f_X6_goesOver_113 (z0 : Nat) (σ : q_S) (k15 : Int32 → Int32 → Int32 → Int32 → Int32 → Int32 → Option (Int32)) (v1 : Int32) (v2 : Int32) (v3 : Int32) (v6 : Int32) (v7 : Int32) (v8 : Int32) (s0 : Int32) : Option (Int32) :=
  if s0 = 0 then (k15 v1 v2 v3 v7 v8 (v6 + 1)) else (if v6 = v3 then (k15 v1 v2 v3 v7 v8 (v6 + 1)) else (some 1))
set_option maxHeartbeats 4000000 in
set_option maxRecDepth 100000 in
theorem s_X6_goesOver_113 {X : q_X} {G : q_G} {x : q_A} (z0 : Nat) (σ : q_S) (hx : q_Cx X G RX6 cX6_goesOver 10 3) (hr : (q_Xm X).sig.returnType = some .boolean) (hz0 : q_isPlot z0) {res : Int32} {k15 : Int32 → Int32 → Int32 → Int32 → Int32 → Int32 → Option (Int32)} (hk15 : ∀ (v1 : Int32) (v2 : Int32) (v3 : Int32) (v4 : Int32) (v5 : Int32) (v6 : Int32), k15 v1 v2 v3 v4 v5 v6 = some res → q_Wq X G x 10 (q_MQ X G (q_Qi G x res σ)) 0 0 15 [(0, .ref (G.2.1 + z0)), (1, .int v1), (2, .int v2), (3, .int v3), (4, .int v4), (5, .int v5), (6, .int v6)] [] σ) : ∀ (v1 : Int32) (v2 : Int32) (v3 : Int32) (v6 : Int32) (v7 : Int32) (v8 : Int32) (s0 : Int32), f_X6_goesOver_113 z0 σ k15 v1 v2 v3 v6 v7 v8 s0 = some res → q_Wq X G x 10 (q_MQ X G (q_Qi G x res σ)) 0 0 113 [(0, .ref (G.2.1 + z0)), (1, .int v1), (2, .int v2), (3, .int v3), (6, .int v6), (7, .int v7), (8, .int v8)] [.int s0] σ := by
  intro v1 v2 v3 v6 v7 v8 s0 h
  unfold f_X6_goesOver_113 at h
  refine q_istore hx [(9, .int s0), (0, .ref (G.2.1 + z0)), (1, .int v1), (2, .int v2), (3, .int v3), (6, .int v6), (7, .int v7), (8, .int v8)] dX6_goesOver_113 (by decide) rfl ?_
  refine q_iload hx dX6_goesOver_115 0 rfl ?_
  refine q_if_eq hx 128 dX6_goesOver_117 (by decide) (fun hc3 => ?_) (fun hc3 => ?_)
  · replace h := (if_pos hc3).symm.trans h
    refine q_iload hx dX6_goesOver_128 6 rfl ?_
    refine q_istore hx [(4, .int v7), (9, .int s0), (0, .ref (G.2.1 + z0)), (1, .int v1), (2, .int v2), (3, .int v3), (6, .int v6), (7, .int v7), (8, .int v8)] dX6_goesOver_130 (by decide) rfl ?_
    refine q_iload hx dX6_goesOver_132 8 rfl ?_
    refine q_istore hx [(5, .int v8), (4, .int v7), (9, .int s0), (0, .ref (G.2.1 + z0)), (1, .int v1), (2, .int v2), (3, .int v3), (6, .int v6), (7, .int v7), (8, .int v8)] dX6_goesOver_134 (by decide) rfl ?_
    refine q_iinc hx [(6, .int (v6 + 1)), (5, .int v8), (4, .int v7), (9, .int s0), (0, .ref (G.2.1 + z0)), (1, .int v1), (2, .int v2), (3, .int v3), (7, .int v7), (8, .int v8)] dX6_goesOver_136 7 rfl rfl (by decide) rfl ?_
    refine q_goto hx 15 dX6_goesOver_139 (by decide) ?_
    refine q_sub [4, 5, 6, 7, 2, 1, 0] rfl ?_
    exact hk15 v1 v2 v3 v7 v8 (v6 + 1) h
  · replace h := (if_neg hc3).symm.trans h
    refine q_iload hx dX6_goesOver_120 5 rfl ?_
    refine q_iload_n hx dX6_goesOver_122 4 rfl ?_
    refine q_icmp_eq hx 128 dX6_goesOver_123 (by decide) (fun hc4 => ?_) (fun hc4 => ?_)
    · replace h := (if_pos hc4).symm.trans h
      refine q_iload hx dX6_goesOver_128 6 rfl ?_
      refine q_istore hx [(4, .int v7), (9, .int s0), (0, .ref (G.2.1 + z0)), (1, .int v1), (2, .int v2), (3, .int v3), (6, .int v6), (7, .int v7), (8, .int v8)] dX6_goesOver_130 (by decide) rfl ?_
      refine q_iload hx dX6_goesOver_132 8 rfl ?_
      refine q_istore hx [(5, .int v8), (4, .int v7), (9, .int s0), (0, .ref (G.2.1 + z0)), (1, .int v1), (2, .int v2), (3, .int v3), (6, .int v6), (7, .int v7), (8, .int v8)] dX6_goesOver_134 (by decide) rfl ?_
      refine q_iinc hx [(6, .int (v6 + 1)), (5, .int v8), (4, .int v7), (9, .int s0), (0, .ref (G.2.1 + z0)), (1, .int v1), (2, .int v2), (3, .int v3), (7, .int v7), (8, .int v8)] dX6_goesOver_136 7 rfl rfl (by decide) rfl ?_
      refine q_goto hx 15 dX6_goesOver_139 (by decide) ?_
      refine q_sub [4, 5, 6, 7, 2, 1, 0] rfl ?_
      exact hk15 v1 v2 v3 v7 v8 (v6 + 1) h
    · replace h := (if_neg hc4).symm.trans h
      refine q_iconst (v := 1) hx dX6_goesOver_126 (by decide) ?_
      cases h
      exact q_zret hx hr rfl dX6_goesOver_127
def f_X6_goesOver_112 (z0 : Nat) (σ : q_S) (k15 : Int32 → Int32 → Int32 → Int32 → Int32 → Int32 → Option (Int32)) (v1 : Int32) (v2 : Int32) (v3 : Int32) (v6 : Int32) (v7 : Int32) (v8 : Int32) : Option (Int32) :=
  f_X6_goesOver_113 z0 σ k15 v1 v2 v3 v6 v7 v8 0
set_option maxHeartbeats 4000000 in
set_option maxRecDepth 100000 in
theorem s_X6_goesOver_112 {X : q_X} {G : q_G} {x : q_A} (z0 : Nat) (σ : q_S) (hx : q_Cx X G RX6 cX6_goesOver 10 3) (hr : (q_Xm X).sig.returnType = some .boolean) (hz0 : q_isPlot z0) {res : Int32} {k15 : Int32 → Int32 → Int32 → Int32 → Int32 → Int32 → Option (Int32)} (hk15 : ∀ (v1 : Int32) (v2 : Int32) (v3 : Int32) (v4 : Int32) (v5 : Int32) (v6 : Int32), k15 v1 v2 v3 v4 v5 v6 = some res → q_Wq X G x 10 (q_MQ X G (q_Qi G x res σ)) 0 0 15 [(0, .ref (G.2.1 + z0)), (1, .int v1), (2, .int v2), (3, .int v3), (4, .int v4), (5, .int v5), (6, .int v6)] [] σ) : ∀ (v1 : Int32) (v2 : Int32) (v3 : Int32) (v6 : Int32) (v7 : Int32) (v8 : Int32), f_X6_goesOver_112 z0 σ k15 v1 v2 v3 v6 v7 v8 = some res → q_Wq X G x 10 (q_MQ X G (q_Qi G x res σ)) 0 0 112 [(0, .ref (G.2.1 + z0)), (1, .int v1), (2, .int v2), (3, .int v3), (6, .int v6), (7, .int v7), (8, .int v8)] [] σ := by
  intro v1 v2 v3 v6 v7 v8 h
  unfold f_X6_goesOver_112 at h
  refine q_iconst (v := 0) hx dX6_goesOver_112 (by decide) ?_
  refine q_sub [0, 1, 2, 3, 4, 5, 6] rfl ?_
  exact s_X6_goesOver_113 z0 σ hx hr hz0 hk15 v1 v2 v3 v6 v7 v8 0 h
def f_X6_goesOver_15 (z0 : Nat) (σ : q_S) : Nat → Int32 → Int32 → Int32 → Int32 → Int32 → Int32 → Option (Int32)
  | 0, _, _, _, _, _, _ => none
  | n + 1, v1, v2, v3, v4, v5, v6 =>
    if (σ z0 6) ≤ v6 then (some 0) else (if ((f_X9_isFrom v1 ((if (v4 + (((f_X9_stepX ((f_X6_directionOf σ z0 v6)))) * ((f_X6_lengthOf σ z0 v6)))) < v4 then (v4 + (((f_X9_stepX ((f_X6_directionOf σ z0 v6)))) * ((f_X6_lengthOf σ z0 v6)))) else v4)) ((if v4 < (v4 + (((f_X9_stepX ((f_X6_directionOf σ z0 v6)))) * ((f_X6_lengthOf σ z0 v6)))) then (v4 + (((f_X9_stepX ((f_X6_directionOf σ z0 v6)))) * ((f_X6_lengthOf σ z0 v6)))) else v4)))) = 0 then (f_X6_goesOver_112 z0 σ (f_X6_goesOver_15 z0 σ n) v1 v2 v3 v6 (v4 + (((f_X9_stepX ((f_X6_directionOf σ z0 v6)))) * ((f_X6_lengthOf σ z0 v6)))) (v5 + (((f_X9_stepY ((f_X6_directionOf σ z0 v6)))) * ((f_X6_lengthOf σ z0 v6))))) else (if ((f_X9_isFrom v2 ((if (v5 + (((f_X9_stepY ((f_X6_directionOf σ z0 v6)))) * ((f_X6_lengthOf σ z0 v6)))) < v5 then (v5 + (((f_X9_stepY ((f_X6_directionOf σ z0 v6)))) * ((f_X6_lengthOf σ z0 v6)))) else v5)) ((if v5 < (v5 + (((f_X9_stepY ((f_X6_directionOf σ z0 v6)))) * ((f_X6_lengthOf σ z0 v6)))) then (v5 + (((f_X9_stepY ((f_X6_directionOf σ z0 v6)))) * ((f_X6_lengthOf σ z0 v6)))) else v5)))) = 0 then (f_X6_goesOver_112 z0 σ (f_X6_goesOver_15 z0 σ n) v1 v2 v3 v6 (v4 + (((f_X9_stepX ((f_X6_directionOf σ z0 v6)))) * ((f_X6_lengthOf σ z0 v6)))) (v5 + (((f_X9_stepY ((f_X6_directionOf σ z0 v6)))) * ((f_X6_lengthOf σ z0 v6))))) else (f_X6_goesOver_113 z0 σ (f_X6_goesOver_15 z0 σ n) v1 v2 v3 v6 (v4 + (((f_X9_stepX ((f_X6_directionOf σ z0 v6)))) * ((f_X6_lengthOf σ z0 v6)))) (v5 + (((f_X9_stepY ((f_X6_directionOf σ z0 v6)))) * ((f_X6_lengthOf σ z0 v6)))) 1)))
set_option maxHeartbeats 4000000 in
set_option maxRecDepth 100000 in
theorem s_X6_goesOver_15 {X : q_X} {G : q_G} {x : q_A} (z0 : Nat) (σ : q_S) (hx : q_Cx X G RX6 cX6_goesOver 10 3) (hr : (q_Xm X).sig.returnType = some .boolean) (hz0 : q_isPlot z0) {res : Int32} : ∀ (n : Nat) (v1 : Int32) (v2 : Int32) (v3 : Int32) (v4 : Int32) (v5 : Int32) (v6 : Int32), f_X6_goesOver_15 z0 σ n v1 v2 v3 v4 v5 v6 = some res → q_Wq X G x 10 (q_MQ X G (q_Qi G x res σ)) 0 0 15 [(0, .ref (G.2.1 + z0)), (1, .int v1), (2, .int v2), (3, .int v3), (4, .int v4), (5, .int v5), (6, .int v6)] [] σ := by
  intro n
  induction n with
  | zero => exact fun _ _ _ _ _ _ h => nomatch (show (none : Option (Int32)) = some res from h)
  | succ n ih =>
    intro v1 v2 v3 v4 v5 v6 h
    rw [f_X6_goesOver_15] at h
    refine q_iload hx dX6_goesOver_15 6 rfl ?_
    refine q_aload_n hx dX6_goesOver_17 0 rfl ?_
    refine q_get (v := .int (σ z0 6)) hx q_fl_X6_31 dX6_goesOver_18 (q_ne hz0.1 (by decide)) (q_e6 hz0.1) rfl ?_
    refine q_icmp_ge hx 142 dX6_goesOver_21 (by decide) (fun hc1 => ?_) (fun hc1 => ?_)
    · replace h := (if_pos hc1).symm.trans h
      refine q_iconst (v := 0) hx dX6_goesOver_142 (by decide) ?_
      cases h
      exact q_zret hx hr rfl dX6_goesOver_143
    · replace h := (if_neg hc1).symm.trans h
      refine q_iload hx dX6_goesOver_24 4 rfl ?_
      refine q_aload_n hx dX6_goesOver_26 0 rfl ?_
      refine q_iload hx dX6_goesOver_27 6 rfl ?_
      refine q_callVi (As := [.int v6]) (rest := [.int v4]) hx q_kR0 (c_X6_directionOf (q_Xl X) G x σ z0 v6 hz0) q_ml_X6_56 q_mn_X6_directionOf q_mi_X6_directionOf q_se_X6_directionOf (by decide) rfl (Nat.le_of_ble_eq_true rfl) dX6_goesOver_29 (q_ne hz0.1 (by decide)) (q_e6 hz0.1) rfl rfl rfl ?_
      refine q_callSi (As := [.int ((f_X6_directionOf σ z0 v6))]) (rest := [.int v4]) hx q_kR0 (c_X9_stepX (q_Xl X) G x σ ((f_X6_directionOf σ z0 v6))) q_ml_X6_49 q_mn_X9_stepX q_ms_X9_stepX (by decide) rfl (Nat.le_of_ble_eq_true rfl) dX6_goesOver_32 rfl ?_
      refine q_aload_n hx dX6_goesOver_35 0 rfl ?_
      refine q_iload hx dX6_goesOver_36 6 rfl ?_
      refine q_callVi (As := [.int v6]) (rest := [.int ((f_X9_stepX ((f_X6_directionOf σ z0 v6)))), .int v4]) hx q_kR0 (c_X6_lengthOf (q_Xl X) G x σ z0 v6 hz0) q_ml_X6_59 q_mn_X6_lengthOf q_mi_X6_lengthOf q_se_X6_lengthOf (by decide) rfl (Nat.le_of_ble_eq_true rfl) dX6_goesOver_38 (q_ne hz0.1 (by decide)) (q_e6 hz0.1) rfl rfl rfl ?_
      refine q_imul hx dX6_goesOver_41 ?_
      refine q_iadd hx dX6_goesOver_42 ?_
      refine q_istore hx [(7, .int (v4 + (((f_X9_stepX ((f_X6_directionOf σ z0 v6)))) * ((f_X6_lengthOf σ z0 v6))))), (0, .ref (G.2.1 + z0)), (1, .int v1), (2, .int v2), (3, .int v3), (4, .int v4), (5, .int v5), (6, .int v6)] dX6_goesOver_43 (by decide) rfl ?_
      refine q_iload hx dX6_goesOver_45 6 rfl ?_
      refine q_aload_n hx dX6_goesOver_47 1 rfl ?_
      refine q_iload hx dX6_goesOver_48 7 rfl ?_
      refine q_callVi (As := [.int v6]) (rest := [.int v5]) hx q_kR0 (c_X6_directionOf (q_Xl X) G x σ z0 v6 hz0) q_ml_X6_56 q_mn_X6_directionOf q_mi_X6_directionOf q_se_X6_directionOf (by decide) rfl (Nat.le_of_ble_eq_true rfl) dX6_goesOver_50 (q_ne hz0.1 (by decide)) (q_e6 hz0.1) rfl rfl rfl ?_
      refine q_callSi (As := [.int ((f_X6_directionOf σ z0 v6))]) (rest := [.int v5]) hx q_kR0 (c_X9_stepY (q_Xl X) G x σ ((f_X6_directionOf σ z0 v6))) q_ml_X6_53 q_mn_X9_stepY q_ms_X9_stepY (by decide) rfl (Nat.le_of_ble_eq_true rfl) dX6_goesOver_53 rfl ?_
      refine q_aload_n hx dX6_goesOver_56 1 rfl ?_
      refine q_iload hx dX6_goesOver_57 7 rfl ?_
      refine q_callVi (As := [.int v6]) (rest := [.int ((f_X9_stepY ((f_X6_directionOf σ z0 v6)))), .int v5]) hx q_kR0 (c_X6_lengthOf (q_Xl X) G x σ z0 v6 hz0) q_ml_X6_59 q_mn_X6_lengthOf q_mi_X6_lengthOf q_se_X6_lengthOf (by decide) rfl (Nat.le_of_ble_eq_true rfl) dX6_goesOver_59 (q_ne hz0.1 (by decide)) (q_e6 hz0.1) rfl rfl rfl ?_
      refine q_imul hx dX6_goesOver_62 ?_
      refine q_iadd hx dX6_goesOver_63 ?_
      refine q_istore hx [(8, .int (v5 + (((f_X9_stepY ((f_X6_directionOf σ z0 v6)))) * ((f_X6_lengthOf σ z0 v6))))), (7, .int (v4 + (((f_X9_stepX ((f_X6_directionOf σ z0 v6)))) * ((f_X6_lengthOf σ z0 v6))))), (0, .ref (G.2.1 + z0)), (1, .int v1), (2, .int v2), (3, .int v3), (4, .int v4), (5, .int v5), (6, .int v6)] dX6_goesOver_64 (by decide) rfl ?_
      refine q_iload_n hx dX6_goesOver_66 3 rfl ?_
      refine q_iload hx dX6_goesOver_67 6 rfl ?_
      refine q_iload hx dX6_goesOver_69 1 rfl ?_
      refine q_mmin hx q_kR0 (by decide) q_mml_X6_73 q_mm_min.1 q_mm_min.2.1 q_mm_min.2.2 (Nat.le_of_ble_eq_true rfl) dX6_goesOver_71 ?_
      refine q_iload hx dX6_goesOver_74 6 rfl ?_
      refine q_iload hx dX6_goesOver_76 1 rfl ?_
      refine q_mmax hx q_kR0 (by decide) q_mml_X6_79 q_mm_max.1 q_mm_max.2.1 q_mm_max.2.2 (Nat.le_of_ble_eq_true rfl) dX6_goesOver_78 ?_
      refine q_callSi (As := [.int v1, .int ((if (v4 + (((f_X9_stepX ((f_X6_directionOf σ z0 v6)))) * ((f_X6_lengthOf σ z0 v6)))) < v4 then (v4 + (((f_X9_stepX ((f_X6_directionOf σ z0 v6)))) * ((f_X6_lengthOf σ z0 v6)))) else v4)), .int ((if v4 < (v4 + (((f_X9_stepX ((f_X6_directionOf σ z0 v6)))) * ((f_X6_lengthOf σ z0 v6)))) then (v4 + (((f_X9_stepX ((f_X6_directionOf σ z0 v6)))) * ((f_X6_lengthOf σ z0 v6)))) else v4))]) (rest := []) hx q_kR0 (c_X9_isFrom (q_Xl X) G x σ v1 ((if (v4 + (((f_X9_stepX ((f_X6_directionOf σ z0 v6)))) * ((f_X6_lengthOf σ z0 v6)))) < v4 then (v4 + (((f_X9_stepX ((f_X6_directionOf σ z0 v6)))) * ((f_X6_lengthOf σ z0 v6)))) else v4)) ((if v4 < (v4 + (((f_X9_stepX ((f_X6_directionOf σ z0 v6)))) * ((f_X6_lengthOf σ z0 v6)))) then (v4 + (((f_X9_stepX ((f_X6_directionOf σ z0 v6)))) * ((f_X6_lengthOf σ z0 v6)))) else v4))) q_ml_X6_82 q_mn_X9_isFrom q_ms_X9_isFrom (by decide) rfl (Nat.le_of_ble_eq_true rfl) dX6_goesOver_81 rfl ?_
      refine q_if_eq hx 112 dX6_goesOver_84 (by decide) (fun hc2 => ?_) (fun hc2 => ?_)
      · replace h := (if_pos hc2).symm.trans h
        refine q_sub [2, 3, 4, 5, 8, 1, 0] rfl ?_
        exact s_X6_goesOver_112 z0 σ hx hr hz0 (fun v1 v2 v3 v4 v5 v6 h => ih v1 v2 v3 v4 v5 v6 h) v1 v2 v3 v6 (v4 + (((f_X9_stepX ((f_X6_directionOf σ z0 v6)))) * ((f_X6_lengthOf σ z0 v6)))) (v5 + (((f_X9_stepY ((f_X6_directionOf σ z0 v6)))) * ((f_X6_lengthOf σ z0 v6)))) h
      · replace h := (if_neg hc2).symm.trans h
        refine q_iload_n hx dX6_goesOver_87 4 rfl ?_
        refine q_iload hx dX6_goesOver_88 7 rfl ?_
        refine q_iload hx dX6_goesOver_90 0 rfl ?_
        refine q_mmin hx q_kR0 (by decide) q_mml_X6_73 q_mm_min.1 q_mm_min.2.1 q_mm_min.2.2 (Nat.le_of_ble_eq_true rfl) dX6_goesOver_92 ?_
        refine q_iload hx dX6_goesOver_95 7 rfl ?_
        refine q_iload hx dX6_goesOver_97 0 rfl ?_
        refine q_mmax hx q_kR0 (by decide) q_mml_X6_79 q_mm_max.1 q_mm_max.2.1 q_mm_max.2.2 (Nat.le_of_ble_eq_true rfl) dX6_goesOver_99 ?_
        refine q_callSi (As := [.int v2, .int ((if (v5 + (((f_X9_stepY ((f_X6_directionOf σ z0 v6)))) * ((f_X6_lengthOf σ z0 v6)))) < v5 then (v5 + (((f_X9_stepY ((f_X6_directionOf σ z0 v6)))) * ((f_X6_lengthOf σ z0 v6)))) else v5)), .int ((if v5 < (v5 + (((f_X9_stepY ((f_X6_directionOf σ z0 v6)))) * ((f_X6_lengthOf σ z0 v6)))) then (v5 + (((f_X9_stepY ((f_X6_directionOf σ z0 v6)))) * ((f_X6_lengthOf σ z0 v6)))) else v5))]) (rest := []) hx q_kR0 (c_X9_isFrom (q_Xl X) G x σ v2 ((if (v5 + (((f_X9_stepY ((f_X6_directionOf σ z0 v6)))) * ((f_X6_lengthOf σ z0 v6)))) < v5 then (v5 + (((f_X9_stepY ((f_X6_directionOf σ z0 v6)))) * ((f_X6_lengthOf σ z0 v6)))) else v5)) ((if v5 < (v5 + (((f_X9_stepY ((f_X6_directionOf σ z0 v6)))) * ((f_X6_lengthOf σ z0 v6)))) then (v5 + (((f_X9_stepY ((f_X6_directionOf σ z0 v6)))) * ((f_X6_lengthOf σ z0 v6)))) else v5))) q_ml_X6_82 q_mn_X9_isFrom q_ms_X9_isFrom (by decide) rfl (Nat.le_of_ble_eq_true rfl) dX6_goesOver_102 rfl ?_
        refine q_if_eq hx 112 dX6_goesOver_105 (by decide) (fun hc5 => ?_) (fun hc5 => ?_)
        · replace h := (if_pos hc5).symm.trans h
          refine q_sub [2, 3, 4, 5, 8, 1, 0] rfl ?_
          exact s_X6_goesOver_112 z0 σ hx hr hz0 (fun v1 v2 v3 v4 v5 v6 h => ih v1 v2 v3 v4 v5 v6 h) v1 v2 v3 v6 (v4 + (((f_X9_stepX ((f_X6_directionOf σ z0 v6)))) * ((f_X6_lengthOf σ z0 v6)))) (v5 + (((f_X9_stepY ((f_X6_directionOf σ z0 v6)))) * ((f_X6_lengthOf σ z0 v6)))) h
        · replace h := (if_neg hc5).symm.trans h
          refine q_iconst (v := 1) hx dX6_goesOver_108 (by decide) ?_
          refine q_goto hx 113 dX6_goesOver_109 (by decide) ?_
          refine q_sub [2, 3, 4, 5, 8, 1, 0] rfl ?_
          exact s_X6_goesOver_113 z0 σ hx hr hz0 (fun v1 v2 v3 v4 v5 v6 h => ih v1 v2 v3 v4 v5 v6 h) v1 v2 v3 v6 (v4 + (((f_X9_stepX ((f_X6_directionOf σ z0 v6)))) * ((f_X6_lengthOf σ z0 v6)))) (v5 + (((f_X9_stepY ((f_X6_directionOf σ z0 v6)))) * ((f_X6_lengthOf σ z0 v6)))) 1 h
def f_X6_goesOver (σ : q_S) (z0 : Nat) (a1 : Int32) (a2 : Int32) (a3 : Int32) : Option (Int32) :=
  f_X6_goesOver_15 z0 σ q_fu a1 a2 a3 (σ z0 2) (σ z0 3) 0
set_option maxHeartbeats 4000000 in
set_option maxRecDepth 100000 in
theorem c_X6_goesOver (l : Launch) (G : q_G) (x : q_A) (σ : q_S) (z0 : Nat) (a1 : Int32) (a2 : Int32) (a3 : Int32) (hz0 : q_isPlot z0) {res : Int32} (h : f_X6_goesOver σ z0 a1 a2 a3 = some res) : q_Met l yX6_goesOver cX6_goesOver 10 (some .boolean) 3 G [.ref (G.2.1 + z0), .int a1, .int a2, .int a3] σ x (q_Qi G x res σ) := by
  refine q_of (by decide) (Nat.le_of_ble_eq_true rfl) (fun X hl0 hx hr => ?_)
  subst hl0
  have hx : q_Cx X G RX6 cX6_goesOver 10 3 := hx
  unfold f_X6_goesOver at h
  show q_Wq X G x 10 (q_MQ X G (q_Qi G x res σ)) 0 0 0 [(0, .ref (G.2.1 + z0)), (1, .int a1), (2, .int a2), (3, .int a3)] [] σ
  refine q_aload_n hx dX6_goesOver_0 0 rfl ?_
  refine q_get (v := .int (σ z0 2)) hx q_fl_X6_18 dX6_goesOver_1 (q_ne hz0.1 (by decide)) (q_e6 hz0.1) rfl ?_
  refine q_istore hx [(4, .int (σ z0 2)), (0, .ref (G.2.1 + z0)), (1, .int a1), (2, .int a2), (3, .int a3)] dX6_goesOver_4 (by decide) rfl ?_
  refine q_aload_n hx dX6_goesOver_6 1 rfl ?_
  refine q_get (v := .int (σ z0 3)) hx q_fl_X6_22 dX6_goesOver_7 (q_ne hz0.1 (by decide)) (q_e6 hz0.1) rfl ?_
  refine q_istore hx [(5, .int (σ z0 3)), (4, .int (σ z0 2)), (0, .ref (G.2.1 + z0)), (1, .int a1), (2, .int a2), (3, .int a3)] dX6_goesOver_10 (by decide) rfl ?_
  refine q_iconst (v := 0) hx dX6_goesOver_12 (by decide) ?_
  refine q_istore hx [(6, .int 0), (5, .int (σ z0 3)), (4, .int (σ z0 2)), (0, .ref (G.2.1 + z0)), (1, .int a1), (2, .int a2), (3, .int a3)] dX6_goesOver_13 (by decide) rfl ?_
  refine q_sub [3, 4, 5, 6, 2, 1, 0] rfl ?_
  exact s_X6_goesOver_15 z0 σ hx hr hz0 q_fu a1 a2 a3 (σ z0 2) (σ z0 3) 0 h
-- X6_holds
def f_X6_holds_94 (z0 : Nat) (σ : q_S) (k26 : Int32 → Int32 → Int32 → Int32 → Int32 → Int32 → Option (Int32)) (v1 : Int32) (v2 : Int32) (v3 : Int32) (v4 : Int32) (v6 : Int32) (v7 : Int32) : Option (Int32) :=
  k26 v1 v2 v3 (v4 + (((f_X9_stepX ((f_X6_directionOf σ z0 v6)))) * ((f_X6_lengthOf σ z0 v6)))) v7 (v6 + 1)
set_option maxHeartbeats 4000000 in
set_option maxRecDepth 100000 in
theorem s_X6_holds_94 {X : q_X} {G : q_G} {x : q_A} (z0 : Nat) (σ : q_S) (hx : q_Cx X G RX6 cX6_holds 8 3) (hr : (q_Xm X).sig.returnType = some .boolean) (hz0 : q_isPlot z0) {res : Int32} {k26 : Int32 → Int32 → Int32 → Int32 → Int32 → Int32 → Option (Int32)} (hk26 : ∀ (v1 : Int32) (v2 : Int32) (v3 : Int32) (v4 : Int32) (v5 : Int32) (v6 : Int32), k26 v1 v2 v3 v4 v5 v6 = some res → q_Wq X G x 8 (q_MQ X G (q_Qi G x res σ)) 0 0 26 [(0, .ref (G.2.1 + z0)), (1, .int v1), (2, .int v2), (3, .int v3), (4, .int v4), (5, .int v5), (6, .int v6)] [] σ) : ∀ (v1 : Int32) (v2 : Int32) (v3 : Int32) (v4 : Int32) (v6 : Int32) (v7 : Int32), f_X6_holds_94 z0 σ k26 v1 v2 v3 v4 v6 v7 = some res → q_Wq X G x 8 (q_MQ X G (q_Qi G x res σ)) 0 0 94 [(0, .ref (G.2.1 + z0)), (1, .int v1), (2, .int v2), (3, .int v3), (4, .int v4), (6, .int v6), (7, .int v7)] [] σ := by
  intro v1 v2 v3 v4 v6 v7 h
  unfold f_X6_holds_94 at h
  refine q_iload hx dX6_holds_94 4 rfl ?_
  refine q_aload_n hx dX6_holds_96 0 rfl ?_
  refine q_iload hx dX6_holds_97 5 rfl ?_
  refine q_callVi (As := [.int v6]) (rest := [.int v4]) hx q_kR0 (c_X6_directionOf (q_Xl X) G x σ z0 v6 hz0) q_ml_X6_56 q_mn_X6_directionOf q_mi_X6_directionOf q_se_X6_directionOf (by decide) rfl (Nat.le_of_ble_eq_true rfl) dX6_holds_99 (q_ne hz0.1 (by decide)) (q_e6 hz0.1) rfl rfl rfl ?_
  refine q_callSi (As := [.int ((f_X6_directionOf σ z0 v6))]) (rest := [.int v4]) hx q_kR0 (c_X9_stepX (q_Xl X) G x σ ((f_X6_directionOf σ z0 v6))) q_ml_X6_49 q_mn_X9_stepX q_ms_X9_stepX (by decide) rfl (Nat.le_of_ble_eq_true rfl) dX6_holds_102 rfl ?_
  refine q_aload_n hx dX6_holds_105 0 rfl ?_
  refine q_iload hx dX6_holds_106 5 rfl ?_
  refine q_callVi (As := [.int v6]) (rest := [.int ((f_X9_stepX ((f_X6_directionOf σ z0 v6)))), .int v4]) hx q_kR0 (c_X6_lengthOf (q_Xl X) G x σ z0 v6 hz0) q_ml_X6_59 q_mn_X6_lengthOf q_mi_X6_lengthOf q_se_X6_lengthOf (by decide) rfl (Nat.le_of_ble_eq_true rfl) dX6_holds_108 (q_ne hz0.1 (by decide)) (q_e6 hz0.1) rfl rfl rfl ?_
  refine q_imul hx dX6_holds_111 ?_
  refine q_iadd hx dX6_holds_112 ?_
  refine q_istore hx [(4, .int (v4 + (((f_X9_stepX ((f_X6_directionOf σ z0 v6)))) * ((f_X6_lengthOf σ z0 v6))))), (0, .ref (G.2.1 + z0)), (1, .int v1), (2, .int v2), (3, .int v3), (6, .int v6), (7, .int v7)] dX6_holds_113 (by decide) rfl ?_
  refine q_iload hx dX6_holds_115 6 rfl ?_
  refine q_istore hx [(5, .int v7), (4, .int (v4 + (((f_X9_stepX ((f_X6_directionOf σ z0 v6)))) * ((f_X6_lengthOf σ z0 v6))))), (0, .ref (G.2.1 + z0)), (1, .int v1), (2, .int v2), (3, .int v3), (6, .int v6), (7, .int v7)] dX6_holds_117 (by decide) rfl ?_
  refine q_iinc hx [(6, .int (v6 + 1)), (5, .int v7), (4, .int (v4 + (((f_X9_stepX ((f_X6_directionOf σ z0 v6)))) * ((f_X6_lengthOf σ z0 v6))))), (0, .ref (G.2.1 + z0)), (1, .int v1), (2, .int v2), (3, .int v3), (7, .int v7)] dX6_holds_119 6 rfl rfl (by decide) rfl ?_
  refine q_goto hx 26 dX6_holds_122 (by decide) ?_
  refine q_sub [3, 4, 5, 6, 2, 1, 0] rfl ?_
  exact hk26 v1 v2 v3 (v4 + (((f_X9_stepX ((f_X6_directionOf σ z0 v6)))) * ((f_X6_lengthOf σ z0 v6)))) v7 (v6 + 1) h
def f_X6_holds_93 (z0 : Nat) (σ : q_S) (k26 : Int32 → Int32 → Int32 → Int32 → Int32 → Int32 → Option (Int32)) (v1 : Int32) (v2 : Int32) (v4 : Int32) (v6 : Int32) (v7 : Int32) (s0 : Int32) : Option (Int32) :=
  f_X6_holds_94 z0 σ k26 v1 v2 s0 v4 v6 v7
set_option maxHeartbeats 4000000 in
set_option maxRecDepth 100000 in
theorem s_X6_holds_93 {X : q_X} {G : q_G} {x : q_A} (z0 : Nat) (σ : q_S) (hx : q_Cx X G RX6 cX6_holds 8 3) (hr : (q_Xm X).sig.returnType = some .boolean) (hz0 : q_isPlot z0) {res : Int32} {k26 : Int32 → Int32 → Int32 → Int32 → Int32 → Int32 → Option (Int32)} (hk26 : ∀ (v1 : Int32) (v2 : Int32) (v3 : Int32) (v4 : Int32) (v5 : Int32) (v6 : Int32), k26 v1 v2 v3 v4 v5 v6 = some res → q_Wq X G x 8 (q_MQ X G (q_Qi G x res σ)) 0 0 26 [(0, .ref (G.2.1 + z0)), (1, .int v1), (2, .int v2), (3, .int v3), (4, .int v4), (5, .int v5), (6, .int v6)] [] σ) : ∀ (v1 : Int32) (v2 : Int32) (v4 : Int32) (v6 : Int32) (v7 : Int32) (s0 : Int32), f_X6_holds_93 z0 σ k26 v1 v2 v4 v6 v7 s0 = some res → q_Wq X G x 8 (q_MQ X G (q_Qi G x res σ)) 0 0 93 [(0, .ref (G.2.1 + z0)), (1, .int v1), (2, .int v2), (4, .int v4), (6, .int v6), (7, .int v7)] [.int s0] σ := by
  intro v1 v2 v4 v6 v7 s0 h
  unfold f_X6_holds_93 at h
  refine q_istore_n hx [(3, .int s0), (0, .ref (G.2.1 + z0)), (1, .int v1), (2, .int v2), (4, .int v4), (6, .int v6), (7, .int v7)] dX6_holds_93 (by decide) rfl ?_
  refine q_sub [1, 2, 3, 0, 4, 5, 6] rfl ?_
  exact s_X6_holds_94 z0 σ hx hr hz0 hk26 v1 v2 s0 v4 v6 v7 h
def f_X6_holds_26 (z0 : Nat) (σ : q_S) : Nat → Int32 → Int32 → Int32 → Int32 → Int32 → Int32 → Option (Int32)
  | 0, _, _, _, _, _, _ => none
  | n + 1, v1, v2, v3, v4, v5, v6 =>
    if (σ z0 6) ≤ v6 then (if (v3 = 0 ∨ v3 = 1) then some v3 else none) else (if v4 ≤ v1 then (f_X6_holds_94 z0 σ (f_X6_holds_26 z0 σ n) v1 v2 v3 v4 v6 (v5 + (((f_X9_stepY ((f_X6_directionOf σ z0 v6)))) * ((f_X6_lengthOf σ z0 v6))))) else (if v2 < ((if (v5 + (((f_X9_stepY ((f_X6_directionOf σ z0 v6)))) * ((f_X6_lengthOf σ z0 v6)))) < v5 then (v5 + (((f_X9_stepY ((f_X6_directionOf σ z0 v6)))) * ((f_X6_lengthOf σ z0 v6)))) else v5)) then (f_X6_holds_94 z0 σ (f_X6_holds_26 z0 σ n) v1 v2 v3 v4 v6 (v5 + (((f_X9_stepY ((f_X6_directionOf σ z0 v6)))) * ((f_X6_lengthOf σ z0 v6))))) else (if ((if v5 < (v5 + (((f_X9_stepY ((f_X6_directionOf σ z0 v6)))) * ((f_X6_lengthOf σ z0 v6)))) then (v5 + (((f_X9_stepY ((f_X6_directionOf σ z0 v6)))) * ((f_X6_lengthOf σ z0 v6)))) else v5)) ≤ v2 then (f_X6_holds_94 z0 σ (f_X6_holds_26 z0 σ n) v1 v2 v3 v4 v6 (v5 + (((f_X9_stepY ((f_X6_directionOf σ z0 v6)))) * ((f_X6_lengthOf σ z0 v6))))) else (if v3 = 0 then (f_X6_holds_93 z0 σ (f_X6_holds_26 z0 σ n) v1 v2 v4 v6 (v5 + (((f_X9_stepY ((f_X6_directionOf σ z0 v6)))) * ((f_X6_lengthOf σ z0 v6)))) 1) else (f_X6_holds_93 z0 σ (f_X6_holds_26 z0 σ n) v1 v2 v4 v6 (v5 + (((f_X9_stepY ((f_X6_directionOf σ z0 v6)))) * ((f_X6_lengthOf σ z0 v6)))) 0)))))
set_option maxHeartbeats 4000000 in
set_option maxRecDepth 100000 in
theorem s_X6_holds_26 {X : q_X} {G : q_G} {x : q_A} (z0 : Nat) (σ : q_S) (hx : q_Cx X G RX6 cX6_holds 8 3) (hr : (q_Xm X).sig.returnType = some .boolean) (hz0 : q_isPlot z0) {res : Int32} : ∀ (n : Nat) (v1 : Int32) (v2 : Int32) (v3 : Int32) (v4 : Int32) (v5 : Int32) (v6 : Int32), f_X6_holds_26 z0 σ n v1 v2 v3 v4 v5 v6 = some res → q_Wq X G x 8 (q_MQ X G (q_Qi G x res σ)) 0 0 26 [(0, .ref (G.2.1 + z0)), (1, .int v1), (2, .int v2), (3, .int v3), (4, .int v4), (5, .int v5), (6, .int v6)] [] σ := by
  intro n
  induction n with
  | zero => exact fun _ _ _ _ _ _ h => nomatch (show (none : Option (Int32)) = some res from h)
  | succ n ih =>
    intro v1 v2 v3 v4 v5 v6 h
    rw [f_X6_holds_26] at h
    refine q_iload hx dX6_holds_26 6 rfl ?_
    refine q_aload_n hx dX6_holds_28 0 rfl ?_
    refine q_get (v := .int (σ z0 6)) hx q_fl_X6_31 dX6_holds_29 (q_ne hz0.1 (by decide)) (q_e6 hz0.1) rfl ?_
    refine q_icmp_ge hx 125 dX6_holds_32 (by decide) (fun hc2 => ?_) (fun hc2 => ?_)
    · replace h := (if_pos hc2).symm.trans h
      refine q_iload_n hx dX6_holds_125 3 rfl ?_
      by_cases hg3 : (v3 = 0 ∨ v3 = 1)
      case neg => rw [if_neg hg3] at h; exact nomatch h
      replace h := (if_pos hg3).symm.trans h
      cases h
      exact q_zret hx hr (q_zn hg3) dX6_holds_126
    · replace h := (if_neg hc2).symm.trans h
      refine q_iload hx dX6_holds_35 5 rfl ?_
      refine q_aload_n hx dX6_holds_37 0 rfl ?_
      refine q_iload hx dX6_holds_38 6 rfl ?_
      refine q_callVi (As := [.int v6]) (rest := [.int v5]) hx q_kR0 (c_X6_directionOf (q_Xl X) G x σ z0 v6 hz0) q_ml_X6_56 q_mn_X6_directionOf q_mi_X6_directionOf q_se_X6_directionOf (by decide) rfl (Nat.le_of_ble_eq_true rfl) dX6_holds_40 (q_ne hz0.1 (by decide)) (q_e6 hz0.1) rfl rfl rfl ?_
      refine q_callSi (As := [.int ((f_X6_directionOf σ z0 v6))]) (rest := [.int v5]) hx q_kR0 (c_X9_stepY (q_Xl X) G x σ ((f_X6_directionOf σ z0 v6))) q_ml_X6_53 q_mn_X9_stepY q_ms_X9_stepY (by decide) rfl (Nat.le_of_ble_eq_true rfl) dX6_holds_43 rfl ?_
      refine q_aload_n hx dX6_holds_46 0 rfl ?_
      refine q_iload hx dX6_holds_47 6 rfl ?_
      refine q_callVi (As := [.int v6]) (rest := [.int ((f_X9_stepY ((f_X6_directionOf σ z0 v6)))), .int v5]) hx q_kR0 (c_X6_lengthOf (q_Xl X) G x σ z0 v6 hz0) q_ml_X6_59 q_mn_X6_lengthOf q_mi_X6_lengthOf q_se_X6_lengthOf (by decide) rfl (Nat.le_of_ble_eq_true rfl) dX6_holds_49 (q_ne hz0.1 (by decide)) (q_e6 hz0.1) rfl rfl rfl ?_
      refine q_imul hx dX6_holds_52 ?_
      refine q_iadd hx dX6_holds_53 ?_
      refine q_istore hx [(7, .int (v5 + (((f_X9_stepY ((f_X6_directionOf σ z0 v6)))) * ((f_X6_lengthOf σ z0 v6))))), (0, .ref (G.2.1 + z0)), (1, .int v1), (2, .int v2), (3, .int v3), (4, .int v4), (5, .int v5), (6, .int v6)] dX6_holds_54 (by decide) rfl ?_
      refine q_iload hx dX6_holds_56 5 rfl ?_
      refine q_iload_n hx dX6_holds_58 2 rfl ?_
      refine q_icmp_le hx 94 dX6_holds_59 (by decide) (fun hc4 => ?_) (fun hc4 => ?_)
      · replace h := (if_pos hc4).symm.trans h
        refine q_sub [1, 2, 3, 4, 5, 7, 0] rfl ?_
        exact s_X6_holds_94 z0 σ hx hr hz0 (fun v1 v2 v3 v4 v5 v6 h => ih v1 v2 v3 v4 v5 v6 h) v1 v2 v3 v4 v6 (v5 + (((f_X9_stepY ((f_X6_directionOf σ z0 v6)))) * ((f_X6_lengthOf σ z0 v6)))) h
      · replace h := (if_neg hc4).symm.trans h
        refine q_iload hx dX6_holds_62 6 rfl ?_
        refine q_iload hx dX6_holds_64 0 rfl ?_
        refine q_mmin hx q_kR0 (by decide) q_mml_X6_73 q_mm_min.1 q_mm_min.2.1 q_mm_min.2.2 (Nat.le_of_ble_eq_true rfl) dX6_holds_66 ?_
        refine q_iload_n hx dX6_holds_69 3 rfl ?_
        refine q_icmp_gt hx 94 dX6_holds_70 (by decide) (fun hc5 => ?_) (fun hc5 => ?_)
        · replace h := (if_pos hc5).symm.trans h
          refine q_sub [1, 2, 3, 4, 5, 7, 0] rfl ?_
          exact s_X6_holds_94 z0 σ hx hr hz0 (fun v1 v2 v3 v4 v5 v6 h => ih v1 v2 v3 v4 v5 v6 h) v1 v2 v3 v4 v6 (v5 + (((f_X9_stepY ((f_X6_directionOf σ z0 v6)))) * ((f_X6_lengthOf σ z0 v6)))) h
        · replace h := (if_neg hc5).symm.trans h
          refine q_iload_n hx dX6_holds_73 3 rfl ?_
          refine q_iload hx dX6_holds_74 6 rfl ?_
          refine q_iload hx dX6_holds_76 0 rfl ?_
          refine q_mmax hx q_kR0 (by decide) q_mml_X6_79 q_mm_max.1 q_mm_max.2.1 q_mm_max.2.2 (Nat.le_of_ble_eq_true rfl) dX6_holds_78 ?_
          refine q_icmp_ge hx 94 dX6_holds_81 (by decide) (fun hc6 => ?_) (fun hc6 => ?_)
          · replace h := (if_pos hc6).symm.trans h
            refine q_sub [1, 2, 3, 4, 5, 7, 0] rfl ?_
            exact s_X6_holds_94 z0 σ hx hr hz0 (fun v1 v2 v3 v4 v5 v6 h => ih v1 v2 v3 v4 v5 v6 h) v1 v2 v3 v4 v6 (v5 + (((f_X9_stepY ((f_X6_directionOf σ z0 v6)))) * ((f_X6_lengthOf σ z0 v6)))) h
          · replace h := (if_neg hc6).symm.trans h
            refine q_iload_n hx dX6_holds_84 4 rfl ?_
            refine q_if_ne hx 92 dX6_holds_85 (by decide) (fun hc7 => ?_) (fun hc7 => ?_)
            · replace h := (if_neg hc7).symm.trans h
              refine q_iconst (v := 0) hx dX6_holds_92 (by decide) ?_
              refine q_sub [1, 2, 3, 5, 7, 0] rfl ?_
              exact s_X6_holds_93 z0 σ hx hr hz0 (fun v1 v2 v3 v4 v5 v6 h => ih v1 v2 v3 v4 v5 v6 h) v1 v2 v4 v6 (v5 + (((f_X9_stepY ((f_X6_directionOf σ z0 v6)))) * ((f_X6_lengthOf σ z0 v6)))) 0 h
            · replace h := (if_pos hc7).symm.trans h
              refine q_iconst (v := 1) hx dX6_holds_88 (by decide) ?_
              refine q_goto hx 93 dX6_holds_89 (by decide) ?_
              refine q_sub [1, 2, 3, 5, 7, 0] rfl ?_
              exact s_X6_holds_93 z0 σ hx hr hz0 (fun v1 v2 v3 v4 v5 v6 h => ih v1 v2 v3 v4 v5 v6 h) v1 v2 v4 v6 (v5 + (((f_X9_stepY ((f_X6_directionOf σ z0 v6)))) * ((f_X6_lengthOf σ z0 v6)))) 1 h
def f_X6_holds (σ : q_S) (z0 : Nat) (a1 : Int32) (a2 : Int32) : Option (Int32) :=
  if (σ z0 1) = 0 then (some 0) else (f_X6_holds_26 z0 σ q_fu a1 a2 0 (σ z0 2) (σ z0 3) 0)
set_option maxHeartbeats 4000000 in
set_option maxRecDepth 100000 in
theorem c_X6_holds (l : Launch) (G : q_G) (x : q_A) (σ : q_S) (z0 : Nat) (a1 : Int32) (a2 : Int32) (hz0 : q_isPlot z0) {res : Int32} (h : f_X6_holds σ z0 a1 a2 = some res) : q_Met l yX6_holds cX6_holds 8 (some .boolean) 3 G [.ref (G.2.1 + z0), .int a1, .int a2] σ x (q_Qi G x res σ) := by
  refine q_of (by decide) (Nat.le_of_ble_eq_true rfl) (fun X hl0 hx hr => ?_)
  subst hl0
  have hx : q_Cx X G RX6 cX6_holds 8 3 := hx
  unfold f_X6_holds at h
  show q_Wq X G x 8 (q_MQ X G (q_Qi G x res σ)) 0 0 0 [(0, .ref (G.2.1 + z0)), (1, .int a1), (2, .int a2)] [] σ
  refine q_aload_n hx dX6_holds_0 0 rfl ?_
  refine q_get (v := .int (σ z0 1)) hx q_fl_X6_15 dX6_holds_1 (q_ne hz0.1 (by decide)) (q_e6 hz0.1) rfl ?_
  refine q_if_ne hx 9 dX6_holds_4 (by decide) (fun hc1 => ?_) (fun hc1 => ?_)
  · replace h := (if_neg hc1).symm.trans h
    refine q_iconst (v := 0) hx dX6_holds_9 (by decide) ?_
    refine q_istore_n hx [(3, .int 0), (0, .ref (G.2.1 + z0)), (1, .int a1), (2, .int a2)] dX6_holds_10 (by decide) rfl ?_
    refine q_aload_n hx dX6_holds_11 1 rfl ?_
    refine q_get (v := .int (σ z0 2)) hx q_fl_X6_18 dX6_holds_12 (q_ne hz0.1 (by decide)) (q_e6 hz0.1) rfl ?_
    refine q_istore hx [(4, .int (σ z0 2)), (3, .int 0), (0, .ref (G.2.1 + z0)), (1, .int a1), (2, .int a2)] dX6_holds_15 (by decide) rfl ?_
    refine q_aload_n hx dX6_holds_17 2 rfl ?_
    refine q_get (v := .int (σ z0 3)) hx q_fl_X6_22 dX6_holds_18 (q_ne hz0.1 (by decide)) (q_e6 hz0.1) rfl ?_
    refine q_istore hx [(5, .int (σ z0 3)), (4, .int (σ z0 2)), (3, .int 0), (0, .ref (G.2.1 + z0)), (1, .int a1), (2, .int a2)] dX6_holds_21 (by decide) rfl ?_
    refine q_iconst (v := 0) hx dX6_holds_23 (by decide) ?_
    refine q_istore hx [(6, .int 0), (5, .int (σ z0 3)), (4, .int (σ z0 2)), (3, .int 0), (0, .ref (G.2.1 + z0)), (1, .int a1), (2, .int a2)] dX6_holds_24 (by decide) rfl ?_
    refine q_sub [4, 5, 6, 3, 2, 1, 0] rfl ?_
    exact s_X6_holds_26 z0 σ hx hr hz0 q_fu a1 a2 0 (σ z0 2) (σ z0 3) 0 h
  · replace h := (if_pos hc1).symm.trans h
    refine q_iconst (v := 0) hx dX6_holds_7 (by decide) ?_
    cases h
    exact q_zret hx hr rfl dX6_holds_8
-- X6_areaByChains
def f_X6_areaByChains_18 (z0 : Nat) (σ : q_S) : Nat → Int32 → Int32 → Int32 → Option (Int32)
  | 0, _, _, _ => none
  | n + 1, v1, v2, v3 =>
    if (σ z0 6) ≤ v3 then (some ((if 0 ≤ v1 then v1 else 0 - v1))) else (f_X6_areaByChains_18 z0 σ n (v1 + ((((f_X9_stepX ((f_X6_directionOf σ z0 v3)))) * ((f_X6_lengthOf σ z0 v3))) * v2)) (v2 + (((f_X9_stepY ((f_X6_directionOf σ z0 v3)))) * ((f_X6_lengthOf σ z0 v3)))) (v3 + 1))
set_option maxHeartbeats 4000000 in
set_option maxRecDepth 100000 in
theorem s_X6_areaByChains_18 {X : q_X} {G : q_G} {x : q_A} (z0 : Nat) (σ : q_S) (hx : q_Cx X G RX6 cX6_areaByChains 4 3) (hr : (q_Xm X).sig.returnType = some .int) (hz0 : q_isPlot z0) {res : Int32} : ∀ (n : Nat) (v1 : Int32) (v2 : Int32) (v3 : Int32), f_X6_areaByChains_18 z0 σ n v1 v2 v3 = some res → q_Wq X G x 4 (q_MQ X G (q_Qi G x res σ)) 0 0 18 [(0, .ref (G.2.1 + z0)), (1, .int v1), (2, .int v2), (3, .int v3)] [] σ := by
  intro n
  induction n with
  | zero => exact fun _ _ _ h => nomatch (show (none : Option (Int32)) = some res from h)
  | succ n ih =>
    intro v1 v2 v3 h
    rw [f_X6_areaByChains_18] at h
    refine q_iload_n hx dX6_areaByChains_18 3 rfl ?_
    refine q_aload_n hx dX6_areaByChains_19 0 rfl ?_
    refine q_get (v := .int (σ z0 6)) hx q_fl_X6_31 dX6_areaByChains_20 (q_ne hz0.1 (by decide)) (q_e6 hz0.1) rfl ?_
    refine q_icmp_ge hx 68 dX6_areaByChains_23 (by decide) (fun hc2 => ?_) (fun hc2 => ?_)
    · replace h := (if_pos hc2).symm.trans h
      refine q_iload_n hx dX6_areaByChains_68 1 rfl ?_
      refine q_mabs hx q_kR0 (by decide) q_mml_X6_86 q_mm_abs.1 q_mm_abs.2.1 q_mm_abs.2.2 (Nat.le_of_ble_eq_true rfl) dX6_areaByChains_69 ?_
      cases h
      exact q_iret hx hr dX6_areaByChains_72
    · replace h := (if_neg hc2).symm.trans h
      refine q_iload_n hx dX6_areaByChains_26 1 rfl ?_
      refine q_aload_n hx dX6_areaByChains_27 0 rfl ?_
      refine q_iload_n hx dX6_areaByChains_28 3 rfl ?_
      refine q_callVi (As := [.int v3]) (rest := [.int v1]) hx q_kR0 (c_X6_directionOf (q_Xl X) G x σ z0 v3 hz0) q_ml_X6_56 q_mn_X6_directionOf q_mi_X6_directionOf q_se_X6_directionOf (by decide) rfl (Nat.le_of_ble_eq_true rfl) dX6_areaByChains_29 (q_ne hz0.1 (by decide)) (q_e6 hz0.1) rfl rfl rfl ?_
      refine q_callSi (As := [.int ((f_X6_directionOf σ z0 v3))]) (rest := [.int v1]) hx q_kR0 (c_X9_stepX (q_Xl X) G x σ ((f_X6_directionOf σ z0 v3))) q_ml_X6_49 q_mn_X9_stepX q_ms_X9_stepX (by decide) rfl (Nat.le_of_ble_eq_true rfl) dX6_areaByChains_32 rfl ?_
      refine q_aload_n hx dX6_areaByChains_35 0 rfl ?_
      refine q_iload_n hx dX6_areaByChains_36 3 rfl ?_
      refine q_callVi (As := [.int v3]) (rest := [.int ((f_X9_stepX ((f_X6_directionOf σ z0 v3)))), .int v1]) hx q_kR0 (c_X6_lengthOf (q_Xl X) G x σ z0 v3 hz0) q_ml_X6_59 q_mn_X6_lengthOf q_mi_X6_lengthOf q_se_X6_lengthOf (by decide) rfl (Nat.le_of_ble_eq_true rfl) dX6_areaByChains_37 (q_ne hz0.1 (by decide)) (q_e6 hz0.1) rfl rfl rfl ?_
      refine q_imul hx dX6_areaByChains_40 ?_
      refine q_iload_n hx dX6_areaByChains_41 2 rfl ?_
      refine q_imul hx dX6_areaByChains_42 ?_
      refine q_iadd hx dX6_areaByChains_43 ?_
      refine q_istore_n hx [(1, .int (v1 + ((((f_X9_stepX ((f_X6_directionOf σ z0 v3)))) * ((f_X6_lengthOf σ z0 v3))) * v2))), (0, .ref (G.2.1 + z0)), (2, .int v2), (3, .int v3)] dX6_areaByChains_44 (by decide) rfl ?_
      refine q_iload_n hx dX6_areaByChains_45 2 rfl ?_
      refine q_aload_n hx dX6_areaByChains_46 1 rfl ?_
      refine q_iload_n hx dX6_areaByChains_47 3 rfl ?_
      refine q_callVi (As := [.int v3]) (rest := [.int v2]) hx q_kR0 (c_X6_directionOf (q_Xl X) G x σ z0 v3 hz0) q_ml_X6_56 q_mn_X6_directionOf q_mi_X6_directionOf q_se_X6_directionOf (by decide) rfl (Nat.le_of_ble_eq_true rfl) dX6_areaByChains_48 (q_ne hz0.1 (by decide)) (q_e6 hz0.1) rfl rfl rfl ?_
      refine q_callSi (As := [.int ((f_X6_directionOf σ z0 v3))]) (rest := [.int v2]) hx q_kR0 (c_X9_stepY (q_Xl X) G x σ ((f_X6_directionOf σ z0 v3))) q_ml_X6_53 q_mn_X9_stepY q_ms_X9_stepY (by decide) rfl (Nat.le_of_ble_eq_true rfl) dX6_areaByChains_51 rfl ?_
      refine q_aload_n hx dX6_areaByChains_54 1 rfl ?_
      refine q_iload_n hx dX6_areaByChains_55 3 rfl ?_
      refine q_callVi (As := [.int v3]) (rest := [.int ((f_X9_stepY ((f_X6_directionOf σ z0 v3)))), .int v2]) hx q_kR0 (c_X6_lengthOf (q_Xl X) G x σ z0 v3 hz0) q_ml_X6_59 q_mn_X6_lengthOf q_mi_X6_lengthOf q_se_X6_lengthOf (by decide) rfl (Nat.le_of_ble_eq_true rfl) dX6_areaByChains_56 (q_ne hz0.1 (by decide)) (q_e6 hz0.1) rfl rfl rfl ?_
      refine q_imul hx dX6_areaByChains_59 ?_
      refine q_iadd hx dX6_areaByChains_60 ?_
      refine q_istore_n hx [(2, .int (v2 + (((f_X9_stepY ((f_X6_directionOf σ z0 v3)))) * ((f_X6_lengthOf σ z0 v3))))), (1, .int (v1 + ((((f_X9_stepX ((f_X6_directionOf σ z0 v3)))) * ((f_X6_lengthOf σ z0 v3))) * v2))), (0, .ref (G.2.1 + z0)), (3, .int v3)] dX6_areaByChains_61 (by decide) rfl ?_
      refine q_iinc hx [(3, .int (v3 + 1)), (2, .int (v2 + (((f_X9_stepY ((f_X6_directionOf σ z0 v3)))) * ((f_X6_lengthOf σ z0 v3))))), (1, .int (v1 + ((((f_X9_stepX ((f_X6_directionOf σ z0 v3)))) * ((f_X6_lengthOf σ z0 v3))) * v2))), (0, .ref (G.2.1 + z0))] dX6_areaByChains_62 3 rfl rfl (by decide) rfl ?_
      refine q_goto hx 18 dX6_areaByChains_65 (by decide) ?_
      refine q_sub [3, 2, 1, 0] rfl ?_
      exact ih (v1 + ((((f_X9_stepX ((f_X6_directionOf σ z0 v3)))) * ((f_X6_lengthOf σ z0 v3))) * v2)) (v2 + (((f_X9_stepY ((f_X6_directionOf σ z0 v3)))) * ((f_X6_lengthOf σ z0 v3)))) (v3 + 1) h
def f_X6_areaByChains (σ : q_S) (z0 : Nat) : Option (Int32) :=
  if (σ z0 1) = 0 then (some 0) else (f_X6_areaByChains_18 z0 σ q_fu 0 (σ z0 3) 0)
set_option maxHeartbeats 4000000 in
set_option maxRecDepth 100000 in
theorem c_X6_areaByChains (l : Launch) (G : q_G) (x : q_A) (σ : q_S) (z0 : Nat) (hz0 : q_isPlot z0) {res : Int32} (h : f_X6_areaByChains σ z0 = some res) : q_Met l yX6_areaByChains cX6_areaByChains 4 (some .int) 3 G [.ref (G.2.1 + z0)] σ x (q_Qi G x res σ) := by
  refine q_of (by decide) (Nat.le_of_ble_eq_true rfl) (fun X hl0 hx hr => ?_)
  subst hl0
  have hx : q_Cx X G RX6 cX6_areaByChains 4 3 := hx
  unfold f_X6_areaByChains at h
  show q_Wq X G x 4 (q_MQ X G (q_Qi G x res σ)) 0 0 0 [(0, .ref (G.2.1 + z0))] [] σ
  refine q_aload_n hx dX6_areaByChains_0 0 rfl ?_
  refine q_get (v := .int (σ z0 1)) hx q_fl_X6_15 dX6_areaByChains_1 (q_ne hz0.1 (by decide)) (q_e6 hz0.1) rfl ?_
  refine q_if_ne hx 9 dX6_areaByChains_4 (by decide) (fun hc1 => ?_) (fun hc1 => ?_)
  · replace h := (if_neg hc1).symm.trans h
    refine q_iconst (v := 0) hx dX6_areaByChains_9 (by decide) ?_
    refine q_istore_n hx [(1, .int 0), (0, .ref (G.2.1 + z0))] dX6_areaByChains_10 (by decide) rfl ?_
    refine q_aload_n hx dX6_areaByChains_11 1 rfl ?_
    refine q_get (v := .int (σ z0 3)) hx q_fl_X6_22 dX6_areaByChains_12 (q_ne hz0.1 (by decide)) (q_e6 hz0.1) rfl ?_
    refine q_istore_n hx [(2, .int (σ z0 3)), (1, .int 0), (0, .ref (G.2.1 + z0))] dX6_areaByChains_15 (by decide) rfl ?_
    refine q_iconst (v := 0) hx dX6_areaByChains_16 (by decide) ?_
    refine q_istore_n hx [(3, .int 0), (2, .int (σ z0 3)), (1, .int 0), (0, .ref (G.2.1 + z0))] dX6_areaByChains_17 (by decide) rfl ?_
    refine q_sub [3, 2, 1, 0] rfl ?_
    exact s_X6_areaByChains_18 z0 σ hx hr hz0 q_fu 0 (σ z0 3) 0 h
  · replace h := (if_pos hc1).symm.trans h
    refine q_iconst (v := 0) hx dX6_areaByChains_7 (by decide) ?_
    cases h
    exact q_iret hx hr dX6_areaByChains_8
-- X6_areaByCells
def f_X6_areaByCells_12 (z0 : Nat) (σ : q_S) (k4 : Int32 → Int32 → Option (Int32)) : Nat → Int32 → Int32 → Int32 → Option (Int32)
  | 0, _, _, _ => none
  | n + 1, v1, v2, v3 =>
    if 12 ≤ v3 then (k4 v1 (v2 + 1)) else (Option.bind (f_X6_holds σ z0 v3 v2) (fun q3 => if q3 = 0 then (f_X6_areaByCells_12 z0 σ k4 n v1 v2 (v3 + 1)) else (f_X6_areaByCells_12 z0 σ k4 n (v1 + 1) v2 (v3 + 1))))
set_option maxHeartbeats 4000000 in
set_option maxRecDepth 100000 in
theorem s_X6_areaByCells_12 {X : q_X} {G : q_G} {x : q_A} (z0 : Nat) (σ : q_S) (hx : q_Cx X G RX6 cX6_areaByCells 4 4) (hr : (q_Xm X).sig.returnType = some .int) (hz0 : q_isPlot z0) {res : Int32} {k4 : Int32 → Int32 → Option (Int32)} (hk4 : ∀ (v1 : Int32) (v2 : Int32), k4 v1 v2 = some res → q_Wq X G x 4 (q_MQ X G (q_Qi G x res σ)) 0 0 4 [(0, .ref (G.2.1 + z0)), (1, .int v1), (2, .int v2)] [] σ) : ∀ (n : Nat) (v1 : Int32) (v2 : Int32) (v3 : Int32), f_X6_areaByCells_12 z0 σ k4 n v1 v2 v3 = some res → q_Wq X G x 4 (q_MQ X G (q_Qi G x res σ)) 0 0 12 [(0, .ref (G.2.1 + z0)), (1, .int v1), (2, .int v2), (3, .int v3)] [] σ := by
  intro n
  induction n with
  | zero => exact fun _ _ _ h => nomatch (show (none : Option (Int32)) = some res from h)
  | succ n ih =>
    intro v1 v2 v3 h
    rw [f_X6_areaByCells_12] at h
    refine q_iload_n hx dX6_areaByCells_12 3 rfl ?_
    refine q_bipush (v := 12) hx dX6_areaByCells_13 (by decide) ?_
    refine q_icmp_ge hx 36 dX6_areaByCells_15 (by decide) (fun hc2 => ?_) (fun hc2 => ?_)
    · replace h := (if_pos hc2).symm.trans h
      refine q_iinc hx [(2, .int (v2 + 1)), (0, .ref (G.2.1 + z0)), (1, .int v1), (3, .int v3)] dX6_areaByCells_36 2 rfl rfl (by decide) rfl ?_
      refine q_goto hx 4 dX6_areaByCells_39 (by decide) ?_
      refine q_sub [1, 2, 0] rfl ?_
      exact hk4 v1 (v2 + 1) h
    · replace h := (if_neg hc2).symm.trans h
      refine q_aload_n hx dX6_areaByCells_18 0 rfl ?_
      refine q_iload_n hx dX6_areaByCells_19 3 rfl ?_
      refine q_iload_n hx dX6_areaByCells_20 2 rfl ?_
      refine q_bindE h (fun q3 hq3 h => ?_)
      refine q_callVi (As := [.int v3, .int v2]) (rest := []) hx q_kR0 (c_X6_holds (q_Xl X) G x σ z0 v3 v2 hz0 hq3) q_ml_X6_89 q_mn_X6_holds q_mi_X6_holds q_se_X6_holds (by decide) rfl (Nat.le_of_ble_eq_true rfl) dX6_areaByCells_21 (q_ne hz0.1 (by decide)) (q_e6 hz0.1) rfl rfl rfl ?_
      refine q_if_eq hx 30 dX6_areaByCells_24 (by decide) (fun hc4 => ?_) (fun hc4 => ?_)
      · replace h := (if_pos hc4).symm.trans h
        refine q_iinc hx [(3, .int (v3 + 1)), (0, .ref (G.2.1 + z0)), (1, .int v1), (2, .int v2)] dX6_areaByCells_30 3 rfl rfl (by decide) rfl ?_
        refine q_goto hx 12 dX6_areaByCells_33 (by decide) ?_
        refine q_sub [1, 2, 3, 0] rfl ?_
        exact ih v1 v2 (v3 + 1) h
      · replace h := (if_neg hc4).symm.trans h
        refine q_iinc hx [(1, .int (v1 + 1)), (0, .ref (G.2.1 + z0)), (2, .int v2), (3, .int v3)] dX6_areaByCells_27 1 rfl rfl (by decide) rfl ?_
        refine q_iinc hx [(3, .int (v3 + 1)), (1, .int (v1 + 1)), (0, .ref (G.2.1 + z0)), (2, .int v2)] dX6_areaByCells_30 3 rfl rfl (by decide) rfl ?_
        refine q_goto hx 12 dX6_areaByCells_33 (by decide) ?_
        refine q_sub [2, 1, 3, 0] rfl ?_
        exact ih (v1 + 1) v2 (v3 + 1) h
def f_X6_areaByCells_4 (z0 : Nat) (σ : q_S) : Nat → Int32 → Int32 → Option (Int32)
  | 0, _, _ => none
  | n + 1, v1, v2 =>
    if 8 ≤ v2 then (some v1) else (f_X6_areaByCells_12 z0 σ (f_X6_areaByCells_4 z0 σ n) q_fu v1 v2 0)
set_option maxHeartbeats 4000000 in
set_option maxRecDepth 100000 in
theorem s_X6_areaByCells_4 {X : q_X} {G : q_G} {x : q_A} (z0 : Nat) (σ : q_S) (hx : q_Cx X G RX6 cX6_areaByCells 4 4) (hr : (q_Xm X).sig.returnType = some .int) (hz0 : q_isPlot z0) {res : Int32} : ∀ (n : Nat) (v1 : Int32) (v2 : Int32), f_X6_areaByCells_4 z0 σ n v1 v2 = some res → q_Wq X G x 4 (q_MQ X G (q_Qi G x res σ)) 0 0 4 [(0, .ref (G.2.1 + z0)), (1, .int v1), (2, .int v2)] [] σ := by
  intro n
  induction n with
  | zero => exact fun _ _ h => nomatch (show (none : Option (Int32)) = some res from h)
  | succ n ih =>
    intro v1 v2 h
    rw [f_X6_areaByCells_4] at h
    refine q_iload_n hx dX6_areaByCells_4 2 rfl ?_
    refine q_bipush (v := 8) hx dX6_areaByCells_5 (by decide) ?_
    refine q_icmp_ge hx 42 dX6_areaByCells_7 (by decide) (fun hc1 => ?_) (fun hc1 => ?_)
    · replace h := (if_pos hc1).symm.trans h
      refine q_iload_n hx dX6_areaByCells_42 1 rfl ?_
      cases h
      exact q_iret hx hr dX6_areaByCells_43
    · replace h := (if_neg hc1).symm.trans h
      refine q_iconst (v := 0) hx dX6_areaByCells_10 (by decide) ?_
      refine q_istore_n hx [(3, .int 0), (0, .ref (G.2.1 + z0)), (1, .int v1), (2, .int v2)] dX6_areaByCells_11 (by decide) rfl ?_
      refine q_sub [1, 2, 3, 0] rfl ?_
      exact s_X6_areaByCells_12 z0 σ hx hr hz0 (fun v1 v2 h => ih v1 v2 h) q_fu v1 v2 0 h
def f_X6_areaByCells (σ : q_S) (z0 : Nat) : Option (Int32) :=
  f_X6_areaByCells_4 z0 σ q_fu 0 0
set_option maxHeartbeats 4000000 in
set_option maxRecDepth 100000 in
theorem c_X6_areaByCells (l : Launch) (G : q_G) (x : q_A) (σ : q_S) (z0 : Nat) (hz0 : q_isPlot z0) {res : Int32} (h : f_X6_areaByCells σ z0 = some res) : q_Met l yX6_areaByCells cX6_areaByCells 4 (some .int) 4 G [.ref (G.2.1 + z0)] σ x (q_Qi G x res σ) := by
  refine q_of (by decide) (Nat.le_of_ble_eq_true rfl) (fun X hl0 hx hr => ?_)
  subst hl0
  have hx : q_Cx X G RX6 cX6_areaByCells 4 4 := hx
  unfold f_X6_areaByCells at h
  show q_Wq X G x 4 (q_MQ X G (q_Qi G x res σ)) 0 0 0 [(0, .ref (G.2.1 + z0))] [] σ
  refine q_iconst (v := 0) hx dX6_areaByCells_0 (by decide) ?_
  refine q_istore_n hx [(1, .int 0), (0, .ref (G.2.1 + z0))] dX6_areaByCells_1 (by decide) rfl ?_
  refine q_iconst (v := 0) hx dX6_areaByCells_2 (by decide) ?_
  refine q_istore_n hx [(2, .int 0), (1, .int 0), (0, .ref (G.2.1 + z0))] dX6_areaByCells_3 (by decide) rfl ?_
  refine q_sub [2, 1, 0] rfl ?_
  exact s_X6_areaByCells_4 z0 σ hx hr hz0 q_fu 0 0 h
-- X6_add
def f_X6_add (σ : q_S) (z0 : Nat) (a1 : Int32) (a2 : Int32) : q_S :=
  if ((q_up (q_up (q_up ((f_X6_setChain σ z0 (σ z0 6) a1 a2)) z0 6 ((((f_X6_setChain σ z0 (σ z0 6) a1 a2)) z0 6) + 1)) z0 4 (((q_up ((f_X6_setChain σ z0 (σ z0 6) a1 a2)) z0 6 ((((f_X6_setChain σ z0 (σ z0 6) a1 a2)) z0 6) + 1)) z0 4) + (((f_X9_stepX a1)) * a2))) z0 5 (((q_up (q_up ((f_X6_setChain σ z0 (σ z0 6) a1 a2)) z0 6 ((((f_X6_setChain σ z0 (σ z0 6) a1 a2)) z0 6) + 1)) z0 4 (((q_up ((f_X6_setChain σ z0 (σ z0 6) a1 a2)) z0 6 ((((f_X6_setChain σ z0 (σ z0 6) a1 a2)) z0 6) + 1)) z0 4) + (((f_X9_stepX a1)) * a2))) z0 5) + (((f_X9_stepY a1)) * a2))) z0 4) = ((q_up (q_up (q_up ((f_X6_setChain σ z0 (σ z0 6) a1 a2)) z0 6 ((((f_X6_setChain σ z0 (σ z0 6) a1 a2)) z0 6) + 1)) z0 4 (((q_up ((f_X6_setChain σ z0 (σ z0 6) a1 a2)) z0 6 ((((f_X6_setChain σ z0 (σ z0 6) a1 a2)) z0 6) + 1)) z0 4) + (((f_X9_stepX a1)) * a2))) z0 5 (((q_up (q_up ((f_X6_setChain σ z0 (σ z0 6) a1 a2)) z0 6 ((((f_X6_setChain σ z0 (σ z0 6) a1 a2)) z0 6) + 1)) z0 4 (((q_up ((f_X6_setChain σ z0 (σ z0 6) a1 a2)) z0 6 ((((f_X6_setChain σ z0 (σ z0 6) a1 a2)) z0 6) + 1)) z0 4) + (((f_X9_stepX a1)) * a2))) z0 5) + (((f_X9_stepY a1)) * a2))) z0 2) then (if ((q_up (q_up (q_up ((f_X6_setChain σ z0 (σ z0 6) a1 a2)) z0 6 ((((f_X6_setChain σ z0 (σ z0 6) a1 a2)) z0 6) + 1)) z0 4 (((q_up ((f_X6_setChain σ z0 (σ z0 6) a1 a2)) z0 6 ((((f_X6_setChain σ z0 (σ z0 6) a1 a2)) z0 6) + 1)) z0 4) + (((f_X9_stepX a1)) * a2))) z0 5 (((q_up (q_up ((f_X6_setChain σ z0 (σ z0 6) a1 a2)) z0 6 ((((f_X6_setChain σ z0 (σ z0 6) a1 a2)) z0 6) + 1)) z0 4 (((q_up ((f_X6_setChain σ z0 (σ z0 6) a1 a2)) z0 6 ((((f_X6_setChain σ z0 (σ z0 6) a1 a2)) z0 6) + 1)) z0 4) + (((f_X9_stepX a1)) * a2))) z0 5) + (((f_X9_stepY a1)) * a2))) z0 5) = ((q_up (q_up (q_up ((f_X6_setChain σ z0 (σ z0 6) a1 a2)) z0 6 ((((f_X6_setChain σ z0 (σ z0 6) a1 a2)) z0 6) + 1)) z0 4 (((q_up ((f_X6_setChain σ z0 (σ z0 6) a1 a2)) z0 6 ((((f_X6_setChain σ z0 (σ z0 6) a1 a2)) z0 6) + 1)) z0 4) + (((f_X9_stepX a1)) * a2))) z0 5 (((q_up (q_up ((f_X6_setChain σ z0 (σ z0 6) a1 a2)) z0 6 ((((f_X6_setChain σ z0 (σ z0 6) a1 a2)) z0 6) + 1)) z0 4 (((q_up ((f_X6_setChain σ z0 (σ z0 6) a1 a2)) z0 6 ((((f_X6_setChain σ z0 (σ z0 6) a1 a2)) z0 6) + 1)) z0 4) + (((f_X9_stepX a1)) * a2))) z0 5) + (((f_X9_stepY a1)) * a2))) z0 3) then (q_up (q_up (q_up (q_up ((f_X6_setChain σ z0 (σ z0 6) a1 a2)) z0 6 ((((f_X6_setChain σ z0 (σ z0 6) a1 a2)) z0 6) + 1)) z0 4 (((q_up ((f_X6_setChain σ z0 (σ z0 6) a1 a2)) z0 6 ((((f_X6_setChain σ z0 (σ z0 6) a1 a2)) z0 6) + 1)) z0 4) + (((f_X9_stepX a1)) * a2))) z0 5 (((q_up (q_up ((f_X6_setChain σ z0 (σ z0 6) a1 a2)) z0 6 ((((f_X6_setChain σ z0 (σ z0 6) a1 a2)) z0 6) + 1)) z0 4 (((q_up ((f_X6_setChain σ z0 (σ z0 6) a1 a2)) z0 6 ((((f_X6_setChain σ z0 (σ z0 6) a1 a2)) z0 6) + 1)) z0 4) + (((f_X9_stepX a1)) * a2))) z0 5) + (((f_X9_stepY a1)) * a2))) z0 1 1) else (q_up (q_up (q_up (q_up ((f_X6_setChain σ z0 (σ z0 6) a1 a2)) z0 6 ((((f_X6_setChain σ z0 (σ z0 6) a1 a2)) z0 6) + 1)) z0 4 (((q_up ((f_X6_setChain σ z0 (σ z0 6) a1 a2)) z0 6 ((((f_X6_setChain σ z0 (σ z0 6) a1 a2)) z0 6) + 1)) z0 4) + (((f_X9_stepX a1)) * a2))) z0 5 (((q_up (q_up ((f_X6_setChain σ z0 (σ z0 6) a1 a2)) z0 6 ((((f_X6_setChain σ z0 (σ z0 6) a1 a2)) z0 6) + 1)) z0 4 (((q_up ((f_X6_setChain σ z0 (σ z0 6) a1 a2)) z0 6 ((((f_X6_setChain σ z0 (σ z0 6) a1 a2)) z0 6) + 1)) z0 4) + (((f_X9_stepX a1)) * a2))) z0 5) + (((f_X9_stepY a1)) * a2))) z0 1 0)) else (q_up (q_up (q_up (q_up ((f_X6_setChain σ z0 (σ z0 6) a1 a2)) z0 6 ((((f_X6_setChain σ z0 (σ z0 6) a1 a2)) z0 6) + 1)) z0 4 (((q_up ((f_X6_setChain σ z0 (σ z0 6) a1 a2)) z0 6 ((((f_X6_setChain σ z0 (σ z0 6) a1 a2)) z0 6) + 1)) z0 4) + (((f_X9_stepX a1)) * a2))) z0 5 (((q_up (q_up ((f_X6_setChain σ z0 (σ z0 6) a1 a2)) z0 6 ((((f_X6_setChain σ z0 (σ z0 6) a1 a2)) z0 6) + 1)) z0 4 (((q_up ((f_X6_setChain σ z0 (σ z0 6) a1 a2)) z0 6 ((((f_X6_setChain σ z0 (σ z0 6) a1 a2)) z0 6) + 1)) z0 4) + (((f_X9_stepX a1)) * a2))) z0 5) + (((f_X9_stepY a1)) * a2))) z0 1 0)
set_option maxHeartbeats 4000000 in
set_option maxRecDepth 100000 in
theorem ca_X6_add (l : Launch) (G : q_G) (x : q_A) (σ : q_S) (z0 : Nat) (a1 : Int32) (a2 : Int32) (hz0 : q_isPlot z0) {res : q_S} (h : f_X6_add σ z0 a1 a2 = res) : q_Met l yX6_add cX6_add 3 (none) 3 G [.ref (G.2.1 + z0), .int a1, .int a2] σ x (q_Qv G x res) := by
  refine q_of (by decide) (Nat.le_of_ble_eq_true rfl) (fun X hl0 hx hr => ?_)
  subst hl0
  have hx : q_Cx X G RX6 cX6_add 3 3 := hx
  unfold f_X6_add at h
  show q_Wq X G x 3 (q_MQ X G (q_Qv G x res)) 0 0 0 [(0, .ref (G.2.1 + z0)), (1, .int a1), (2, .int a2)] [] σ
  refine q_aload_n hx dX6_add_0 0 rfl ?_
  refine q_aload_n hx dX6_add_1 0 rfl ?_
  refine q_get (v := .int (σ z0 6)) hx q_fl_X6_31 dX6_add_2 (q_ne hz0.1 (by decide)) (q_e6 hz0.1) rfl ?_
  refine q_iload_n hx dX6_add_5 1 rfl ?_
  refine q_iload_n hx dX6_add_6 2 rfl ?_
  refine q_callVv (As := [.int (σ z0 6), .int a1, .int a2]) (rest := []) hx q_kR0 (c_X6_setChain (q_Xl X) G x σ z0 (σ z0 6) a1 a2 hz0) q_ml_X6_45 q_mn_X6_setChain q_mi_X6_setChain q_se_X6_setChain (by decide) rfl (Nat.le_of_ble_eq_true rfl) dX6_add_7 (q_ne hz0.1 (by decide)) (q_e6 hz0.1) rfl rfl rfl ?_
  refine q_aload_n hx dX6_add_10 0 rfl ?_
  refine q_dup hx dX6_add_11 rfl ?_
  refine q_get (v := .int (((f_X6_setChain σ z0 (σ z0 6) a1 a2)) z0 6)) hx q_fl_X6_31 dX6_add_12 (q_ne hz0.1 (by decide)) (q_e6 hz0.1) rfl ?_
  refine q_iconst (v := 1) hx dX6_add_15 (by decide) ?_
  refine q_iadd hx dX6_add_16 ?_
  refine q_put (v := (((f_X6_setChain σ z0 (σ z0 6) a1 a2)) z0 6) + 1) hx q_fl_X6_31 q_fp_6_6 dX6_add_17 (q_ne hz0.1 (by decide)) (q_e6 hz0.1) (by rw [q_l6]; decide) rfl rfl (by rw [q_e6 hz0.1, q_s6_6]) ?_
  refine q_aload_n hx dX6_add_20 0 rfl ?_
  refine q_dup hx dX6_add_21 rfl ?_
  refine q_get (v := .int ((q_up ((f_X6_setChain σ z0 (σ z0 6) a1 a2)) z0 6 ((((f_X6_setChain σ z0 (σ z0 6) a1 a2)) z0 6) + 1)) z0 4)) hx q_fl_X6_25 dX6_add_22 (q_ne hz0.1 (by decide)) (q_e6 hz0.1) rfl ?_
  refine q_iload_n hx dX6_add_25 1 rfl ?_
  refine q_callSi (As := [.int a1]) (rest := [.int ((q_up ((f_X6_setChain σ z0 (σ z0 6) a1 a2)) z0 6 ((((f_X6_setChain σ z0 (σ z0 6) a1 a2)) z0 6) + 1)) z0 4), .ref (G.2.1 + z0)]) hx q_kR0 (c_X9_stepX (q_Xl X) G x (q_up ((f_X6_setChain σ z0 (σ z0 6) a1 a2)) z0 6 ((((f_X6_setChain σ z0 (σ z0 6) a1 a2)) z0 6) + 1)) a1) q_ml_X6_49 q_mn_X9_stepX q_ms_X9_stepX (by decide) rfl (Nat.le_of_ble_eq_true rfl) dX6_add_26 rfl ?_
  refine q_iload_n hx dX6_add_29 2 rfl ?_
  refine q_imul hx dX6_add_30 ?_
  refine q_iadd hx dX6_add_31 ?_
  refine q_put (v := ((q_up ((f_X6_setChain σ z0 (σ z0 6) a1 a2)) z0 6 ((((f_X6_setChain σ z0 (σ z0 6) a1 a2)) z0 6) + 1)) z0 4) + (((f_X9_stepX a1)) * a2)) hx q_fl_X6_25 q_fp_6_4 dX6_add_32 (q_ne hz0.1 (by decide)) (q_e6 hz0.1) (by rw [q_l6]; decide) rfl rfl (by rw [q_e6 hz0.1, q_s6_4]) ?_
  refine q_aload_n hx dX6_add_35 0 rfl ?_
  refine q_dup hx dX6_add_36 rfl ?_
  refine q_get (v := .int ((q_up (q_up ((f_X6_setChain σ z0 (σ z0 6) a1 a2)) z0 6 ((((f_X6_setChain σ z0 (σ z0 6) a1 a2)) z0 6) + 1)) z0 4 (((q_up ((f_X6_setChain σ z0 (σ z0 6) a1 a2)) z0 6 ((((f_X6_setChain σ z0 (σ z0 6) a1 a2)) z0 6) + 1)) z0 4) + (((f_X9_stepX a1)) * a2))) z0 5)) hx q_fl_X6_28 dX6_add_37 (q_ne hz0.1 (by decide)) (q_e6 hz0.1) rfl ?_
  refine q_iload_n hx dX6_add_40 1 rfl ?_
  refine q_callSi (As := [.int a1]) (rest := [.int ((q_up (q_up ((f_X6_setChain σ z0 (σ z0 6) a1 a2)) z0 6 ((((f_X6_setChain σ z0 (σ z0 6) a1 a2)) z0 6) + 1)) z0 4 (((q_up ((f_X6_setChain σ z0 (σ z0 6) a1 a2)) z0 6 ((((f_X6_setChain σ z0 (σ z0 6) a1 a2)) z0 6) + 1)) z0 4) + (((f_X9_stepX a1)) * a2))) z0 5), .ref (G.2.1 + z0)]) hx q_kR0 (c_X9_stepY (q_Xl X) G x (q_up (q_up ((f_X6_setChain σ z0 (σ z0 6) a1 a2)) z0 6 ((((f_X6_setChain σ z0 (σ z0 6) a1 a2)) z0 6) + 1)) z0 4 (((q_up ((f_X6_setChain σ z0 (σ z0 6) a1 a2)) z0 6 ((((f_X6_setChain σ z0 (σ z0 6) a1 a2)) z0 6) + 1)) z0 4) + (((f_X9_stepX a1)) * a2))) a1) q_ml_X6_53 q_mn_X9_stepY q_ms_X9_stepY (by decide) rfl (Nat.le_of_ble_eq_true rfl) dX6_add_41 rfl ?_
  refine q_iload_n hx dX6_add_44 2 rfl ?_
  refine q_imul hx dX6_add_45 ?_
  refine q_iadd hx dX6_add_46 ?_
  refine q_put (v := ((q_up (q_up ((f_X6_setChain σ z0 (σ z0 6) a1 a2)) z0 6 ((((f_X6_setChain σ z0 (σ z0 6) a1 a2)) z0 6) + 1)) z0 4 (((q_up ((f_X6_setChain σ z0 (σ z0 6) a1 a2)) z0 6 ((((f_X6_setChain σ z0 (σ z0 6) a1 a2)) z0 6) + 1)) z0 4) + (((f_X9_stepX a1)) * a2))) z0 5) + (((f_X9_stepY a1)) * a2)) hx q_fl_X6_28 q_fp_6_5 dX6_add_47 (q_ne hz0.1 (by decide)) (q_e6 hz0.1) (by rw [q_l6]; decide) rfl rfl (by rw [q_e6 hz0.1, q_s6_5]) ?_
  refine q_aload_n hx dX6_add_50 0 rfl ?_
  refine q_aload_n hx dX6_add_51 0 rfl ?_
  refine q_get (v := .int ((q_up (q_up (q_up ((f_X6_setChain σ z0 (σ z0 6) a1 a2)) z0 6 ((((f_X6_setChain σ z0 (σ z0 6) a1 a2)) z0 6) + 1)) z0 4 (((q_up ((f_X6_setChain σ z0 (σ z0 6) a1 a2)) z0 6 ((((f_X6_setChain σ z0 (σ z0 6) a1 a2)) z0 6) + 1)) z0 4) + (((f_X9_stepX a1)) * a2))) z0 5 (((q_up (q_up ((f_X6_setChain σ z0 (σ z0 6) a1 a2)) z0 6 ((((f_X6_setChain σ z0 (σ z0 6) a1 a2)) z0 6) + 1)) z0 4 (((q_up ((f_X6_setChain σ z0 (σ z0 6) a1 a2)) z0 6 ((((f_X6_setChain σ z0 (σ z0 6) a1 a2)) z0 6) + 1)) z0 4) + (((f_X9_stepX a1)) * a2))) z0 5) + (((f_X9_stepY a1)) * a2))) z0 4)) hx q_fl_X6_25 dX6_add_52 (q_ne hz0.1 (by decide)) (q_e6 hz0.1) rfl ?_
  refine q_aload_n hx dX6_add_55 0 rfl ?_
  refine q_get (v := .int ((q_up (q_up (q_up ((f_X6_setChain σ z0 (σ z0 6) a1 a2)) z0 6 ((((f_X6_setChain σ z0 (σ z0 6) a1 a2)) z0 6) + 1)) z0 4 (((q_up ((f_X6_setChain σ z0 (σ z0 6) a1 a2)) z0 6 ((((f_X6_setChain σ z0 (σ z0 6) a1 a2)) z0 6) + 1)) z0 4) + (((f_X9_stepX a1)) * a2))) z0 5 (((q_up (q_up ((f_X6_setChain σ z0 (σ z0 6) a1 a2)) z0 6 ((((f_X6_setChain σ z0 (σ z0 6) a1 a2)) z0 6) + 1)) z0 4 (((q_up ((f_X6_setChain σ z0 (σ z0 6) a1 a2)) z0 6 ((((f_X6_setChain σ z0 (σ z0 6) a1 a2)) z0 6) + 1)) z0 4) + (((f_X9_stepX a1)) * a2))) z0 5) + (((f_X9_stepY a1)) * a2))) z0 2)) hx q_fl_X6_18 dX6_add_56 (q_ne hz0.1 (by decide)) (q_e6 hz0.1) rfl ?_
  refine q_icmp_ne hx 77 dX6_add_59 (by decide) (fun hc1 => ?_) (fun hc1 => ?_)
  · replace h := (if_neg hc1).symm.trans h
    refine q_iconst (v := 0) hx dX6_add_77 (by decide) ?_
    refine q_put (v := 0) hx q_fl_X6_15 q_fp_6_1 dX6_add_78 (q_ne hz0.1 (by decide)) (q_e6 hz0.1) (by rw [q_l6]; decide) rfl rfl (by rw [q_e6 hz0.1, q_s6_1]) ?_
    subst h
    exact q_vret hx hr dX6_add_81
  · replace h := (if_pos hc1).symm.trans h
    refine q_aload_n hx dX6_add_62 0 rfl ?_
    refine q_get (v := .int ((q_up (q_up (q_up ((f_X6_setChain σ z0 (σ z0 6) a1 a2)) z0 6 ((((f_X6_setChain σ z0 (σ z0 6) a1 a2)) z0 6) + 1)) z0 4 (((q_up ((f_X6_setChain σ z0 (σ z0 6) a1 a2)) z0 6 ((((f_X6_setChain σ z0 (σ z0 6) a1 a2)) z0 6) + 1)) z0 4) + (((f_X9_stepX a1)) * a2))) z0 5 (((q_up (q_up ((f_X6_setChain σ z0 (σ z0 6) a1 a2)) z0 6 ((((f_X6_setChain σ z0 (σ z0 6) a1 a2)) z0 6) + 1)) z0 4 (((q_up ((f_X6_setChain σ z0 (σ z0 6) a1 a2)) z0 6 ((((f_X6_setChain σ z0 (σ z0 6) a1 a2)) z0 6) + 1)) z0 4) + (((f_X9_stepX a1)) * a2))) z0 5) + (((f_X9_stepY a1)) * a2))) z0 5)) hx q_fl_X6_28 dX6_add_63 (q_ne hz0.1 (by decide)) (q_e6 hz0.1) rfl ?_
    refine q_aload_n hx dX6_add_66 0 rfl ?_
    refine q_get (v := .int ((q_up (q_up (q_up ((f_X6_setChain σ z0 (σ z0 6) a1 a2)) z0 6 ((((f_X6_setChain σ z0 (σ z0 6) a1 a2)) z0 6) + 1)) z0 4 (((q_up ((f_X6_setChain σ z0 (σ z0 6) a1 a2)) z0 6 ((((f_X6_setChain σ z0 (σ z0 6) a1 a2)) z0 6) + 1)) z0 4) + (((f_X9_stepX a1)) * a2))) z0 5 (((q_up (q_up ((f_X6_setChain σ z0 (σ z0 6) a1 a2)) z0 6 ((((f_X6_setChain σ z0 (σ z0 6) a1 a2)) z0 6) + 1)) z0 4 (((q_up ((f_X6_setChain σ z0 (σ z0 6) a1 a2)) z0 6 ((((f_X6_setChain σ z0 (σ z0 6) a1 a2)) z0 6) + 1)) z0 4) + (((f_X9_stepX a1)) * a2))) z0 5) + (((f_X9_stepY a1)) * a2))) z0 3)) hx q_fl_X6_22 dX6_add_67 (q_ne hz0.1 (by decide)) (q_e6 hz0.1) rfl ?_
    refine q_icmp_ne hx 77 dX6_add_70 (by decide) (fun hc2 => ?_) (fun hc2 => ?_)
    · replace h := (if_neg hc2).symm.trans h
      refine q_iconst (v := 0) hx dX6_add_77 (by decide) ?_
      refine q_put (v := 0) hx q_fl_X6_15 q_fp_6_1 dX6_add_78 (q_ne hz0.1 (by decide)) (q_e6 hz0.1) (by rw [q_l6]; decide) rfl rfl (by rw [q_e6 hz0.1, q_s6_1]) ?_
      subst h
      exact q_vret hx hr dX6_add_81
    · replace h := (if_pos hc2).symm.trans h
      refine q_iconst (v := 1) hx dX6_add_73 (by decide) ?_
      refine q_goto hx 78 dX6_add_74 (by decide) ?_
      refine q_put (v := 1) hx q_fl_X6_15 q_fp_6_1 dX6_add_78 (q_ne hz0.1 (by decide)) (q_e6 hz0.1) (by rw [q_l6]; decide) rfl rfl (by rw [q_e6 hz0.1, q_s6_1]) ?_
      subst h
      exact q_vret hx hr dX6_add_81
theorem c_X6_add (l : Launch) (G : q_G) (x : q_A) (σ : q_S) (z0 : Nat) (a1 : Int32) (a2 : Int32) (hz0 : q_isPlot z0) : q_Met l yX6_add cX6_add 3 (none) 3 G [.ref (G.2.1 + z0), .int a1, .int a2] σ x (q_Qv G x (f_X6_add σ z0 a1 a2)) := ca_X6_add l G x σ z0 a1 a2 hz0 rfl
-- X6_replaceByThree
def f_X6_replaceByThree_22 (z0 : Nat) : Nat → Int32 → Int32 → Int32 → Int32 → Int32 → Int32 → q_S → Option (q_S)
  | 0, _, _, _, _, _, _, _ => none
  | n + 1, v1, v2, v3, v4, v5, v6, σ =>
    if v6 ≤ v1 then (some (q_up ((f_X6_setChain ((f_X6_setChain ((f_X6_setChain σ z0 v1 v2 v3)) z0 (v1 + 1) v4 v5)) z0 (v1 + 2) ((f_X9_oppositeOf v2)) v3)) z0 6 ((((f_X6_setChain ((f_X6_setChain ((f_X6_setChain σ z0 v1 v2 v3)) z0 (v1 + 1) v4 v5)) z0 (v1 + 2) ((f_X9_oppositeOf v2)) v3)) z0 6) + 2))) else (f_X6_replaceByThree_22 z0 n v1 v2 v3 v4 v5 (v6 + (-1)) ((f_X6_setChain σ z0 (v6 + 2) ((f_X6_directionOf σ z0 v6)) ((f_X6_lengthOf σ z0 v6)))))
set_option maxHeartbeats 4000000 in
set_option maxRecDepth 100000 in
theorem s_X6_replaceByThree_22 {X : q_X} {G : q_G} {x : q_A} (z0 : Nat) (hx : q_Cx X G RX6 cX6_replaceByThree 7 3) (hr : (q_Xm X).sig.returnType = none) (hz0 : q_isPlot z0) {res : q_S} : ∀ (n : Nat) (v1 : Int32) (v2 : Int32) (v3 : Int32) (v4 : Int32) (v5 : Int32) (v6 : Int32) (σ : q_S), f_X6_replaceByThree_22 z0 n v1 v2 v3 v4 v5 v6 σ = some res → q_Wq X G x 7 (q_MQ X G (q_Qv G x res)) 0 0 22 [(0, .ref (G.2.1 + z0)), (1, .int v1), (2, .int v2), (3, .int v3), (4, .int v4), (5, .int v5), (6, .int v6)] [] σ := by
  intro n
  induction n with
  | zero => exact fun _ _ _ _ _ _ _ h => nomatch (show (none : Option (q_S)) = some res from h)
  | succ n ih =>
    intro v1 v2 v3 v4 v5 v6 σ h
    rw [f_X6_replaceByThree_22] at h
    refine q_iload hx dX6_replaceByThree_22 6 rfl ?_
    refine q_iload_n hx dX6_replaceByThree_24 1 rfl ?_
    refine q_icmp_le hx 54 dX6_replaceByThree_25 (by decide) (fun hc1 => ?_) (fun hc1 => ?_)
    · replace h := (if_pos hc1).symm.trans h
      refine q_aload_n hx dX6_replaceByThree_54 0 rfl ?_
      refine q_iload_n hx dX6_replaceByThree_55 1 rfl ?_
      refine q_iload_n hx dX6_replaceByThree_56 2 rfl ?_
      refine q_iload_n hx dX6_replaceByThree_57 3 rfl ?_
      refine q_callVv (As := [.int v1, .int v2, .int v3]) (rest := []) hx q_kR0 (c_X6_setChain (q_Xl X) G x σ z0 v1 v2 v3 hz0) q_ml_X6_45 q_mn_X6_setChain q_mi_X6_setChain q_se_X6_setChain (by decide) rfl (Nat.le_of_ble_eq_true rfl) dX6_replaceByThree_58 (q_ne hz0.1 (by decide)) (q_e6 hz0.1) rfl rfl rfl ?_
      refine q_aload_n hx dX6_replaceByThree_61 0 rfl ?_
      refine q_iload_n hx dX6_replaceByThree_62 1 rfl ?_
      refine q_iconst (v := 1) hx dX6_replaceByThree_63 (by decide) ?_
      refine q_iadd hx dX6_replaceByThree_64 ?_
      refine q_iload hx dX6_replaceByThree_65 4 rfl ?_
      refine q_iload hx dX6_replaceByThree_67 5 rfl ?_
      refine q_callVv (As := [.int (v1 + 1), .int v4, .int v5]) (rest := []) hx q_kR0 (c_X6_setChain (q_Xl X) G x ((f_X6_setChain σ z0 v1 v2 v3)) z0 (v1 + 1) v4 v5 hz0) q_ml_X6_45 q_mn_X6_setChain q_mi_X6_setChain q_se_X6_setChain (by decide) rfl (Nat.le_of_ble_eq_true rfl) dX6_replaceByThree_69 (q_ne hz0.1 (by decide)) (q_e6 hz0.1) rfl rfl rfl ?_
      refine q_aload_n hx dX6_replaceByThree_72 0 rfl ?_
      refine q_iload_n hx dX6_replaceByThree_73 1 rfl ?_
      refine q_iconst (v := 2) hx dX6_replaceByThree_74 (by decide) ?_
      refine q_iadd hx dX6_replaceByThree_75 ?_
      refine q_iload_n hx dX6_replaceByThree_76 2 rfl ?_
      refine q_callSi (As := [.int v2]) (rest := [.int (v1 + 2), .ref (G.2.1 + z0)]) hx q_kR0 (c_X9_oppositeOf (q_Xl X) G x ((f_X6_setChain ((f_X6_setChain σ z0 v1 v2 v3)) z0 (v1 + 1) v4 v5)) v2) q_ml_X6_62 q_mn_X9_oppositeOf q_ms_X9_oppositeOf (by decide) rfl (Nat.le_of_ble_eq_true rfl) dX6_replaceByThree_77 rfl ?_
      refine q_iload_n hx dX6_replaceByThree_80 3 rfl ?_
      refine q_callVv (As := [.int (v1 + 2), .int ((f_X9_oppositeOf v2)), .int v3]) (rest := []) hx q_kR0 (c_X6_setChain (q_Xl X) G x ((f_X6_setChain ((f_X6_setChain σ z0 v1 v2 v3)) z0 (v1 + 1) v4 v5)) z0 (v1 + 2) ((f_X9_oppositeOf v2)) v3 hz0) q_ml_X6_45 q_mn_X6_setChain q_mi_X6_setChain q_se_X6_setChain (by decide) rfl (Nat.le_of_ble_eq_true rfl) dX6_replaceByThree_81 (q_ne hz0.1 (by decide)) (q_e6 hz0.1) rfl rfl rfl ?_
      refine q_aload_n hx dX6_replaceByThree_84 0 rfl ?_
      refine q_dup hx dX6_replaceByThree_85 rfl ?_
      refine q_get (v := .int (((f_X6_setChain ((f_X6_setChain ((f_X6_setChain σ z0 v1 v2 v3)) z0 (v1 + 1) v4 v5)) z0 (v1 + 2) ((f_X9_oppositeOf v2)) v3)) z0 6)) hx q_fl_X6_31 dX6_replaceByThree_86 (q_ne hz0.1 (by decide)) (q_e6 hz0.1) rfl ?_
      refine q_iconst (v := 2) hx dX6_replaceByThree_89 (by decide) ?_
      refine q_iadd hx dX6_replaceByThree_90 ?_
      refine q_put (v := (((f_X6_setChain ((f_X6_setChain ((f_X6_setChain σ z0 v1 v2 v3)) z0 (v1 + 1) v4 v5)) z0 (v1 + 2) ((f_X9_oppositeOf v2)) v3)) z0 6) + 2) hx q_fl_X6_31 q_fp_6_6 dX6_replaceByThree_91 (q_ne hz0.1 (by decide)) (q_e6 hz0.1) (by rw [q_l6]; decide) rfl rfl (by rw [q_e6 hz0.1, q_s6_6]) ?_
      cases h
      exact q_vret hx hr dX6_replaceByThree_94
    · replace h := (if_neg hc1).symm.trans h
      refine q_aload_n hx dX6_replaceByThree_28 0 rfl ?_
      refine q_iload hx dX6_replaceByThree_29 6 rfl ?_
      refine q_iconst (v := 2) hx dX6_replaceByThree_31 (by decide) ?_
      refine q_iadd hx dX6_replaceByThree_32 ?_
      refine q_aload_n hx dX6_replaceByThree_33 0 rfl ?_
      refine q_iload hx dX6_replaceByThree_34 6 rfl ?_
      refine q_callVi (As := [.int v6]) (rest := [.int (v6 + 2), .ref (G.2.1 + z0)]) hx q_kR0 (c_X6_directionOf (q_Xl X) G x σ z0 v6 hz0) q_ml_X6_56 q_mn_X6_directionOf q_mi_X6_directionOf q_se_X6_directionOf (by decide) rfl (Nat.le_of_ble_eq_true rfl) dX6_replaceByThree_36 (q_ne hz0.1 (by decide)) (q_e6 hz0.1) rfl rfl rfl ?_
      refine q_aload_n hx dX6_replaceByThree_39 0 rfl ?_
      refine q_iload hx dX6_replaceByThree_40 6 rfl ?_
      refine q_callVi (As := [.int v6]) (rest := [.int ((f_X6_directionOf σ z0 v6)), .int (v6 + 2), .ref (G.2.1 + z0)]) hx q_kR0 (c_X6_lengthOf (q_Xl X) G x σ z0 v6 hz0) q_ml_X6_59 q_mn_X6_lengthOf q_mi_X6_lengthOf q_se_X6_lengthOf (by decide) rfl (Nat.le_of_ble_eq_true rfl) dX6_replaceByThree_42 (q_ne hz0.1 (by decide)) (q_e6 hz0.1) rfl rfl rfl ?_
      refine q_callVv (As := [.int (v6 + 2), .int ((f_X6_directionOf σ z0 v6)), .int ((f_X6_lengthOf σ z0 v6))]) (rest := []) hx q_kR0 (c_X6_setChain (q_Xl X) G x σ z0 (v6 + 2) ((f_X6_directionOf σ z0 v6)) ((f_X6_lengthOf σ z0 v6)) hz0) q_ml_X6_45 q_mn_X6_setChain q_mi_X6_setChain q_se_X6_setChain (by decide) rfl (Nat.le_of_ble_eq_true rfl) dX6_replaceByThree_45 (q_ne hz0.1 (by decide)) (q_e6 hz0.1) rfl rfl rfl ?_
      refine q_iinc hx [(6, .int (v6 + (-1))), (0, .ref (G.2.1 + z0)), (1, .int v1), (2, .int v2), (3, .int v3), (4, .int v4), (5, .int v5)] dX6_replaceByThree_48 6 rfl rfl (by decide) rfl ?_
      refine q_goto hx 22 dX6_replaceByThree_51 (by decide) ?_
      refine q_sub [1, 2, 3, 4, 5, 6, 0] rfl ?_
      exact ih v1 v2 v3 v4 v5 (v6 + (-1)) ((f_X6_setChain σ z0 (v6 + 2) ((f_X6_directionOf σ z0 v6)) ((f_X6_lengthOf σ z0 v6)))) h
def f_X6_replaceByThree (σ : q_S) (z0 : Nat) (a1 : Int32) (a2 : Int32) (a3 : Int32) : Option (q_S) :=
  f_X6_replaceByThree_22 z0 q_fu a1 a2 a3 ((f_X6_directionOf σ z0 a1)) ((f_X6_lengthOf σ z0 a1)) ((σ z0 6) - 1) σ
set_option maxHeartbeats 4000000 in
set_option maxRecDepth 100000 in
theorem c_X6_replaceByThree (l : Launch) (G : q_G) (x : q_A) (σ : q_S) (z0 : Nat) (a1 : Int32) (a2 : Int32) (a3 : Int32) (hz0 : q_isPlot z0) {res : q_S} (h : f_X6_replaceByThree σ z0 a1 a2 a3 = some res) : q_Met l yX6_replaceByThree cX6_replaceByThree 7 (none) 3 G [.ref (G.2.1 + z0), .int a1, .int a2, .int a3] σ x (q_Qv G x res) := by
  refine q_of (by decide) (Nat.le_of_ble_eq_true rfl) (fun X hl0 hx hr => ?_)
  subst hl0
  have hx : q_Cx X G RX6 cX6_replaceByThree 7 3 := hx
  unfold f_X6_replaceByThree at h
  show q_Wq X G x 7 (q_MQ X G (q_Qv G x res)) 0 0 0 [(0, .ref (G.2.1 + z0)), (1, .int a1), (2, .int a2), (3, .int a3)] [] σ
  refine q_aload_n hx dX6_replaceByThree_0 0 rfl ?_
  refine q_iload_n hx dX6_replaceByThree_1 1 rfl ?_
  refine q_callVi (As := [.int a1]) (rest := []) hx q_kR0 (c_X6_directionOf (q_Xl X) G x σ z0 a1 hz0) q_ml_X6_56 q_mn_X6_directionOf q_mi_X6_directionOf q_se_X6_directionOf (by decide) rfl (Nat.le_of_ble_eq_true rfl) dX6_replaceByThree_2 (q_ne hz0.1 (by decide)) (q_e6 hz0.1) rfl rfl rfl ?_
  refine q_istore hx [(4, .int ((f_X6_directionOf σ z0 a1))), (0, .ref (G.2.1 + z0)), (1, .int a1), (2, .int a2), (3, .int a3)] dX6_replaceByThree_5 (by decide) rfl ?_
  refine q_aload_n hx dX6_replaceByThree_7 1 rfl ?_
  refine q_iload_n hx dX6_replaceByThree_8 2 rfl ?_
  refine q_callVi (As := [.int a1]) (rest := []) hx q_kR0 (c_X6_lengthOf (q_Xl X) G x σ z0 a1 hz0) q_ml_X6_59 q_mn_X6_lengthOf q_mi_X6_lengthOf q_se_X6_lengthOf (by decide) rfl (Nat.le_of_ble_eq_true rfl) dX6_replaceByThree_9 (q_ne hz0.1 (by decide)) (q_e6 hz0.1) rfl rfl rfl ?_
  refine q_istore hx [(5, .int ((f_X6_lengthOf σ z0 a1))), (4, .int ((f_X6_directionOf σ z0 a1))), (0, .ref (G.2.1 + z0)), (1, .int a1), (2, .int a2), (3, .int a3)] dX6_replaceByThree_12 (by decide) rfl ?_
  refine q_aload_n hx dX6_replaceByThree_14 2 rfl ?_
  refine q_get (v := .int (σ z0 6)) hx q_fl_X6_31 dX6_replaceByThree_15 (q_ne hz0.1 (by decide)) (q_e6 hz0.1) rfl ?_
  refine q_iconst (v := 1) hx dX6_replaceByThree_18 (by decide) ?_
  refine q_isub hx dX6_replaceByThree_19 ?_
  refine q_istore hx [(6, .int ((σ z0 6) - 1)), (5, .int ((f_X6_lengthOf σ z0 a1))), (4, .int ((f_X6_directionOf σ z0 a1))), (0, .ref (G.2.1 + z0)), (1, .int a1), (2, .int a2), (3, .int a3)] dX6_replaceByThree_20 (by decide) rfl ?_
  refine q_sub [3, 4, 5, 6, 2, 1, 0] rfl ?_
  exact s_X6_replaceByThree_22 z0 hx hr hz0 q_fu a1 a2 a3 ((f_X6_directionOf σ z0 a1)) ((f_X6_lengthOf σ z0 a1)) ((σ z0 6) - 1) σ h
-- X6_copyFrom
def f_X6_copyFrom (σ : q_S) (z0 : Nat) (z1 : Nat) : Option (q_S) :=
  if (σ z1 0 = 0 ∨ σ z1 0 = 1) then if ((q_up σ z0 0 (σ z1 0)) z1 1 = 0 ∨ (q_up σ z0 0 (σ z1 0)) z1 1 = 1) then some ((f_X9_copyNumbers ((f_X9_copyNumbers (q_up (q_up (q_up (q_up (q_up (q_up (q_up σ z0 0 (σ z1 0)) z0 1 ((q_up σ z0 0 (σ z1 0)) z1 1)) z0 2 ((q_up (q_up σ z0 0 (σ z1 0)) z0 1 ((q_up σ z0 0 (σ z1 0)) z1 1)) z1 2)) z0 3 ((q_up (q_up (q_up σ z0 0 (σ z1 0)) z0 1 ((q_up σ z0 0 (σ z1 0)) z1 1)) z0 2 ((q_up (q_up σ z0 0 (σ z1 0)) z0 1 ((q_up σ z0 0 (σ z1 0)) z1 1)) z1 2)) z1 3)) z0 4 ((q_up (q_up (q_up (q_up σ z0 0 (σ z1 0)) z0 1 ((q_up σ z0 0 (σ z1 0)) z1 1)) z0 2 ((q_up (q_up σ z0 0 (σ z1 0)) z0 1 ((q_up σ z0 0 (σ z1 0)) z1 1)) z1 2)) z0 3 ((q_up (q_up (q_up σ z0 0 (σ z1 0)) z0 1 ((q_up σ z0 0 (σ z1 0)) z1 1)) z0 2 ((q_up (q_up σ z0 0 (σ z1 0)) z0 1 ((q_up σ z0 0 (σ z1 0)) z1 1)) z1 2)) z1 3)) z1 4)) z0 5 ((q_up (q_up (q_up (q_up (q_up σ z0 0 (σ z1 0)) z0 1 ((q_up σ z0 0 (σ z1 0)) z1 1)) z0 2 ((q_up (q_up σ z0 0 (σ z1 0)) z0 1 ((q_up σ z0 0 (σ z1 0)) z1 1)) z1 2)) z0 3 ((q_up (q_up (q_up σ z0 0 (σ z1 0)) z0 1 ((q_up σ z0 0 (σ z1 0)) z1 1)) z0 2 ((q_up (q_up σ z0 0 (σ z1 0)) z0 1 ((q_up σ z0 0 (σ z1 0)) z1 1)) z1 2)) z1 3)) z0 4 ((q_up (q_up (q_up (q_up σ z0 0 (σ z1 0)) z0 1 ((q_up σ z0 0 (σ z1 0)) z1 1)) z0 2 ((q_up (q_up σ z0 0 (σ z1 0)) z0 1 ((q_up σ z0 0 (σ z1 0)) z1 1)) z1 2)) z0 3 ((q_up (q_up (q_up σ z0 0 (σ z1 0)) z0 1 ((q_up σ z0 0 (σ z1 0)) z1 1)) z0 2 ((q_up (q_up σ z0 0 (σ z1 0)) z0 1 ((q_up σ z0 0 (σ z1 0)) z1 1)) z1 2)) z1 3)) z1 4)) z1 5)) z0 6 ((q_up (q_up (q_up (q_up (q_up (q_up σ z0 0 (σ z1 0)) z0 1 ((q_up σ z0 0 (σ z1 0)) z1 1)) z0 2 ((q_up (q_up σ z0 0 (σ z1 0)) z0 1 ((q_up σ z0 0 (σ z1 0)) z1 1)) z1 2)) z0 3 ((q_up (q_up (q_up σ z0 0 (σ z1 0)) z0 1 ((q_up σ z0 0 (σ z1 0)) z1 1)) z0 2 ((q_up (q_up σ z0 0 (σ z1 0)) z0 1 ((q_up σ z0 0 (σ z1 0)) z1 1)) z1 2)) z1 3)) z0 4 ((q_up (q_up (q_up (q_up σ z0 0 (σ z1 0)) z0 1 ((q_up σ z0 0 (σ z1 0)) z1 1)) z0 2 ((q_up (q_up σ z0 0 (σ z1 0)) z0 1 ((q_up σ z0 0 (σ z1 0)) z1 1)) z1 2)) z0 3 ((q_up (q_up (q_up σ z0 0 (σ z1 0)) z0 1 ((q_up σ z0 0 (σ z1 0)) z1 1)) z0 2 ((q_up (q_up σ z0 0 (σ z1 0)) z0 1 ((q_up σ z0 0 (σ z1 0)) z1 1)) z1 2)) z1 3)) z1 4)) z0 5 ((q_up (q_up (q_up (q_up (q_up σ z0 0 (σ z1 0)) z0 1 ((q_up σ z0 0 (σ z1 0)) z1 1)) z0 2 ((q_up (q_up σ z0 0 (σ z1 0)) z0 1 ((q_up σ z0 0 (σ z1 0)) z1 1)) z1 2)) z0 3 ((q_up (q_up (q_up σ z0 0 (σ z1 0)) z0 1 ((q_up σ z0 0 (σ z1 0)) z1 1)) z0 2 ((q_up (q_up σ z0 0 (σ z1 0)) z0 1 ((q_up σ z0 0 (σ z1 0)) z1 1)) z1 2)) z1 3)) z0 4 ((q_up (q_up (q_up (q_up σ z0 0 (σ z1 0)) z0 1 ((q_up σ z0 0 (σ z1 0)) z1 1)) z0 2 ((q_up (q_up σ z0 0 (σ z1 0)) z0 1 ((q_up σ z0 0 (σ z1 0)) z1 1)) z1 2)) z0 3 ((q_up (q_up (q_up σ z0 0 (σ z1 0)) z0 1 ((q_up σ z0 0 (σ z1 0)) z1 1)) z0 2 ((q_up (q_up σ z0 0 (σ z1 0)) z0 1 ((q_up σ z0 0 (σ z1 0)) z1 1)) z1 2)) z1 3)) z1 4)) z1 5)) z1 6)) ((z1 + 1)) 16 ((z0 + 1)) 16)) ((z1 + 2)) 16 ((z0 + 2)) 16)) else none else none
set_option maxHeartbeats 4000000 in
set_option maxRecDepth 100000 in
theorem c_X6_copyFrom (l : Launch) (G : q_G) (x : q_A) (σ : q_S) (z0 : Nat) (z1 : Nat) (hz0 : q_isPlot z0) (hz1 : q_isPlot z1) {res : q_S} (h : f_X6_copyFrom σ z0 z1 = some res) : q_Met l yX6_copyFrom cX6_copyFrom 2 (none) 3 G [.ref (G.2.1 + z0), .ref (G.2.1 + z1)] σ x (q_Qv G x res) := by
  refine q_of (by decide) (Nat.le_of_ble_eq_true rfl) (fun X hl0 hx hr => ?_)
  subst hl0
  have hx : q_Cx X G RX6 cX6_copyFrom 2 3 := hx
  unfold f_X6_copyFrom at h
  show q_Wq X G x 2 (q_MQ X G (q_Qv G x res)) 0 0 0 [(0, .ref (G.2.1 + z0)), (1, .ref (G.2.1 + z1))] [] σ
  refine q_aload_n hx dX6_copyFrom_0 0 rfl ?_
  refine q_aload_n hx dX6_copyFrom_1 1 rfl ?_
  refine q_get (v := .int (σ z1 0)) hx q_fl_X6_9 dX6_copyFrom_2 (q_ne hz1.1 (by decide)) (q_e6 hz1.1) rfl ?_
  by_cases hg1 : (σ z1 0 = 0 ∨ σ z1 0 = 1)
  case neg => rw [if_neg hg1] at h; exact nomatch h
  replace h := (if_pos hg1).symm.trans h
  refine q_put (v := σ z1 0) hx q_fl_X6_9 q_fp_6_0 dX6_copyFrom_5 (q_ne hz0.1 (by decide)) (q_e6 hz0.1) (by rw [q_l6]; decide) (q_zn hg1) (q_zf hg1) (by rw [q_e6 hz0.1, q_s6_0]) ?_
  refine q_aload_n hx dX6_copyFrom_8 0 rfl ?_
  refine q_aload_n hx dX6_copyFrom_9 1 rfl ?_
  refine q_get (v := .int ((q_up σ z0 0 (σ z1 0)) z1 1)) hx q_fl_X6_15 dX6_copyFrom_10 (q_ne hz1.1 (by decide)) (q_e6 hz1.1) rfl ?_
  by_cases hg2 : ((q_up σ z0 0 (σ z1 0)) z1 1 = 0 ∨ (q_up σ z0 0 (σ z1 0)) z1 1 = 1)
  case neg => rw [if_neg hg2] at h; exact nomatch h
  replace h := (if_pos hg2).symm.trans h
  refine q_put (v := (q_up σ z0 0 (σ z1 0)) z1 1) hx q_fl_X6_15 q_fp_6_1 dX6_copyFrom_13 (q_ne hz0.1 (by decide)) (q_e6 hz0.1) (by rw [q_l6]; decide) (q_zn hg2) (q_zf hg2) (by rw [q_e6 hz0.1, q_s6_1]) ?_
  refine q_aload_n hx dX6_copyFrom_16 0 rfl ?_
  refine q_aload_n hx dX6_copyFrom_17 1 rfl ?_
  refine q_get (v := .int ((q_up (q_up σ z0 0 (σ z1 0)) z0 1 ((q_up σ z0 0 (σ z1 0)) z1 1)) z1 2)) hx q_fl_X6_18 dX6_copyFrom_18 (q_ne hz1.1 (by decide)) (q_e6 hz1.1) rfl ?_
  refine q_put (v := (q_up (q_up σ z0 0 (σ z1 0)) z0 1 ((q_up σ z0 0 (σ z1 0)) z1 1)) z1 2) hx q_fl_X6_18 q_fp_6_2 dX6_copyFrom_21 (q_ne hz0.1 (by decide)) (q_e6 hz0.1) (by rw [q_l6]; decide) rfl rfl (by rw [q_e6 hz0.1, q_s6_2]) ?_
  refine q_aload_n hx dX6_copyFrom_24 0 rfl ?_
  refine q_aload_n hx dX6_copyFrom_25 1 rfl ?_
  refine q_get (v := .int ((q_up (q_up (q_up σ z0 0 (σ z1 0)) z0 1 ((q_up σ z0 0 (σ z1 0)) z1 1)) z0 2 ((q_up (q_up σ z0 0 (σ z1 0)) z0 1 ((q_up σ z0 0 (σ z1 0)) z1 1)) z1 2)) z1 3)) hx q_fl_X6_22 dX6_copyFrom_26 (q_ne hz1.1 (by decide)) (q_e6 hz1.1) rfl ?_
  refine q_put (v := (q_up (q_up (q_up σ z0 0 (σ z1 0)) z0 1 ((q_up σ z0 0 (σ z1 0)) z1 1)) z0 2 ((q_up (q_up σ z0 0 (σ z1 0)) z0 1 ((q_up σ z0 0 (σ z1 0)) z1 1)) z1 2)) z1 3) hx q_fl_X6_22 q_fp_6_3 dX6_copyFrom_29 (q_ne hz0.1 (by decide)) (q_e6 hz0.1) (by rw [q_l6]; decide) rfl rfl (by rw [q_e6 hz0.1, q_s6_3]) ?_
  refine q_aload_n hx dX6_copyFrom_32 0 rfl ?_
  refine q_aload_n hx dX6_copyFrom_33 1 rfl ?_
  refine q_get (v := .int ((q_up (q_up (q_up (q_up σ z0 0 (σ z1 0)) z0 1 ((q_up σ z0 0 (σ z1 0)) z1 1)) z0 2 ((q_up (q_up σ z0 0 (σ z1 0)) z0 1 ((q_up σ z0 0 (σ z1 0)) z1 1)) z1 2)) z0 3 ((q_up (q_up (q_up σ z0 0 (σ z1 0)) z0 1 ((q_up σ z0 0 (σ z1 0)) z1 1)) z0 2 ((q_up (q_up σ z0 0 (σ z1 0)) z0 1 ((q_up σ z0 0 (σ z1 0)) z1 1)) z1 2)) z1 3)) z1 4)) hx q_fl_X6_25 dX6_copyFrom_34 (q_ne hz1.1 (by decide)) (q_e6 hz1.1) rfl ?_
  refine q_put (v := (q_up (q_up (q_up (q_up σ z0 0 (σ z1 0)) z0 1 ((q_up σ z0 0 (σ z1 0)) z1 1)) z0 2 ((q_up (q_up σ z0 0 (σ z1 0)) z0 1 ((q_up σ z0 0 (σ z1 0)) z1 1)) z1 2)) z0 3 ((q_up (q_up (q_up σ z0 0 (σ z1 0)) z0 1 ((q_up σ z0 0 (σ z1 0)) z1 1)) z0 2 ((q_up (q_up σ z0 0 (σ z1 0)) z0 1 ((q_up σ z0 0 (σ z1 0)) z1 1)) z1 2)) z1 3)) z1 4) hx q_fl_X6_25 q_fp_6_4 dX6_copyFrom_37 (q_ne hz0.1 (by decide)) (q_e6 hz0.1) (by rw [q_l6]; decide) rfl rfl (by rw [q_e6 hz0.1, q_s6_4]) ?_
  refine q_aload_n hx dX6_copyFrom_40 0 rfl ?_
  refine q_aload_n hx dX6_copyFrom_41 1 rfl ?_
  refine q_get (v := .int ((q_up (q_up (q_up (q_up (q_up σ z0 0 (σ z1 0)) z0 1 ((q_up σ z0 0 (σ z1 0)) z1 1)) z0 2 ((q_up (q_up σ z0 0 (σ z1 0)) z0 1 ((q_up σ z0 0 (σ z1 0)) z1 1)) z1 2)) z0 3 ((q_up (q_up (q_up σ z0 0 (σ z1 0)) z0 1 ((q_up σ z0 0 (σ z1 0)) z1 1)) z0 2 ((q_up (q_up σ z0 0 (σ z1 0)) z0 1 ((q_up σ z0 0 (σ z1 0)) z1 1)) z1 2)) z1 3)) z0 4 ((q_up (q_up (q_up (q_up σ z0 0 (σ z1 0)) z0 1 ((q_up σ z0 0 (σ z1 0)) z1 1)) z0 2 ((q_up (q_up σ z0 0 (σ z1 0)) z0 1 ((q_up σ z0 0 (σ z1 0)) z1 1)) z1 2)) z0 3 ((q_up (q_up (q_up σ z0 0 (σ z1 0)) z0 1 ((q_up σ z0 0 (σ z1 0)) z1 1)) z0 2 ((q_up (q_up σ z0 0 (σ z1 0)) z0 1 ((q_up σ z0 0 (σ z1 0)) z1 1)) z1 2)) z1 3)) z1 4)) z1 5)) hx q_fl_X6_28 dX6_copyFrom_42 (q_ne hz1.1 (by decide)) (q_e6 hz1.1) rfl ?_
  refine q_put (v := (q_up (q_up (q_up (q_up (q_up σ z0 0 (σ z1 0)) z0 1 ((q_up σ z0 0 (σ z1 0)) z1 1)) z0 2 ((q_up (q_up σ z0 0 (σ z1 0)) z0 1 ((q_up σ z0 0 (σ z1 0)) z1 1)) z1 2)) z0 3 ((q_up (q_up (q_up σ z0 0 (σ z1 0)) z0 1 ((q_up σ z0 0 (σ z1 0)) z1 1)) z0 2 ((q_up (q_up σ z0 0 (σ z1 0)) z0 1 ((q_up σ z0 0 (σ z1 0)) z1 1)) z1 2)) z1 3)) z0 4 ((q_up (q_up (q_up (q_up σ z0 0 (σ z1 0)) z0 1 ((q_up σ z0 0 (σ z1 0)) z1 1)) z0 2 ((q_up (q_up σ z0 0 (σ z1 0)) z0 1 ((q_up σ z0 0 (σ z1 0)) z1 1)) z1 2)) z0 3 ((q_up (q_up (q_up σ z0 0 (σ z1 0)) z0 1 ((q_up σ z0 0 (σ z1 0)) z1 1)) z0 2 ((q_up (q_up σ z0 0 (σ z1 0)) z0 1 ((q_up σ z0 0 (σ z1 0)) z1 1)) z1 2)) z1 3)) z1 4)) z1 5) hx q_fl_X6_28 q_fp_6_5 dX6_copyFrom_45 (q_ne hz0.1 (by decide)) (q_e6 hz0.1) (by rw [q_l6]; decide) rfl rfl (by rw [q_e6 hz0.1, q_s6_5]) ?_
  refine q_aload_n hx dX6_copyFrom_48 0 rfl ?_
  refine q_aload_n hx dX6_copyFrom_49 1 rfl ?_
  refine q_get (v := .int ((q_up (q_up (q_up (q_up (q_up (q_up σ z0 0 (σ z1 0)) z0 1 ((q_up σ z0 0 (σ z1 0)) z1 1)) z0 2 ((q_up (q_up σ z0 0 (σ z1 0)) z0 1 ((q_up σ z0 0 (σ z1 0)) z1 1)) z1 2)) z0 3 ((q_up (q_up (q_up σ z0 0 (σ z1 0)) z0 1 ((q_up σ z0 0 (σ z1 0)) z1 1)) z0 2 ((q_up (q_up σ z0 0 (σ z1 0)) z0 1 ((q_up σ z0 0 (σ z1 0)) z1 1)) z1 2)) z1 3)) z0 4 ((q_up (q_up (q_up (q_up σ z0 0 (σ z1 0)) z0 1 ((q_up σ z0 0 (σ z1 0)) z1 1)) z0 2 ((q_up (q_up σ z0 0 (σ z1 0)) z0 1 ((q_up σ z0 0 (σ z1 0)) z1 1)) z1 2)) z0 3 ((q_up (q_up (q_up σ z0 0 (σ z1 0)) z0 1 ((q_up σ z0 0 (σ z1 0)) z1 1)) z0 2 ((q_up (q_up σ z0 0 (σ z1 0)) z0 1 ((q_up σ z0 0 (σ z1 0)) z1 1)) z1 2)) z1 3)) z1 4)) z0 5 ((q_up (q_up (q_up (q_up (q_up σ z0 0 (σ z1 0)) z0 1 ((q_up σ z0 0 (σ z1 0)) z1 1)) z0 2 ((q_up (q_up σ z0 0 (σ z1 0)) z0 1 ((q_up σ z0 0 (σ z1 0)) z1 1)) z1 2)) z0 3 ((q_up (q_up (q_up σ z0 0 (σ z1 0)) z0 1 ((q_up σ z0 0 (σ z1 0)) z1 1)) z0 2 ((q_up (q_up σ z0 0 (σ z1 0)) z0 1 ((q_up σ z0 0 (σ z1 0)) z1 1)) z1 2)) z1 3)) z0 4 ((q_up (q_up (q_up (q_up σ z0 0 (σ z1 0)) z0 1 ((q_up σ z0 0 (σ z1 0)) z1 1)) z0 2 ((q_up (q_up σ z0 0 (σ z1 0)) z0 1 ((q_up σ z0 0 (σ z1 0)) z1 1)) z1 2)) z0 3 ((q_up (q_up (q_up σ z0 0 (σ z1 0)) z0 1 ((q_up σ z0 0 (σ z1 0)) z1 1)) z0 2 ((q_up (q_up σ z0 0 (σ z1 0)) z0 1 ((q_up σ z0 0 (σ z1 0)) z1 1)) z1 2)) z1 3)) z1 4)) z1 5)) z1 6)) hx q_fl_X6_31 dX6_copyFrom_50 (q_ne hz1.1 (by decide)) (q_e6 hz1.1) rfl ?_
  refine q_put (v := (q_up (q_up (q_up (q_up (q_up (q_up σ z0 0 (σ z1 0)) z0 1 ((q_up σ z0 0 (σ z1 0)) z1 1)) z0 2 ((q_up (q_up σ z0 0 (σ z1 0)) z0 1 ((q_up σ z0 0 (σ z1 0)) z1 1)) z1 2)) z0 3 ((q_up (q_up (q_up σ z0 0 (σ z1 0)) z0 1 ((q_up σ z0 0 (σ z1 0)) z1 1)) z0 2 ((q_up (q_up σ z0 0 (σ z1 0)) z0 1 ((q_up σ z0 0 (σ z1 0)) z1 1)) z1 2)) z1 3)) z0 4 ((q_up (q_up (q_up (q_up σ z0 0 (σ z1 0)) z0 1 ((q_up σ z0 0 (σ z1 0)) z1 1)) z0 2 ((q_up (q_up σ z0 0 (σ z1 0)) z0 1 ((q_up σ z0 0 (σ z1 0)) z1 1)) z1 2)) z0 3 ((q_up (q_up (q_up σ z0 0 (σ z1 0)) z0 1 ((q_up σ z0 0 (σ z1 0)) z1 1)) z0 2 ((q_up (q_up σ z0 0 (σ z1 0)) z0 1 ((q_up σ z0 0 (σ z1 0)) z1 1)) z1 2)) z1 3)) z1 4)) z0 5 ((q_up (q_up (q_up (q_up (q_up σ z0 0 (σ z1 0)) z0 1 ((q_up σ z0 0 (σ z1 0)) z1 1)) z0 2 ((q_up (q_up σ z0 0 (σ z1 0)) z0 1 ((q_up σ z0 0 (σ z1 0)) z1 1)) z1 2)) z0 3 ((q_up (q_up (q_up σ z0 0 (σ z1 0)) z0 1 ((q_up σ z0 0 (σ z1 0)) z1 1)) z0 2 ((q_up (q_up σ z0 0 (σ z1 0)) z0 1 ((q_up σ z0 0 (σ z1 0)) z1 1)) z1 2)) z1 3)) z0 4 ((q_up (q_up (q_up (q_up σ z0 0 (σ z1 0)) z0 1 ((q_up σ z0 0 (σ z1 0)) z1 1)) z0 2 ((q_up (q_up σ z0 0 (σ z1 0)) z0 1 ((q_up σ z0 0 (σ z1 0)) z1 1)) z1 2)) z0 3 ((q_up (q_up (q_up σ z0 0 (σ z1 0)) z0 1 ((q_up σ z0 0 (σ z1 0)) z1 1)) z0 2 ((q_up (q_up σ z0 0 (σ z1 0)) z0 1 ((q_up σ z0 0 (σ z1 0)) z1 1)) z1 2)) z1 3)) z1 4)) z1 5)) z1 6) hx q_fl_X6_31 q_fp_6_6 dX6_copyFrom_53 (q_ne hz0.1 (by decide)) (q_e6 hz0.1) (by rw [q_l6]; decide) rfl rfl (by rw [q_e6 hz0.1, q_s6_6]) ?_
  refine q_aload_n hx dX6_copyFrom_56 1 rfl ?_
  refine q_get (v := .ref (G.2.1 + (z1 + 1))) hx q_fl_X6_34 dX6_copyFrom_57 (q_ne hz1.1 (by decide)) (q_e6 hz1.1) rfl ?_
  refine q_aload_n hx dX6_copyFrom_60 0 rfl ?_
  refine q_get (v := .ref (G.2.1 + (z0 + 1))) hx q_fl_X6_34 dX6_copyFrom_61 (q_ne hz0.1 (by decide)) (q_e6 hz0.1) rfl ?_
  refine q_callSv (As := [.ref (G.2.1 + (z1 + 1)), .ref (G.2.1 + (z0 + 1))]) (rest := []) hx q_kR0 (c_X9_copyNumbers (q_Xl X) G x (q_up (q_up (q_up (q_up (q_up (q_up (q_up σ z0 0 (σ z1 0)) z0 1 ((q_up σ z0 0 (σ z1 0)) z1 1)) z0 2 ((q_up (q_up σ z0 0 (σ z1 0)) z0 1 ((q_up σ z0 0 (σ z1 0)) z1 1)) z1 2)) z0 3 ((q_up (q_up (q_up σ z0 0 (σ z1 0)) z0 1 ((q_up σ z0 0 (σ z1 0)) z1 1)) z0 2 ((q_up (q_up σ z0 0 (σ z1 0)) z0 1 ((q_up σ z0 0 (σ z1 0)) z1 1)) z1 2)) z1 3)) z0 4 ((q_up (q_up (q_up (q_up σ z0 0 (σ z1 0)) z0 1 ((q_up σ z0 0 (σ z1 0)) z1 1)) z0 2 ((q_up (q_up σ z0 0 (σ z1 0)) z0 1 ((q_up σ z0 0 (σ z1 0)) z1 1)) z1 2)) z0 3 ((q_up (q_up (q_up σ z0 0 (σ z1 0)) z0 1 ((q_up σ z0 0 (σ z1 0)) z1 1)) z0 2 ((q_up (q_up σ z0 0 (σ z1 0)) z0 1 ((q_up σ z0 0 (σ z1 0)) z1 1)) z1 2)) z1 3)) z1 4)) z0 5 ((q_up (q_up (q_up (q_up (q_up σ z0 0 (σ z1 0)) z0 1 ((q_up σ z0 0 (σ z1 0)) z1 1)) z0 2 ((q_up (q_up σ z0 0 (σ z1 0)) z0 1 ((q_up σ z0 0 (σ z1 0)) z1 1)) z1 2)) z0 3 ((q_up (q_up (q_up σ z0 0 (σ z1 0)) z0 1 ((q_up σ z0 0 (σ z1 0)) z1 1)) z0 2 ((q_up (q_up σ z0 0 (σ z1 0)) z0 1 ((q_up σ z0 0 (σ z1 0)) z1 1)) z1 2)) z1 3)) z0 4 ((q_up (q_up (q_up (q_up σ z0 0 (σ z1 0)) z0 1 ((q_up σ z0 0 (σ z1 0)) z1 1)) z0 2 ((q_up (q_up σ z0 0 (σ z1 0)) z0 1 ((q_up σ z0 0 (σ z1 0)) z1 1)) z1 2)) z0 3 ((q_up (q_up (q_up σ z0 0 (σ z1 0)) z0 1 ((q_up σ z0 0 (σ z1 0)) z1 1)) z0 2 ((q_up (q_up σ z0 0 (σ z1 0)) z0 1 ((q_up σ z0 0 (σ z1 0)) z1 1)) z1 2)) z1 3)) z1 4)) z1 5)) z0 6 ((q_up (q_up (q_up (q_up (q_up (q_up σ z0 0 (σ z1 0)) z0 1 ((q_up σ z0 0 (σ z1 0)) z1 1)) z0 2 ((q_up (q_up σ z0 0 (σ z1 0)) z0 1 ((q_up σ z0 0 (σ z1 0)) z1 1)) z1 2)) z0 3 ((q_up (q_up (q_up σ z0 0 (σ z1 0)) z0 1 ((q_up σ z0 0 (σ z1 0)) z1 1)) z0 2 ((q_up (q_up σ z0 0 (σ z1 0)) z0 1 ((q_up σ z0 0 (σ z1 0)) z1 1)) z1 2)) z1 3)) z0 4 ((q_up (q_up (q_up (q_up σ z0 0 (σ z1 0)) z0 1 ((q_up σ z0 0 (σ z1 0)) z1 1)) z0 2 ((q_up (q_up σ z0 0 (σ z1 0)) z0 1 ((q_up σ z0 0 (σ z1 0)) z1 1)) z1 2)) z0 3 ((q_up (q_up (q_up σ z0 0 (σ z1 0)) z0 1 ((q_up σ z0 0 (σ z1 0)) z1 1)) z0 2 ((q_up (q_up σ z0 0 (σ z1 0)) z0 1 ((q_up σ z0 0 (σ z1 0)) z1 1)) z1 2)) z1 3)) z1 4)) z0 5 ((q_up (q_up (q_up (q_up (q_up σ z0 0 (σ z1 0)) z0 1 ((q_up σ z0 0 (σ z1 0)) z1 1)) z0 2 ((q_up (q_up σ z0 0 (σ z1 0)) z0 1 ((q_up σ z0 0 (σ z1 0)) z1 1)) z1 2)) z0 3 ((q_up (q_up (q_up σ z0 0 (σ z1 0)) z0 1 ((q_up σ z0 0 (σ z1 0)) z1 1)) z0 2 ((q_up (q_up σ z0 0 (σ z1 0)) z0 1 ((q_up σ z0 0 (σ z1 0)) z1 1)) z1 2)) z1 3)) z0 4 ((q_up (q_up (q_up (q_up σ z0 0 (σ z1 0)) z0 1 ((q_up σ z0 0 (σ z1 0)) z1 1)) z0 2 ((q_up (q_up σ z0 0 (σ z1 0)) z0 1 ((q_up σ z0 0 (σ z1 0)) z1 1)) z1 2)) z0 3 ((q_up (q_up (q_up σ z0 0 (σ z1 0)) z0 1 ((q_up σ z0 0 (σ z1 0)) z1 1)) z0 2 ((q_up (q_up σ z0 0 (σ z1 0)) z0 1 ((q_up σ z0 0 (σ z1 0)) z1 1)) z1 2)) z1 3)) z1 4)) z1 5)) z1 6)) ((z1 + 1)) 16 ((z0 + 1)) 16 hz1.2.1 hz0.2.1) q_ml_X6_41 q_mn_X9_copyNumbers q_ms_X9_copyNumbers (by decide) rfl (Nat.le_of_ble_eq_true rfl) dX6_copyFrom_64 rfl ?_
  refine q_aload_n hx dX6_copyFrom_67 1 rfl ?_
  refine q_get (v := .ref (G.2.1 + (z1 + 2))) hx q_fl_X6_38 dX6_copyFrom_68 (q_ne hz1.1 (by decide)) (q_e6 hz1.1) rfl ?_
  refine q_aload_n hx dX6_copyFrom_71 0 rfl ?_
  refine q_get (v := .ref (G.2.1 + (z0 + 2))) hx q_fl_X6_38 dX6_copyFrom_72 (q_ne hz0.1 (by decide)) (q_e6 hz0.1) rfl ?_
  refine q_callSv (As := [.ref (G.2.1 + (z1 + 2)), .ref (G.2.1 + (z0 + 2))]) (rest := []) hx q_kR0 (c_X9_copyNumbers (q_Xl X) G x ((f_X9_copyNumbers (q_up (q_up (q_up (q_up (q_up (q_up (q_up σ z0 0 (σ z1 0)) z0 1 ((q_up σ z0 0 (σ z1 0)) z1 1)) z0 2 ((q_up (q_up σ z0 0 (σ z1 0)) z0 1 ((q_up σ z0 0 (σ z1 0)) z1 1)) z1 2)) z0 3 ((q_up (q_up (q_up σ z0 0 (σ z1 0)) z0 1 ((q_up σ z0 0 (σ z1 0)) z1 1)) z0 2 ((q_up (q_up σ z0 0 (σ z1 0)) z0 1 ((q_up σ z0 0 (σ z1 0)) z1 1)) z1 2)) z1 3)) z0 4 ((q_up (q_up (q_up (q_up σ z0 0 (σ z1 0)) z0 1 ((q_up σ z0 0 (σ z1 0)) z1 1)) z0 2 ((q_up (q_up σ z0 0 (σ z1 0)) z0 1 ((q_up σ z0 0 (σ z1 0)) z1 1)) z1 2)) z0 3 ((q_up (q_up (q_up σ z0 0 (σ z1 0)) z0 1 ((q_up σ z0 0 (σ z1 0)) z1 1)) z0 2 ((q_up (q_up σ z0 0 (σ z1 0)) z0 1 ((q_up σ z0 0 (σ z1 0)) z1 1)) z1 2)) z1 3)) z1 4)) z0 5 ((q_up (q_up (q_up (q_up (q_up σ z0 0 (σ z1 0)) z0 1 ((q_up σ z0 0 (σ z1 0)) z1 1)) z0 2 ((q_up (q_up σ z0 0 (σ z1 0)) z0 1 ((q_up σ z0 0 (σ z1 0)) z1 1)) z1 2)) z0 3 ((q_up (q_up (q_up σ z0 0 (σ z1 0)) z0 1 ((q_up σ z0 0 (σ z1 0)) z1 1)) z0 2 ((q_up (q_up σ z0 0 (σ z1 0)) z0 1 ((q_up σ z0 0 (σ z1 0)) z1 1)) z1 2)) z1 3)) z0 4 ((q_up (q_up (q_up (q_up σ z0 0 (σ z1 0)) z0 1 ((q_up σ z0 0 (σ z1 0)) z1 1)) z0 2 ((q_up (q_up σ z0 0 (σ z1 0)) z0 1 ((q_up σ z0 0 (σ z1 0)) z1 1)) z1 2)) z0 3 ((q_up (q_up (q_up σ z0 0 (σ z1 0)) z0 1 ((q_up σ z0 0 (σ z1 0)) z1 1)) z0 2 ((q_up (q_up σ z0 0 (σ z1 0)) z0 1 ((q_up σ z0 0 (σ z1 0)) z1 1)) z1 2)) z1 3)) z1 4)) z1 5)) z0 6 ((q_up (q_up (q_up (q_up (q_up (q_up σ z0 0 (σ z1 0)) z0 1 ((q_up σ z0 0 (σ z1 0)) z1 1)) z0 2 ((q_up (q_up σ z0 0 (σ z1 0)) z0 1 ((q_up σ z0 0 (σ z1 0)) z1 1)) z1 2)) z0 3 ((q_up (q_up (q_up σ z0 0 (σ z1 0)) z0 1 ((q_up σ z0 0 (σ z1 0)) z1 1)) z0 2 ((q_up (q_up σ z0 0 (σ z1 0)) z0 1 ((q_up σ z0 0 (σ z1 0)) z1 1)) z1 2)) z1 3)) z0 4 ((q_up (q_up (q_up (q_up σ z0 0 (σ z1 0)) z0 1 ((q_up σ z0 0 (σ z1 0)) z1 1)) z0 2 ((q_up (q_up σ z0 0 (σ z1 0)) z0 1 ((q_up σ z0 0 (σ z1 0)) z1 1)) z1 2)) z0 3 ((q_up (q_up (q_up σ z0 0 (σ z1 0)) z0 1 ((q_up σ z0 0 (σ z1 0)) z1 1)) z0 2 ((q_up (q_up σ z0 0 (σ z1 0)) z0 1 ((q_up σ z0 0 (σ z1 0)) z1 1)) z1 2)) z1 3)) z1 4)) z0 5 ((q_up (q_up (q_up (q_up (q_up σ z0 0 (σ z1 0)) z0 1 ((q_up σ z0 0 (σ z1 0)) z1 1)) z0 2 ((q_up (q_up σ z0 0 (σ z1 0)) z0 1 ((q_up σ z0 0 (σ z1 0)) z1 1)) z1 2)) z0 3 ((q_up (q_up (q_up σ z0 0 (σ z1 0)) z0 1 ((q_up σ z0 0 (σ z1 0)) z1 1)) z0 2 ((q_up (q_up σ z0 0 (σ z1 0)) z0 1 ((q_up σ z0 0 (σ z1 0)) z1 1)) z1 2)) z1 3)) z0 4 ((q_up (q_up (q_up (q_up σ z0 0 (σ z1 0)) z0 1 ((q_up σ z0 0 (σ z1 0)) z1 1)) z0 2 ((q_up (q_up σ z0 0 (σ z1 0)) z0 1 ((q_up σ z0 0 (σ z1 0)) z1 1)) z1 2)) z0 3 ((q_up (q_up (q_up σ z0 0 (σ z1 0)) z0 1 ((q_up σ z0 0 (σ z1 0)) z1 1)) z0 2 ((q_up (q_up σ z0 0 (σ z1 0)) z0 1 ((q_up σ z0 0 (σ z1 0)) z1 1)) z1 2)) z1 3)) z1 4)) z1 5)) z1 6)) ((z1 + 1)) 16 ((z0 + 1)) 16)) ((z1 + 2)) 16 ((z0 + 2)) 16 hz1.2.2 hz0.2.2) q_ml_X6_41 q_mn_X9_copyNumbers q_ms_X9_copyNumbers (by decide) rfl (Nat.le_of_ble_eq_true rfl) dX6_copyFrom_75 rfl ?_
  cases h
  exact q_vret hx hr dX6_copyFrom_78
