-- X10_cornersOf
def f_X10_cornersOf_29 (σ : q_S) : Nat → Int32 → Int32 → Int32 → Option (Int32)
  | 0, _, _, _ => none
  | n + 1, v1, v2, v3 =>
    Option.bind (f_X10_sv σ v1 4) (fun q5 => if q5 ≤ v3 then (some v2) else (Option.bind (f_X10_length σ v1 v3) (fun q7 => f_X10_cornersOf_29 σ n v1 (v2 + q7) (v3 + 1))))
set_option maxHeartbeats 4000000 in
set_option maxRecDepth 100000 in
theorem s_X10_cornersOf_29 {X : q_X} {G : q_G} {x : q_A} (σ : q_S) (hx : q_Cx X G RX10 cX10_cornersOf 4 3) (hr : (q_Xm X).sig.returnType = some .int) {res : Int32} : ∀ (n : Nat) (v1 : Int32) (v2 : Int32) (v3 : Int32), f_X10_cornersOf_29 σ n v1 v2 v3 = some res → q_Wq X G x 4 (q_MQ X G (q_Qi G x res σ)) 0 0 29 [(0, .ref (G.2.1 + 292)), (1, .int v1), (2, .int v2), (3, .int v3)] [] σ := by
  intro n
  induction n with
  | zero => exact fun _ _ _ h => nomatch (show (none : Option (Int32)) = some res from h)
  | succ n ih =>
    intro v1 v2 v3 h
    rw [f_X10_cornersOf_29] at h
    refine q_iload_n hx dX10_cornersOf_29 3 rfl ?_
    refine q_aload_n hx dX10_cornersOf_30 0 rfl ?_
    refine q_iload_n hx dX10_cornersOf_31 1 rfl ?_
    refine q_iconst (v := 4) hx dX10_cornersOf_32 (by decide) ?_
    refine q_bindE h (fun q5 hq5 h => ?_)
    refine q_callVi (As := [.int v1, .int 4]) (rest := [.int v3]) hx q_kR0 (c_X10_sv (q_Xl X) G x σ v1 4 hq5) q_ml_X10_111 q_mn_X10_sv q_mi_X10_sv q_se_X10_sv (by decide) rfl (Nat.le_of_ble_eq_true rfl) dX10_cornersOf_33 (q_ne kd_292 (by decide)) (q_e10 kd_292) rfl rfl rfl ?_
    refine q_icmp_ge hx 54 dX10_cornersOf_36 (by decide) (fun hc6 => ?_) (fun hc6 => ?_)
    · replace h := (if_pos hc6).symm.trans h
      refine q_iload_n hx dX10_cornersOf_54 2 rfl ?_
      cases h
      exact q_iret hx hr dX10_cornersOf_55
    · replace h := (if_neg hc6).symm.trans h
      refine q_iload_n hx dX10_cornersOf_39 2 rfl ?_
      refine q_aload_n hx dX10_cornersOf_40 0 rfl ?_
      refine q_iload_n hx dX10_cornersOf_41 1 rfl ?_
      refine q_iload_n hx dX10_cornersOf_42 3 rfl ?_
      refine q_bindE h (fun q7 hq7 h => ?_)
      refine q_callVi (As := [.int v1, .int v3]) (rest := [.int v2]) hx q_kR0 (c_X10_length (q_Xl X) G x σ v1 v3 hq7) q_ml_X10_175 q_mn_X10_length q_mi_X10_length q_se_X10_length (by decide) rfl (Nat.le_of_ble_eq_true rfl) dX10_cornersOf_43 (q_ne kd_292 (by decide)) (q_e10 kd_292) rfl rfl rfl ?_
      refine q_iadd hx dX10_cornersOf_46 ?_
      refine q_istore_n hx [(2, .int (v2 + q7)), (0, .ref (G.2.1 + 292)), (1, .int v1), (3, .int v3)] dX10_cornersOf_47 (by decide) rfl ?_
      refine q_iinc hx [(3, .int (v3 + 1)), (2, .int (v2 + q7)), (0, .ref (G.2.1 + 292)), (1, .int v1)] dX10_cornersOf_48 3 rfl rfl (by decide) rfl ?_
      refine q_goto hx 29 dX10_cornersOf_51 (by decide) ?_
      refine q_sub [2, 3, 1, 0] rfl ?_
      exact ih v1 (v2 + q7) (v3 + 1) h
def f_X10_cornersOf (σ : q_S) (a1 : Int32) : Option (Int32) :=
  Option.bind (f_X10_sv σ a1 1) (fun q1 => if q1 = 0 then (some 0) else (Option.bind (f_X10_sv σ a1 1) (fun q3 => if q3 = 2 then (f_X10_cornersOf_29 σ q_fu a1 0 0) else (f_X10_cornersOf_29 σ q_fu a1 1 0))))
set_option maxHeartbeats 4000000 in
set_option maxRecDepth 100000 in
theorem c_X10_cornersOf (l : Launch) (G : q_G) (x : q_A) (σ : q_S) (a1 : Int32)  {res : Int32} (h : f_X10_cornersOf σ a1 = some res) : q_Met l yX10_cornersOf cX10_cornersOf 4 (some .int) 3 G [.ref (G.2.1 + 292), .int a1] σ x (q_Qi G x res σ) := by
  refine q_of (by decide) (Nat.le_of_ble_eq_true rfl) (fun X hl0 hx hr => ?_)
  subst hl0
  have hx : q_Cx X G RX10 cX10_cornersOf 4 3 := hx
  unfold f_X10_cornersOf at h
  show q_Wq X G x 4 (q_MQ X G (q_Qi G x res σ)) 0 0 0 [(0, .ref (G.2.1 + 292)), (1, .int a1)] [] σ
  refine q_aload_n hx dX10_cornersOf_0 0 rfl ?_
  refine q_iload_n hx dX10_cornersOf_1 1 rfl ?_
  refine q_iconst (v := 1) hx dX10_cornersOf_2 (by decide) ?_
  refine q_bindE h (fun q1 hq1 h => ?_)
  refine q_callVi (As := [.int a1, .int 1]) (rest := []) hx q_kR0 (c_X10_sv (q_Xl X) G x σ a1 1 hq1) q_ml_X10_111 q_mn_X10_sv q_mi_X10_sv q_se_X10_sv (by decide) rfl (Nat.le_of_ble_eq_true rfl) dX10_cornersOf_3 (q_ne kd_292 (by decide)) (q_e10 kd_292) rfl rfl rfl ?_
  refine q_if_ne hx 11 dX10_cornersOf_6 (by decide) (fun hc2 => ?_) (fun hc2 => ?_)
  · replace h := (if_neg hc2).symm.trans h
    refine q_aload_n hx dX10_cornersOf_11 0 rfl ?_
    refine q_iload_n hx dX10_cornersOf_12 1 rfl ?_
    refine q_iconst (v := 1) hx dX10_cornersOf_13 (by decide) ?_
    refine q_bindE h (fun q3 hq3 h => ?_)
    refine q_callVi (As := [.int a1, .int 1]) (rest := []) hx q_kR0 (c_X10_sv (q_Xl X) G x σ a1 1 hq3) q_ml_X10_111 q_mn_X10_sv q_mi_X10_sv q_se_X10_sv (by decide) rfl (Nat.le_of_ble_eq_true rfl) dX10_cornersOf_14 (q_ne kd_292 (by decide)) (q_e10 kd_292) rfl rfl rfl ?_
    refine q_iconst (v := 2) hx dX10_cornersOf_17 (by decide) ?_
    refine q_icmp_ne hx 25 dX10_cornersOf_18 (by decide) (fun hc4 => ?_) (fun hc4 => ?_)
    · replace h := (if_neg hc4).symm.trans h
      refine q_iconst (v := 1) hx dX10_cornersOf_25 (by decide) ?_
      refine q_istore_n hx [(2, .int 1), (0, .ref (G.2.1 + 292)), (1, .int a1)] dX10_cornersOf_26 (by decide) rfl ?_
      refine q_iconst (v := 0) hx dX10_cornersOf_27 (by decide) ?_
      refine q_istore_n hx [(3, .int 0), (2, .int 1), (0, .ref (G.2.1 + 292)), (1, .int a1)] dX10_cornersOf_28 (by decide) rfl ?_
      refine q_sub [2, 3, 1, 0] rfl ?_
      exact s_X10_cornersOf_29 σ hx hr q_fu a1 1 0 h
    · replace h := (if_pos hc4).symm.trans h
      refine q_iconst (v := 0) hx dX10_cornersOf_21 (by decide) ?_
      refine q_goto hx 26 dX10_cornersOf_22 (by decide) ?_
      refine q_istore_n hx [(2, .int 0), (0, .ref (G.2.1 + 292)), (1, .int a1)] dX10_cornersOf_26 (by decide) rfl ?_
      refine q_iconst (v := 0) hx dX10_cornersOf_27 (by decide) ?_
      refine q_istore_n hx [(3, .int 0), (2, .int 0), (0, .ref (G.2.1 + 292)), (1, .int a1)] dX10_cornersOf_28 (by decide) rfl ?_
      refine q_sub [2, 3, 1, 0] rfl ?_
      exact s_X10_cornersOf_29 σ hx hr q_fu a1 0 0 h
  · replace h := (if_pos hc2).symm.trans h
    refine q_iconst (v := 0) hx dX10_cornersOf_9 (by decide) ?_
    cases h
    exact q_iret hx hr dX10_cornersOf_10
-- X10_sleeperOf
def f_X10_sleeperOf (σ : q_S) (a1 : Int32) (a2 : Int32) : Option (Int32 × q_S) :=
  Option.bind (f_X10_isSleeper (q_up σ 292 4 0) a1) (fun q1 => if q1 = 0 then (some (((f_X10_no (q_up σ 292 4 0) 1).1, (f_X10_no (q_up σ 292 4 0) 1).2))) else (Option.bind (f_X10_sv (q_up σ 292 4 0) a1 4) (fun q3 => Option.bind (f_X10_goesTo (q_up σ 292 4 0) a1 q3) (fun q4 => if a2 = 0 then (Option.bind (f_X10_sv q4 a1 0) (fun q6 => some ((q6, q4)))) else if a2 = 1 then (Option.bind (f_X10_sv q4 a1 1) (fun q8 => some ((q8, q4)))) else if a2 = 2 then (Option.bind (f_X10_sv q4 a1 4) (fun q10 => some ((q10, q4)))) else if a2 = 3 then (Option.bind (f_X10_sv q4 a1 1) (fun q12 => if q12 = 0 then (some (((-1), q4))) else (some ((q4 292 14, q4))))) else if a2 = 4 then (Option.bind (f_X10_sv q4 a1 1) (fun q15 => if q15 = 0 then (some (((-1), q4))) else (some ((q4 292 15, q4))))) else if a2 = 5 then (Option.bind (f_X10_cornersOf q4 a1) (fun q18 => some ((q18, q4)))) else if a2 = 6 then (Option.bind (f_X10_cellsIn q4 a1 0) (fun q20 => some ((q20, q4)))) else some (((f_X10_no q4 2).1, (f_X10_no q4 2).2))))))
set_option maxHeartbeats 4000000 in
set_option maxRecDepth 100000 in
theorem c_X10_sleeperOf (l : Launch) (G : q_G) (x : q_A) (σ : q_S) (a1 : Int32) (a2 : Int32)  {res : Int32 × q_S} (h : f_X10_sleeperOf σ a1 a2 = some res) : q_Met l yX10_sleeperOf cX10_sleeperOf 3 (some .int) 6 G [.ref (G.2.1 + 292), .int a1, .int a2] σ x (q_Qi G x res.1 res.2) := by
  refine q_of (by decide) (Nat.le_of_ble_eq_true rfl) (fun X hl0 hx hr => ?_)
  subst hl0
  have hx : q_Cx X G RX10 cX10_sleeperOf 3 6 := hx
  unfold f_X10_sleeperOf at h
  show q_Wq X G x 3 (q_MQ X G (q_Qi G x res.1 res.2)) 0 0 0 [(0, .ref (G.2.1 + 292)), (1, .int a1), (2, .int a2)] [] σ
  refine q_aload_n hx dX10_sleeperOf_0 0 rfl ?_
  refine q_iconst (v := 0) hx dX10_sleeperOf_1 (by decide) ?_
  refine q_put (v := 0) hx q_fl_X10_22 q_fp_10_4 dX10_sleeperOf_2 (q_ne kd_292 (by decide)) (q_e10 kd_292) (by rw [q_l10]; decide) rfl rfl (by rw [q_e10 kd_292, q_s10_4]) ?_
  refine q_aload_n hx dX10_sleeperOf_5 0 rfl ?_
  refine q_iload_n hx dX10_sleeperOf_6 1 rfl ?_
  refine q_bindE h (fun q1 hq1 h => ?_)
  refine q_callVi (As := [.int a1]) (rest := []) hx q_kR0 (c_X10_isSleeper (q_Xl X) G x (q_up σ 292 4 0) a1 hq1) q_ml_X10_166 q_mn_X10_isSleeper q_mi_X10_isSleeper q_se_X10_isSleeper (by decide) rfl (Nat.le_of_ble_eq_true rfl) dX10_sleeperOf_7 (q_ne kd_292 (by decide)) (q_e10 kd_292) rfl rfl rfl ?_
  refine q_if_ne hx 19 dX10_sleeperOf_10 (by decide) (fun hc2 => ?_) (fun hc2 => ?_)
  · replace h := (if_neg hc2).symm.trans h
    refine q_aload_n hx dX10_sleeperOf_19 0 rfl ?_
    refine q_iload_n hx dX10_sleeperOf_20 1 rfl ?_
    refine q_aload_n hx dX10_sleeperOf_21 0 rfl ?_
    refine q_iload_n hx dX10_sleeperOf_22 1 rfl ?_
    refine q_iconst (v := 4) hx dX10_sleeperOf_23 (by decide) ?_
    refine q_bindE h (fun q3 hq3 h => ?_)
    refine q_callVi (As := [.int a1, .int 4]) (rest := [.int a1, .ref (G.2.1 + 292)]) hx q_kR0 (c_X10_sv (q_Xl X) G x (q_up σ 292 4 0) a1 4 hq3) q_ml_X10_111 q_mn_X10_sv q_mi_X10_sv q_se_X10_sv (by decide) rfl (Nat.le_of_ble_eq_true rfl) dX10_sleeperOf_24 (q_ne kd_292 (by decide)) (q_e10 kd_292) rfl rfl rfl ?_
    refine q_bindE h (fun q4 hq4 h => ?_)
    refine q_callVv (As := [.int a1, .int q3]) (rest := []) hx q_kR0 (c_X10_goesTo (q_Xl X) G x (q_up σ 292 4 0) a1 q3 hq4) q_ml_X10_187 q_mn_X10_goesTo q_mi_X10_goesTo q_se_X10_goesTo (by decide) rfl (Nat.le_of_ble_eq_true rfl) dX10_sleeperOf_27 (q_ne kd_292 (by decide)) (q_e10 kd_292) rfl rfl rfl ?_
    refine q_iload_n hx dX10_sleeperOf_30 2 rfl ?_
    by_cases hc5 : a2 = 0
    · replace h := (if_pos hc5).symm.trans h
      refine q_tin hx 72 dX10_sleeperOf_31 (by rw [hc5] <;> decide) (by rw [hc5] <;> decide) (by rw [hc5] <;> rfl) (by decide) ?_
      refine q_aload_n hx dX10_sleeperOf_72 0 rfl ?_
      refine q_iload_n hx dX10_sleeperOf_73 1 rfl ?_
      refine q_iconst (v := 0) hx dX10_sleeperOf_74 (by decide) ?_
      refine q_bindE h (fun q6 hq6 h => ?_)
      refine q_callVi (As := [.int a1, .int 0]) (rest := []) hx q_kR0 (c_X10_sv (q_Xl X) G x q4 a1 0 hq6) q_ml_X10_111 q_mn_X10_sv q_mi_X10_sv q_se_X10_sv (by decide) rfl (Nat.le_of_ble_eq_true rfl) dX10_sleeperOf_75 (q_ne kd_292 (by decide)) (q_e10 kd_292) rfl rfl rfl ?_
      cases h
      exact q_iret hx hr dX10_sleeperOf_78
    replace h := (if_neg hc5).symm.trans h
    by_cases hc7 : a2 = 1
    · replace h := (if_pos hc7).symm.trans h
      refine q_tin hx 79 dX10_sleeperOf_31 (by rw [hc7] <;> decide) (by rw [hc7] <;> decide) (by rw [hc7] <;> rfl) (by decide) ?_
      refine q_aload_n hx dX10_sleeperOf_79 0 rfl ?_
      refine q_iload_n hx dX10_sleeperOf_80 1 rfl ?_
      refine q_iconst (v := 1) hx dX10_sleeperOf_81 (by decide) ?_
      refine q_bindE h (fun q8 hq8 h => ?_)
      refine q_callVi (As := [.int a1, .int 1]) (rest := []) hx q_kR0 (c_X10_sv (q_Xl X) G x q4 a1 1 hq8) q_ml_X10_111 q_mn_X10_sv q_mi_X10_sv q_se_X10_sv (by decide) rfl (Nat.le_of_ble_eq_true rfl) dX10_sleeperOf_82 (q_ne kd_292 (by decide)) (q_e10 kd_292) rfl rfl rfl ?_
      cases h
      exact q_iret hx hr dX10_sleeperOf_85
    replace h := (if_neg hc7).symm.trans h
    by_cases hc9 : a2 = 2
    · replace h := (if_pos hc9).symm.trans h
      refine q_tin hx 86 dX10_sleeperOf_31 (by rw [hc9] <;> decide) (by rw [hc9] <;> decide) (by rw [hc9] <;> rfl) (by decide) ?_
      refine q_aload_n hx dX10_sleeperOf_86 0 rfl ?_
      refine q_iload_n hx dX10_sleeperOf_87 1 rfl ?_
      refine q_iconst (v := 4) hx dX10_sleeperOf_88 (by decide) ?_
      refine q_bindE h (fun q10 hq10 h => ?_)
      refine q_callVi (As := [.int a1, .int 4]) (rest := []) hx q_kR0 (c_X10_sv (q_Xl X) G x q4 a1 4 hq10) q_ml_X10_111 q_mn_X10_sv q_mi_X10_sv q_se_X10_sv (by decide) rfl (Nat.le_of_ble_eq_true rfl) dX10_sleeperOf_89 (q_ne kd_292 (by decide)) (q_e10 kd_292) rfl rfl rfl ?_
      cases h
      exact q_iret hx hr dX10_sleeperOf_92
    replace h := (if_neg hc9).symm.trans h
    by_cases hc11 : a2 = 3
    · replace h := (if_pos hc11).symm.trans h
      refine q_tin hx 93 dX10_sleeperOf_31 (by rw [hc11] <;> decide) (by rw [hc11] <;> decide) (by rw [hc11] <;> rfl) (by decide) ?_
      refine q_aload_n hx dX10_sleeperOf_93 0 rfl ?_
      refine q_iload_n hx dX10_sleeperOf_94 1 rfl ?_
      refine q_iconst (v := 1) hx dX10_sleeperOf_95 (by decide) ?_
      refine q_bindE h (fun q12 hq12 h => ?_)
      refine q_callVi (As := [.int a1, .int 1]) (rest := []) hx q_kR0 (c_X10_sv (q_Xl X) G x q4 a1 1 hq12) q_ml_X10_111 q_mn_X10_sv q_mi_X10_sv q_se_X10_sv (by decide) rfl (Nat.le_of_ble_eq_true rfl) dX10_sleeperOf_96 (q_ne kd_292 (by decide)) (q_e10 kd_292) rfl rfl rfl ?_
      refine q_if_ne hx 106 dX10_sleeperOf_99 (by decide) (fun hc13 => ?_) (fun hc13 => ?_)
      · replace h := (if_neg hc13).symm.trans h
        refine q_aload_n hx dX10_sleeperOf_106 0 rfl ?_
        refine q_get (v := .int (q4 292 14)) hx q_fl_X10_54 dX10_sleeperOf_107 (q_ne kd_292 (by decide)) (q_e10 kd_292) rfl ?_
        cases h
        exact q_iret hx hr dX10_sleeperOf_110
      · replace h := (if_pos hc13).symm.trans h
        refine q_iconst (v := (-1)) hx dX10_sleeperOf_102 (by decide) ?_
        refine q_goto hx 110 dX10_sleeperOf_103 (by decide) ?_
        cases h
        exact q_iret hx hr dX10_sleeperOf_110
    replace h := (if_neg hc11).symm.trans h
    by_cases hc14 : a2 = 4
    · replace h := (if_pos hc14).symm.trans h
      refine q_tin hx 111 dX10_sleeperOf_31 (by rw [hc14] <;> decide) (by rw [hc14] <;> decide) (by rw [hc14] <;> rfl) (by decide) ?_
      refine q_aload_n hx dX10_sleeperOf_111 0 rfl ?_
      refine q_iload_n hx dX10_sleeperOf_112 1 rfl ?_
      refine q_iconst (v := 1) hx dX10_sleeperOf_113 (by decide) ?_
      refine q_bindE h (fun q15 hq15 h => ?_)
      refine q_callVi (As := [.int a1, .int 1]) (rest := []) hx q_kR0 (c_X10_sv (q_Xl X) G x q4 a1 1 hq15) q_ml_X10_111 q_mn_X10_sv q_mi_X10_sv q_se_X10_sv (by decide) rfl (Nat.le_of_ble_eq_true rfl) dX10_sleeperOf_114 (q_ne kd_292 (by decide)) (q_e10 kd_292) rfl rfl rfl ?_
      refine q_if_ne hx 124 dX10_sleeperOf_117 (by decide) (fun hc16 => ?_) (fun hc16 => ?_)
      · replace h := (if_neg hc16).symm.trans h
        refine q_aload_n hx dX10_sleeperOf_124 0 rfl ?_
        refine q_get (v := .int (q4 292 15)) hx q_fl_X10_57 dX10_sleeperOf_125 (q_ne kd_292 (by decide)) (q_e10 kd_292) rfl ?_
        cases h
        exact q_iret hx hr dX10_sleeperOf_128
      · replace h := (if_pos hc16).symm.trans h
        refine q_iconst (v := (-1)) hx dX10_sleeperOf_120 (by decide) ?_
        refine q_goto hx 128 dX10_sleeperOf_121 (by decide) ?_
        cases h
        exact q_iret hx hr dX10_sleeperOf_128
    replace h := (if_neg hc14).symm.trans h
    by_cases hc17 : a2 = 5
    · replace h := (if_pos hc17).symm.trans h
      refine q_tin hx 129 dX10_sleeperOf_31 (by rw [hc17] <;> decide) (by rw [hc17] <;> decide) (by rw [hc17] <;> rfl) (by decide) ?_
      refine q_aload_n hx dX10_sleeperOf_129 0 rfl ?_
      refine q_iload_n hx dX10_sleeperOf_130 1 rfl ?_
      refine q_bindE h (fun q18 hq18 h => ?_)
      refine q_callVi (As := [.int a1]) (rest := []) hx q_kR0 (c_X10_cornersOf (q_Xl X) G x q4 a1 hq18) q_ml_X10_276 q_mn_X10_cornersOf q_mi_X10_cornersOf q_se_X10_cornersOf (by decide) rfl (Nat.le_of_ble_eq_true rfl) dX10_sleeperOf_131 (q_ne kd_292 (by decide)) (q_e10 kd_292) rfl rfl rfl ?_
      cases h
      exact q_iret hx hr dX10_sleeperOf_134
    replace h := (if_neg hc17).symm.trans h
    by_cases hc19 : a2 = 6
    · replace h := (if_pos hc19).symm.trans h
      refine q_tin hx 135 dX10_sleeperOf_31 (by rw [hc19] <;> decide) (by rw [hc19] <;> decide) (by rw [hc19] <;> rfl) (by decide) ?_
      refine q_aload_n hx dX10_sleeperOf_135 0 rfl ?_
      refine q_iload_n hx dX10_sleeperOf_136 1 rfl ?_
      refine q_iconst (v := 0) hx dX10_sleeperOf_137 (by decide) ?_
      refine q_bindE h (fun q20 hq20 h => ?_)
      refine q_callVi (As := [.int a1, .int 0]) (rest := []) hx q_kR0 (c_X10_cellsIn (q_Xl X) G x q4 a1 0 hq20) q_ml_X10_279 q_mn_X10_cellsIn q_mi_X10_cellsIn q_se_X10_cellsIn (by decide) rfl (Nat.le_of_ble_eq_true rfl) dX10_sleeperOf_138 (q_ne kd_292 (by decide)) (q_e10 kd_292) rfl rfl rfl ?_
      cases h
      exact q_iret hx hr dX10_sleeperOf_141
    replace h := (if_neg hc19).symm.trans h
    have hc5T := lv_neT (k := 0) (a := 0) hc5 (by decide)
    have hc7T := lv_neT (k := 1) (a := 1) hc7 (by decide)
    have hc9T := lv_neT (k := 2) (a := 2) hc9 (by decide)
    have hc11T := lv_neT (k := 3) (a := 3) hc11 (by decide)
    have hc14T := lv_neT (k := 4) (a := 4) hc14 (by decide)
    have hc17T := lv_neT (k := 5) (a := 5) hc17 (by decide)
    have hc19T := lv_neT (k := 6) (a := 6) hc19 (by decide)
    refine q_tout hx 142 dX10_sleeperOf_31 (by omega) (by decide) ?_
    refine q_aload_n hx dX10_sleeperOf_142 0 rfl ?_
    refine q_iconst (v := 2) hx dX10_sleeperOf_143 (by decide) ?_
    refine q_callVi (As := [.int 2]) (rest := []) hx q_kR0 (c_X10_no (q_Xl X) G x q4 2) q_ml_X10_103 q_mn_X10_no q_mi_X10_no q_se_X10_no (by decide) rfl (Nat.le_of_ble_eq_true rfl) dX10_sleeperOf_144 (q_ne kd_292 (by decide)) (q_e10 kd_292) rfl rfl rfl ?_
    cases h
    exact q_iret hx hr dX10_sleeperOf_147
  · replace h := (if_pos hc2).symm.trans h
    refine q_aload_n hx dX10_sleeperOf_13 0 rfl ?_
    refine q_iconst (v := 1) hx dX10_sleeperOf_14 (by decide) ?_
    refine q_callVi (As := [.int 1]) (rest := []) hx q_kR0 (c_X10_no (q_Xl X) G x (q_up σ 292 4 0) 1) q_ml_X10_103 q_mn_X10_no q_mi_X10_no q_se_X10_no (by decide) rfl (Nat.le_of_ble_eq_true rfl) dX10_sleeperOf_15 (q_ne kd_292 (by decide)) (q_e10 kd_292) rfl rfl rfl ?_
    cases h
    exact q_iret hx hr dX10_sleeperOf_18
-- X10_chainOf
def f_X10_chainOf (σ : q_S) (a1 : Int32) (a2 : Int32) (a3 : Int32) : Option (Int32 × q_S) :=
  Option.bind (f_X10_hasChain (q_up σ 292 4 0) a1 a2) (fun q1 => if q1 = 0 then (some (((f_X10_no (q_up σ 292 4 0) 1).1, (f_X10_no (q_up σ 292 4 0) 1).2))) else (Option.bind (f_X10_goesTo (q_up σ 292 4 0) a1 a2) (fun q3 => if a3 = 0 then (Option.bind (f_X10_way q3 a1 a2) (fun q5 => some ((q5, q3)))) else if a3 = 1 then (Option.bind (f_X10_length q3 a1 a2) (fun q7 => some ((q7, q3)))) else if a3 = 2 then (some ((q3 292 14, q3))) else if a3 = 3 then (some ((q3 292 15, q3))) else some (((f_X10_no q3 2).1, (f_X10_no q3 2).2)))))
set_option maxHeartbeats 4000000 in
set_option maxRecDepth 100000 in
theorem c_X10_chainOf (l : Launch) (G : q_G) (x : q_A) (σ : q_S) (a1 : Int32) (a2 : Int32) (a3 : Int32)  {res : Int32 × q_S} (h : f_X10_chainOf σ a1 a2 a3 = some res) : q_Met l yX10_chainOf cX10_chainOf 4 (some .int) 4 G [.ref (G.2.1 + 292), .int a1, .int a2, .int a3] σ x (q_Qi G x res.1 res.2) := by
  refine q_of (by decide) (Nat.le_of_ble_eq_true rfl) (fun X hl0 hx hr => ?_)
  subst hl0
  have hx : q_Cx X G RX10 cX10_chainOf 4 4 := hx
  unfold f_X10_chainOf at h
  show q_Wq X G x 4 (q_MQ X G (q_Qi G x res.1 res.2)) 0 0 0 [(0, .ref (G.2.1 + 292)), (1, .int a1), (2, .int a2), (3, .int a3)] [] σ
  refine q_aload_n hx dX10_chainOf_0 0 rfl ?_
  refine q_iconst (v := 0) hx dX10_chainOf_1 (by decide) ?_
  refine q_put (v := 0) hx q_fl_X10_22 q_fp_10_4 dX10_chainOf_2 (q_ne kd_292 (by decide)) (q_e10 kd_292) (by rw [q_l10]; decide) rfl rfl (by rw [q_e10 kd_292, q_s10_4]) ?_
  refine q_aload_n hx dX10_chainOf_5 0 rfl ?_
  refine q_iload_n hx dX10_chainOf_6 1 rfl ?_
  refine q_iload_n hx dX10_chainOf_7 2 rfl ?_
  refine q_bindE h (fun q1 hq1 h => ?_)
  refine q_callVi (As := [.int a1, .int a2]) (rest := []) hx q_kR0 (c_X10_hasChain (q_Xl X) G x (q_up σ 292 4 0) a1 a2 hq1) q_ml_X10_222 q_mn_X10_hasChain q_mi_X10_hasChain q_se_X10_hasChain (by decide) rfl (Nat.le_of_ble_eq_true rfl) dX10_chainOf_8 (q_ne kd_292 (by decide)) (q_e10 kd_292) rfl rfl rfl ?_
  refine q_if_ne hx 20 dX10_chainOf_11 (by decide) (fun hc2 => ?_) (fun hc2 => ?_)
  · replace h := (if_neg hc2).symm.trans h
    refine q_aload_n hx dX10_chainOf_20 0 rfl ?_
    refine q_iload_n hx dX10_chainOf_21 1 rfl ?_
    refine q_iload_n hx dX10_chainOf_22 2 rfl ?_
    refine q_bindE h (fun q3 hq3 h => ?_)
    refine q_callVv (As := [.int a1, .int a2]) (rest := []) hx q_kR0 (c_X10_goesTo (q_Xl X) G x (q_up σ 292 4 0) a1 a2 hq3) q_ml_X10_187 q_mn_X10_goesTo q_mi_X10_goesTo q_se_X10_goesTo (by decide) rfl (Nat.le_of_ble_eq_true rfl) dX10_chainOf_23 (q_ne kd_292 (by decide)) (q_e10 kd_292) rfl rfl rfl ?_
    refine q_iload_n hx dX10_chainOf_26 3 rfl ?_
    by_cases hc4 : a3 = 0
    · replace h := (if_pos hc4).symm.trans h
      refine q_tin hx 56 dX10_chainOf_27 (by rw [hc4] <;> decide) (by rw [hc4] <;> decide) (by rw [hc4] <;> rfl) (by decide) ?_
      refine q_aload_n hx dX10_chainOf_56 0 rfl ?_
      refine q_iload_n hx dX10_chainOf_57 1 rfl ?_
      refine q_iload_n hx dX10_chainOf_58 2 rfl ?_
      refine q_bindE h (fun q5 hq5 h => ?_)
      refine q_callVi (As := [.int a1, .int a2]) (rest := []) hx q_kR0 (c_X10_way (q_Xl X) G x q3 a1 a2 hq5) q_ml_X10_178 q_mn_X10_way q_mi_X10_way q_se_X10_way (by decide) rfl (Nat.le_of_ble_eq_true rfl) dX10_chainOf_59 (q_ne kd_292 (by decide)) (q_e10 kd_292) rfl rfl rfl ?_
      cases h
      exact q_iret hx hr dX10_chainOf_62
    replace h := (if_neg hc4).symm.trans h
    by_cases hc6 : a3 = 1
    · replace h := (if_pos hc6).symm.trans h
      refine q_tin hx 63 dX10_chainOf_27 (by rw [hc6] <;> decide) (by rw [hc6] <;> decide) (by rw [hc6] <;> rfl) (by decide) ?_
      refine q_aload_n hx dX10_chainOf_63 0 rfl ?_
      refine q_iload_n hx dX10_chainOf_64 1 rfl ?_
      refine q_iload_n hx dX10_chainOf_65 2 rfl ?_
      refine q_bindE h (fun q7 hq7 h => ?_)
      refine q_callVi (As := [.int a1, .int a2]) (rest := []) hx q_kR0 (c_X10_length (q_Xl X) G x q3 a1 a2 hq7) q_ml_X10_175 q_mn_X10_length q_mi_X10_length q_se_X10_length (by decide) rfl (Nat.le_of_ble_eq_true rfl) dX10_chainOf_66 (q_ne kd_292 (by decide)) (q_e10 kd_292) rfl rfl rfl ?_
      cases h
      exact q_iret hx hr dX10_chainOf_69
    replace h := (if_neg hc6).symm.trans h
    by_cases hc8 : a3 = 2
    · replace h := (if_pos hc8).symm.trans h
      refine q_tin hx 70 dX10_chainOf_27 (by rw [hc8] <;> decide) (by rw [hc8] <;> decide) (by rw [hc8] <;> rfl) (by decide) ?_
      refine q_aload_n hx dX10_chainOf_70 0 rfl ?_
      refine q_get (v := .int (q3 292 14)) hx q_fl_X10_54 dX10_chainOf_71 (q_ne kd_292 (by decide)) (q_e10 kd_292) rfl ?_
      cases h
      exact q_iret hx hr dX10_chainOf_74
    replace h := (if_neg hc8).symm.trans h
    by_cases hc9 : a3 = 3
    · replace h := (if_pos hc9).symm.trans h
      refine q_tin hx 75 dX10_chainOf_27 (by rw [hc9] <;> decide) (by rw [hc9] <;> decide) (by rw [hc9] <;> rfl) (by decide) ?_
      refine q_aload_n hx dX10_chainOf_75 0 rfl ?_
      refine q_get (v := .int (q3 292 15)) hx q_fl_X10_57 dX10_chainOf_76 (q_ne kd_292 (by decide)) (q_e10 kd_292) rfl ?_
      cases h
      exact q_iret hx hr dX10_chainOf_79
    replace h := (if_neg hc9).symm.trans h
    have hc4T := lv_neT (k := 0) (a := 0) hc4 (by decide)
    have hc6T := lv_neT (k := 1) (a := 1) hc6 (by decide)
    have hc8T := lv_neT (k := 2) (a := 2) hc8 (by decide)
    have hc9T := lv_neT (k := 3) (a := 3) hc9 (by decide)
    refine q_tout hx 80 dX10_chainOf_27 (by omega) (by decide) ?_
    refine q_aload_n hx dX10_chainOf_80 0 rfl ?_
    refine q_iconst (v := 2) hx dX10_chainOf_81 (by decide) ?_
    refine q_callVi (As := [.int 2]) (rest := []) hx q_kR0 (c_X10_no (q_Xl X) G x q3 2) q_ml_X10_103 q_mn_X10_no q_mi_X10_no q_se_X10_no (by decide) rfl (Nat.le_of_ble_eq_true rfl) dX10_chainOf_82 (q_ne kd_292 (by decide)) (q_e10 kd_292) rfl rfl rfl ?_
    cases h
    exact q_iret hx hr dX10_chainOf_85
  · replace h := (if_pos hc2).symm.trans h
    refine q_aload_n hx dX10_chainOf_14 0 rfl ?_
    refine q_iconst (v := 1) hx dX10_chainOf_15 (by decide) ?_
    refine q_callVi (As := [.int 1]) (rest := []) hx q_kR0 (c_X10_no (q_Xl X) G x (q_up σ 292 4 0) 1) q_ml_X10_103 q_mn_X10_no q_mi_X10_no q_se_X10_no (by decide) rfl (Nat.le_of_ble_eq_true rfl) dX10_chainOf_16 (q_ne kd_292 (by decide)) (q_e10 kd_292) rfl rfl rfl ?_
    cases h
    exact q_iret hx hr dX10_chainOf_19
-- X10_litIn
def f_X10_litIn (σ : q_S) (a1 : Int32) : Option (Int32) :=
  Option.bind (f_X10_pv σ a1 2) (fun q1 => Option.bind (f_X10_pv σ a1 2) (fun q2 => if q2 = 0 then none else Option.bind (f_X10_pv σ a1 2) (fun q4 => if q4 = 0 then none else some ((q1 - ((σ 293 2) - (σ 293 2) / q2 * q2)) - (q1 - ((σ 293 2) - (σ 293 2) / q2 * q2)) / q4 * q4))))
set_option maxHeartbeats 4000000 in
set_option maxRecDepth 100000 in
theorem c_X10_litIn (l : Launch) (G : q_G) (x : q_A) (σ : q_S) (a1 : Int32)  {res : Int32} (h : f_X10_litIn σ a1 = some res) : q_Met l yX10_litIn cX10_litIn 2 (some .int) 2 G [.ref (G.2.1 + 292), .int a1] σ x (q_Qi G x res σ) := by
  refine q_of (by decide) (Nat.le_of_ble_eq_true rfl) (fun X hl0 hx hr => ?_)
  subst hl0
  have hx : q_Cx X G RX10 cX10_litIn 2 2 := hx
  unfold f_X10_litIn at h
  show q_Wq X G x 2 (q_MQ X G (q_Qi G x res σ)) 0 0 0 [(0, .ref (G.2.1 + 292)), (1, .int a1)] [] σ
  refine q_aload_n hx dX10_litIn_0 0 rfl ?_
  refine q_iload_n hx dX10_litIn_1 1 rfl ?_
  refine q_iconst (v := 2) hx dX10_litIn_2 (by decide) ?_
  refine q_bindE h (fun q1 hq1 h => ?_)
  refine q_callVi (As := [.int a1, .int 2]) (rest := []) hx q_kR0 (c_X10_pv (q_Xl X) G x σ a1 2 hq1) q_ml_X10_143 q_mn_X10_pv q_mi_X10_pv q_se_X10_pv (by decide) rfl (Nat.le_of_ble_eq_true rfl) dX10_litIn_3 (q_ne kd_292 (by decide)) (q_e10 kd_292) rfl rfl rfl ?_
  refine q_aload_n hx dX10_litIn_6 0 rfl ?_
  refine q_get (v := .ref (G.2.1 + 293)) hx q_fl_X10_7 dX10_litIn_7 (q_ne kd_292 (by decide)) (q_e10 kd_292) rfl ?_
  refine q_iconst (v := 2) hx dX10_litIn_10 (by decide) ?_
  refine q_ialdK (N := 220) hx 2 dX10_litIn_11 kd_293 (by decide) (by decide) (by decide) (by decide) ?_
  refine q_aload_n hx dX10_litIn_12 0 rfl ?_
  refine q_iload_n hx dX10_litIn_13 1 rfl ?_
  refine q_iconst (v := 2) hx dX10_litIn_14 (by decide) ?_
  refine q_bindE h (fun q2 hq2 h => ?_)
  refine q_callVi (As := [.int a1, .int 2]) (rest := [.int (σ 293 2), .int q1]) hx q_kR0 (c_X10_pv (q_Xl X) G x σ a1 2 hq2) q_ml_X10_143 q_mn_X10_pv q_mi_X10_pv q_se_X10_pv (by decide) rfl (Nat.le_of_ble_eq_true rfl) dX10_litIn_15 (q_ne kd_292 (by decide)) (q_e10 kd_292) rfl rfl rfl ?_
  by_cases hg3 : q2 = 0
  · rw [if_pos hg3] at h; exact nomatch h
  replace h := (if_neg hg3).symm.trans h
  refine q_irem hx dX10_litIn_18 hg3 ?_
  refine q_isub hx dX10_litIn_19 ?_
  refine q_aload_n hx dX10_litIn_20 0 rfl ?_
  refine q_iload_n hx dX10_litIn_21 1 rfl ?_
  refine q_iconst (v := 2) hx dX10_litIn_22 (by decide) ?_
  refine q_bindE h (fun q4 hq4 h => ?_)
  refine q_callVi (As := [.int a1, .int 2]) (rest := [.int (q1 - ((σ 293 2) - (σ 293 2) / q2 * q2))]) hx q_kR0 (c_X10_pv (q_Xl X) G x σ a1 2 hq4) q_ml_X10_143 q_mn_X10_pv q_mi_X10_pv q_se_X10_pv (by decide) rfl (Nat.le_of_ble_eq_true rfl) dX10_litIn_23 (q_ne kd_292 (by decide)) (q_e10 kd_292) rfl rfl rfl ?_
  by_cases hg5 : q4 = 0
  · rw [if_pos hg5] at h; exact nomatch h
  replace h := (if_neg hg5).symm.trans h
  refine q_irem hx dX10_litIn_26 hg5 ?_
  cases h
  exact q_iret hx hr dX10_litIn_27
-- X10_pegOf
def f_X10_pegOf (σ : q_S) (a1 : Int32) (a2 : Int32) : Option (Int32 × q_S) :=
  if ((f_X10_in a1 0 (((q_up σ 292 4 0) 293 1) - 1))) = 0 then (some (((f_X10_no (q_up σ 292 4 0) 1).1, (f_X10_no (q_up σ 292 4 0) 1).2))) else (if ((f_X10_in a2 0 3)) = 0 then (some (((f_X10_no (q_up σ 292 4 0) 2).1, (f_X10_no (q_up σ 292 4 0) 2).2))) else (if 3 ≤ a2 then (Option.bind (f_X10_litIn (q_up σ 292 4 0) a1) (fun q4 => some ((q4, q_up σ 292 4 0)))) else (Option.bind (f_X10_pv (q_up σ 292 4 0) a1 a2) (fun q5 => some ((q5, q_up σ 292 4 0))))))
set_option maxHeartbeats 4000000 in
set_option maxRecDepth 100000 in
theorem c_X10_pegOf (l : Launch) (G : q_G) (x : q_A) (σ : q_S) (a1 : Int32) (a2 : Int32)  {res : Int32 × q_S} (h : f_X10_pegOf σ a1 a2 = some res) : q_Met l yX10_pegOf cX10_pegOf 3 (some .int) 3 G [.ref (G.2.1 + 292), .int a1, .int a2] σ x (q_Qi G x res.1 res.2) := by
  refine q_of (by decide) (Nat.le_of_ble_eq_true rfl) (fun X hl0 hx hr => ?_)
  subst hl0
  have hx : q_Cx X G RX10 cX10_pegOf 3 3 := hx
  unfold f_X10_pegOf at h
  show q_Wq X G x 3 (q_MQ X G (q_Qi G x res.1 res.2)) 0 0 0 [(0, .ref (G.2.1 + 292)), (1, .int a1), (2, .int a2)] [] σ
  refine q_aload_n hx dX10_pegOf_0 0 rfl ?_
  refine q_iconst (v := 0) hx dX10_pegOf_1 (by decide) ?_
  refine q_put (v := 0) hx q_fl_X10_22 q_fp_10_4 dX10_pegOf_2 (q_ne kd_292 (by decide)) (q_e10 kd_292) (by rw [q_l10]; decide) rfl rfl (by rw [q_e10 kd_292, q_s10_4]) ?_
  refine q_iload_n hx dX10_pegOf_5 1 rfl ?_
  refine q_iconst (v := 0) hx dX10_pegOf_6 (by decide) ?_
  refine q_aload_n hx dX10_pegOf_7 0 rfl ?_
  refine q_get (v := .ref (G.2.1 + 293)) hx q_fl_X10_7 dX10_pegOf_8 (q_ne kd_292 (by decide)) (q_e10 kd_292) rfl ?_
  refine q_iconst (v := 1) hx dX10_pegOf_11 (by decide) ?_
  refine q_ialdK (N := 220) hx 1 dX10_pegOf_12 kd_293 (by decide) (by decide) (by decide) (by decide) ?_
  refine q_iconst (v := 1) hx dX10_pegOf_13 (by decide) ?_
  refine q_isub hx dX10_pegOf_14 ?_
  refine q_callSi (As := [.int a1, .int 0, .int (((q_up σ 292 4 0) 293 1) - 1)]) (rest := []) hx q_kR0 (c_X10_in (q_Xl X) G x (q_up σ 292 4 0) a1 0 (((q_up σ 292 4 0) 293 1) - 1)) q_ml_X10_115 q_mn_X10_in q_ms_X10_in (by decide) rfl (Nat.le_of_ble_eq_true rfl) dX10_pegOf_15 rfl ?_
  refine q_if_ne hx 27 dX10_pegOf_18 (by decide) (fun hc1 => ?_) (fun hc1 => ?_)
  · replace h := (if_neg hc1).symm.trans h
    refine q_iload_n hx dX10_pegOf_27 2 rfl ?_
    refine q_iconst (v := 0) hx dX10_pegOf_28 (by decide) ?_
    refine q_iconst (v := 3) hx dX10_pegOf_29 (by decide) ?_
    refine q_callSi (As := [.int a2, .int 0, .int 3]) (rest := []) hx q_kR0 (c_X10_in (q_Xl X) G x (q_up σ 292 4 0) a2 0 3) q_ml_X10_115 q_mn_X10_in q_ms_X10_in (by decide) rfl (Nat.le_of_ble_eq_true rfl) dX10_pegOf_30 rfl ?_
    refine q_if_ne hx 42 dX10_pegOf_33 (by decide) (fun hc2 => ?_) (fun hc2 => ?_)
    · replace h := (if_neg hc2).symm.trans h
      refine q_iload_n hx dX10_pegOf_42 2 rfl ?_
      refine q_iconst (v := 3) hx dX10_pegOf_43 (by decide) ?_
      refine q_icmp_ge hx 56 dX10_pegOf_44 (by decide) (fun hc3 => ?_) (fun hc3 => ?_)
      · replace h := (if_pos hc3).symm.trans h
        refine q_aload_n hx dX10_pegOf_56 0 rfl ?_
        refine q_iload_n hx dX10_pegOf_57 1 rfl ?_
        refine q_bindE h (fun q4 hq4 h => ?_)
        refine q_callVi (As := [.int a1]) (rest := []) hx q_kR0 (c_X10_litIn (q_Xl X) G x (q_up σ 292 4 0) a1 hq4) q_ml_X10_282 q_mn_X10_litIn q_mi_X10_litIn q_se_X10_litIn (by decide) rfl (Nat.le_of_ble_eq_true rfl) dX10_pegOf_58 (q_ne kd_292 (by decide)) (q_e10 kd_292) rfl rfl rfl ?_
        cases h
        exact q_iret hx hr dX10_pegOf_61
      · replace h := (if_neg hc3).symm.trans h
        refine q_aload_n hx dX10_pegOf_47 0 rfl ?_
        refine q_iload_n hx dX10_pegOf_48 1 rfl ?_
        refine q_iload_n hx dX10_pegOf_49 2 rfl ?_
        refine q_bindE h (fun q5 hq5 h => ?_)
        refine q_callVi (As := [.int a1, .int a2]) (rest := []) hx q_kR0 (c_X10_pv (q_Xl X) G x (q_up σ 292 4 0) a1 a2 hq5) q_ml_X10_143 q_mn_X10_pv q_mi_X10_pv q_se_X10_pv (by decide) rfl (Nat.le_of_ble_eq_true rfl) dX10_pegOf_50 (q_ne kd_292 (by decide)) (q_e10 kd_292) rfl rfl rfl ?_
        refine q_goto hx 61 dX10_pegOf_53 (by decide) ?_
        cases h
        exact q_iret hx hr dX10_pegOf_61
    · replace h := (if_pos hc2).symm.trans h
      refine q_aload_n hx dX10_pegOf_36 0 rfl ?_
      refine q_iconst (v := 2) hx dX10_pegOf_37 (by decide) ?_
      refine q_callVi (As := [.int 2]) (rest := []) hx q_kR0 (c_X10_no (q_Xl X) G x (q_up σ 292 4 0) 2) q_ml_X10_103 q_mn_X10_no q_mi_X10_no q_se_X10_no (by decide) rfl (Nat.le_of_ble_eq_true rfl) dX10_pegOf_38 (q_ne kd_292 (by decide)) (q_e10 kd_292) rfl rfl rfl ?_
      cases h
      exact q_iret hx hr dX10_pegOf_41
  · replace h := (if_pos hc1).symm.trans h
    refine q_aload_n hx dX10_pegOf_21 0 rfl ?_
    refine q_iconst (v := 1) hx dX10_pegOf_22 (by decide) ?_
    refine q_callVi (As := [.int 1]) (rest := []) hx q_kR0 (c_X10_no (q_Xl X) G x (q_up σ 292 4 0) 1) q_ml_X10_103 q_mn_X10_no q_mi_X10_no q_se_X10_no (by decide) rfl (Nat.le_of_ble_eq_true rfl) dX10_pegOf_23 (q_ne kd_292 (by decide)) (q_e10 kd_292) rfl rfl rfl ?_
    cases h
    exact q_iret hx hr dX10_pegOf_26
-- X10_closes
def f_X10_closes_27 (v1 : Int32) (s0 : Int32) (σ : q_S) : Option (Int32 × q_S) :=
  if ((q_up σ 292 4 s0) 292 4) ≤ 0 then (Option.bind (f_X10_sv (q_up σ 292 4 s0) v1 4) (fun q6 => Option.bind (f_X10_goesTo (q_up σ 292 4 s0) v1 q6) (fun q7 => Option.bind (f_X10_sv q7 v1 2) (fun q8 => Option.bind (f_X10_sv q7 v1 3) (fun q9 => some ((((((f_X10_size ((q7 292 14) - q8))) + 8) / 9) + ((((f_X10_size ((q7 292 15) - q9))) + 8) / 9), q7))))))) else (some ((0, q_up σ 292 4 s0)))
set_option maxHeartbeats 4000000 in
set_option maxRecDepth 100000 in
theorem s_X10_closes_27 {X : q_X} {G : q_G} {x : q_A} (hx : q_Cx X G RX10 cX10_closes 2 4) (hr : (q_Xm X).sig.returnType = some .int) {res : Int32 × q_S} : ∀ (v1 : Int32) (s0 : Int32) (σ : q_S), f_X10_closes_27 v1 s0 σ = some res → q_Wq X G x 2 (q_MQ X G (q_Qi G x res.1 res.2)) 0 0 27 [(0, .ref (G.2.1 + 292)), (1, .int v1)] [.int s0, .ref (G.2.1 + 292)] σ := by
  intro v1 s0 σ h
  unfold f_X10_closes_27 at h
  refine q_put (v := s0) hx q_fl_X10_22 q_fp_10_4 dX10_closes_27 (q_ne kd_292 (by decide)) (q_e10 kd_292) (by rw [q_l10]; decide) rfl rfl (by rw [q_e10 kd_292, q_s10_4]) ?_
  refine q_aload_n hx dX10_closes_30 0 rfl ?_
  refine q_get (v := .int ((q_up σ 292 4 s0) 292 4)) hx q_fl_X10_22 dX10_closes_31 (q_ne kd_292 (by decide)) (q_e10 kd_292) rfl ?_
  refine q_if_le hx 39 dX10_closes_34 (by decide) (fun hc5 => ?_) (fun hc5 => ?_)
  · replace h := (if_pos hc5).symm.trans h
    refine q_aload_n hx dX10_closes_39 0 rfl ?_
    refine q_iload_n hx dX10_closes_40 1 rfl ?_
    refine q_aload_n hx dX10_closes_41 0 rfl ?_
    refine q_iload_n hx dX10_closes_42 1 rfl ?_
    refine q_iconst (v := 4) hx dX10_closes_43 (by decide) ?_
    refine q_bindE h (fun q6 hq6 h => ?_)
    refine q_callVi (As := [.int v1, .int 4]) (rest := [.int v1, .ref (G.2.1 + 292)]) hx q_kR0 (c_X10_sv (q_Xl X) G x (q_up σ 292 4 s0) v1 4 hq6) q_ml_X10_111 q_mn_X10_sv q_mi_X10_sv q_se_X10_sv (by decide) rfl (Nat.le_of_ble_eq_true rfl) dX10_closes_44 (q_ne kd_292 (by decide)) (q_e10 kd_292) rfl rfl rfl ?_
    refine q_bindE h (fun q7 hq7 h => ?_)
    refine q_callVv (As := [.int v1, .int q6]) (rest := []) hx q_kR0 (c_X10_goesTo (q_Xl X) G x (q_up σ 292 4 s0) v1 q6 hq7) q_ml_X10_187 q_mn_X10_goesTo q_mi_X10_goesTo q_se_X10_goesTo (by decide) rfl (Nat.le_of_ble_eq_true rfl) dX10_closes_47 (q_ne kd_292 (by decide)) (q_e10 kd_292) rfl rfl rfl ?_
    refine q_aload_n hx dX10_closes_50 0 rfl ?_
    refine q_get (v := .int (q7 292 14)) hx q_fl_X10_54 dX10_closes_51 (q_ne kd_292 (by decide)) (q_e10 kd_292) rfl ?_
    refine q_aload_n hx dX10_closes_54 0 rfl ?_
    refine q_iload_n hx dX10_closes_55 1 rfl ?_
    refine q_iconst (v := 2) hx dX10_closes_56 (by decide) ?_
    refine q_bindE h (fun q8 hq8 h => ?_)
    refine q_callVi (As := [.int v1, .int 2]) (rest := [.int (q7 292 14)]) hx q_kR0 (c_X10_sv (q_Xl X) G x q7 v1 2 hq8) q_ml_X10_111 q_mn_X10_sv q_mi_X10_sv q_se_X10_sv (by decide) rfl (Nat.le_of_ble_eq_true rfl) dX10_closes_57 (q_ne kd_292 (by decide)) (q_e10 kd_292) rfl rfl rfl ?_
    refine q_isub hx dX10_closes_60 ?_
    refine q_callSi (As := [.int ((q7 292 14) - q8)]) (rest := []) hx q_kR0 (c_X10_size (q_Xl X) G x q7 ((q7 292 14) - q8)) q_ml_X10_201 q_mn_X10_size q_ms_X10_size (by decide) rfl (Nat.le_of_ble_eq_true rfl) dX10_closes_61 rfl ?_
    refine q_bipush (v := 8) hx dX10_closes_64 (by decide) ?_
    refine q_iadd hx dX10_closes_66 ?_
    refine q_bipush (v := 9) hx dX10_closes_67 (by decide) ?_
    refine q_idiv hx dX10_closes_69 (by decide) ?_
    refine q_aload_n hx dX10_closes_70 0 rfl ?_
    refine q_get (v := .int (q7 292 15)) hx q_fl_X10_57 dX10_closes_71 (q_ne kd_292 (by decide)) (q_e10 kd_292) rfl ?_
    refine q_aload_n hx dX10_closes_74 0 rfl ?_
    refine q_iload_n hx dX10_closes_75 1 rfl ?_
    refine q_iconst (v := 3) hx dX10_closes_76 (by decide) ?_
    refine q_bindE h (fun q9 hq9 h => ?_)
    refine q_callVi (As := [.int v1, .int 3]) (rest := [.int (q7 292 15), .int ((((f_X10_size ((q7 292 14) - q8))) + 8) / 9)]) hx q_kR0 (c_X10_sv (q_Xl X) G x q7 v1 3 hq9) q_ml_X10_111 q_mn_X10_sv q_mi_X10_sv q_se_X10_sv (by decide) rfl (Nat.le_of_ble_eq_true rfl) dX10_closes_77 (q_ne kd_292 (by decide)) (q_e10 kd_292) rfl rfl rfl ?_
    refine q_isub hx dX10_closes_80 ?_
    refine q_callSi (As := [.int ((q7 292 15) - q9)]) (rest := [.int ((((f_X10_size ((q7 292 14) - q8))) + 8) / 9)]) hx q_kR0 (c_X10_size (q_Xl X) G x q7 ((q7 292 15) - q9)) q_ml_X10_201 q_mn_X10_size q_ms_X10_size (by decide) rfl (Nat.le_of_ble_eq_true rfl) dX10_closes_81 rfl ?_
    refine q_bipush (v := 8) hx dX10_closes_84 (by decide) ?_
    refine q_iadd hx dX10_closes_86 ?_
    refine q_bipush (v := 9) hx dX10_closes_87 (by decide) ?_
    refine q_idiv hx dX10_closes_89 (by decide) ?_
    refine q_iadd hx dX10_closes_90 ?_
    cases h
    exact q_iret hx hr dX10_closes_91
  · replace h := (if_neg hc5).symm.trans h
    refine q_iconst (v := 0) hx dX10_closes_37 (by decide) ?_
    cases h
    exact q_iret hx hr dX10_closes_38
def f_X10_closes (σ : q_S) (a1 : Int32) : Option (Int32 × q_S) :=
  Option.bind (f_X10_isSleeper σ a1) (fun q1 => if q1 = 0 then (f_X10_closes_27 a1 1 σ) else (Option.bind (f_X10_sv σ a1 1) (fun q3 => if q3 = 0 then (f_X10_closes_27 a1 2 σ) else (f_X10_closes_27 a1 0 σ))))
set_option maxHeartbeats 4000000 in
set_option maxRecDepth 100000 in
theorem c_X10_closes (l : Launch) (G : q_G) (x : q_A) (σ : q_S) (a1 : Int32)  {res : Int32 × q_S} (h : f_X10_closes σ a1 = some res) : q_Met l yX10_closes cX10_closes 2 (some .int) 4 G [.ref (G.2.1 + 292), .int a1] σ x (q_Qi G x res.1 res.2) := by
  refine q_of (by decide) (Nat.le_of_ble_eq_true rfl) (fun X hl0 hx hr => ?_)
  subst hl0
  have hx : q_Cx X G RX10 cX10_closes 2 4 := hx
  unfold f_X10_closes at h
  show q_Wq X G x 2 (q_MQ X G (q_Qi G x res.1 res.2)) 0 0 0 [(0, .ref (G.2.1 + 292)), (1, .int a1)] [] σ
  refine q_aload_n hx dX10_closes_0 0 rfl ?_
  refine q_aload_n hx dX10_closes_1 0 rfl ?_
  refine q_iload_n hx dX10_closes_2 1 rfl ?_
  refine q_bindE h (fun q1 hq1 h => ?_)
  refine q_callVi (As := [.int a1]) (rest := [.ref (G.2.1 + 292)]) hx q_kR0 (c_X10_isSleeper (q_Xl X) G x σ a1 hq1) q_ml_X10_166 q_mn_X10_isSleeper q_mi_X10_isSleeper q_se_X10_isSleeper (by decide) rfl (Nat.le_of_ble_eq_true rfl) dX10_closes_3 (q_ne kd_292 (by decide)) (q_e10 kd_292) rfl rfl rfl ?_
  refine q_if_ne hx 13 dX10_closes_6 (by decide) (fun hc2 => ?_) (fun hc2 => ?_)
  · replace h := (if_neg hc2).symm.trans h
    refine q_aload_n hx dX10_closes_13 0 rfl ?_
    refine q_iload_n hx dX10_closes_14 1 rfl ?_
    refine q_iconst (v := 1) hx dX10_closes_15 (by decide) ?_
    refine q_bindE h (fun q3 hq3 h => ?_)
    refine q_callVi (As := [.int a1, .int 1]) (rest := [.ref (G.2.1 + 292)]) hx q_kR0 (c_X10_sv (q_Xl X) G x σ a1 1 hq3) q_ml_X10_111 q_mn_X10_sv q_mi_X10_sv q_se_X10_sv (by decide) rfl (Nat.le_of_ble_eq_true rfl) dX10_closes_16 (q_ne kd_292 (by decide)) (q_e10 kd_292) rfl rfl rfl ?_
    refine q_if_ne hx 26 dX10_closes_19 (by decide) (fun hc4 => ?_) (fun hc4 => ?_)
    · replace h := (if_neg hc4).symm.trans h
      refine q_iconst (v := 0) hx dX10_closes_26 (by decide) ?_
      refine q_sub [0, 1] rfl ?_
      exact s_X10_closes_27 hx hr a1 0 σ h
    · replace h := (if_pos hc4).symm.trans h
      refine q_iconst (v := 2) hx dX10_closes_22 (by decide) ?_
      refine q_goto hx 27 dX10_closes_23 (by decide) ?_
      refine q_sub [0, 1] rfl ?_
      exact s_X10_closes_27 hx hr a1 2 σ h
  · replace h := (if_pos hc2).symm.trans h
    refine q_iconst (v := 1) hx dX10_closes_9 (by decide) ?_
    refine q_goto hx 27 dX10_closes_10 (by decide) ?_
    refine q_sub [0, 1] rfl ?_
    exact s_X10_closes_27 hx hr a1 1 σ h
-- X10_would
def f_X10_would (σ : q_S) (a1 : Int32) (a2 : Int32) : Option (Int32 × q_S) :=
  Option.bind (f_X10_isSleeper (q_up σ 292 4 0) a1) (fun q1 => if q1 = 0 then (some (((f_X10_no (q_up σ 292 4 0) 1).1, (f_X10_no (q_up σ 292 4 0) 1).2))) else (if ((f_X10_in a2 0 20)) = 0 then (some (((f_X10_no (q_up σ 292 4 0) 2).1, (f_X10_no (q_up σ 292 4 0) 2).2))) else (Option.bind (f_X10_cellsIn (q_up σ 292 4 0) a1 a2) (fun q4 => some ((q4, q_up σ 292 4 0))))))
set_option maxHeartbeats 4000000 in
set_option maxRecDepth 100000 in
theorem c_X10_would (l : Launch) (G : q_G) (x : q_A) (σ : q_S) (a1 : Int32) (a2 : Int32)  {res : Int32 × q_S} (h : f_X10_would σ a1 a2 = some res) : q_Met l yX10_would cX10_would 3 (some .int) 6 G [.ref (G.2.1 + 292), .int a1, .int a2] σ x (q_Qi G x res.1 res.2) := by
  refine q_of (by decide) (Nat.le_of_ble_eq_true rfl) (fun X hl0 hx hr => ?_)
  subst hl0
  have hx : q_Cx X G RX10 cX10_would 3 6 := hx
  unfold f_X10_would at h
  show q_Wq X G x 3 (q_MQ X G (q_Qi G x res.1 res.2)) 0 0 0 [(0, .ref (G.2.1 + 292)), (1, .int a1), (2, .int a2)] [] σ
  refine q_aload_n hx dX10_would_0 0 rfl ?_
  refine q_iconst (v := 0) hx dX10_would_1 (by decide) ?_
  refine q_put (v := 0) hx q_fl_X10_22 q_fp_10_4 dX10_would_2 (q_ne kd_292 (by decide)) (q_e10 kd_292) (by rw [q_l10]; decide) rfl rfl (by rw [q_e10 kd_292, q_s10_4]) ?_
  refine q_aload_n hx dX10_would_5 0 rfl ?_
  refine q_iload_n hx dX10_would_6 1 rfl ?_
  refine q_bindE h (fun q1 hq1 h => ?_)
  refine q_callVi (As := [.int a1]) (rest := []) hx q_kR0 (c_X10_isSleeper (q_Xl X) G x (q_up σ 292 4 0) a1 hq1) q_ml_X10_166 q_mn_X10_isSleeper q_mi_X10_isSleeper q_se_X10_isSleeper (by decide) rfl (Nat.le_of_ble_eq_true rfl) dX10_would_7 (q_ne kd_292 (by decide)) (q_e10 kd_292) rfl rfl rfl ?_
  refine q_if_ne hx 19 dX10_would_10 (by decide) (fun hc2 => ?_) (fun hc2 => ?_)
  · replace h := (if_neg hc2).symm.trans h
    refine q_iload_n hx dX10_would_19 2 rfl ?_
    refine q_iconst (v := 0) hx dX10_would_20 (by decide) ?_
    refine q_bipush (v := 20) hx dX10_would_21 (by decide) ?_
    refine q_callSi (As := [.int a2, .int 0, .int 20]) (rest := []) hx q_kR0 (c_X10_in (q_Xl X) G x (q_up σ 292 4 0) a2 0 20) q_ml_X10_115 q_mn_X10_in q_ms_X10_in (by decide) rfl (Nat.le_of_ble_eq_true rfl) dX10_would_23 rfl ?_
    refine q_if_eq hx 38 dX10_would_26 (by decide) (fun hc3 => ?_) (fun hc3 => ?_)
    · replace h := (if_pos hc3).symm.trans h
      refine q_aload_n hx dX10_would_38 0 rfl ?_
      refine q_iconst (v := 2) hx dX10_would_39 (by decide) ?_
      refine q_callVi (As := [.int 2]) (rest := []) hx q_kR0 (c_X10_no (q_Xl X) G x (q_up σ 292 4 0) 2) q_ml_X10_103 q_mn_X10_no q_mi_X10_no q_se_X10_no (by decide) rfl (Nat.le_of_ble_eq_true rfl) dX10_would_40 (q_ne kd_292 (by decide)) (q_e10 kd_292) rfl rfl rfl ?_
      cases h
      exact q_iret hx hr dX10_would_43
    · replace h := (if_neg hc3).symm.trans h
      refine q_aload_n hx dX10_would_29 0 rfl ?_
      refine q_iload_n hx dX10_would_30 1 rfl ?_
      refine q_iload_n hx dX10_would_31 2 rfl ?_
      refine q_bindE h (fun q4 hq4 h => ?_)
      refine q_callVi (As := [.int a1, .int a2]) (rest := []) hx q_kR0 (c_X10_cellsIn (q_Xl X) G x (q_up σ 292 4 0) a1 a2 hq4) q_ml_X10_279 q_mn_X10_cellsIn q_mi_X10_cellsIn q_se_X10_cellsIn (by decide) rfl (Nat.le_of_ble_eq_true rfl) dX10_would_32 (q_ne kd_292 (by decide)) (q_e10 kd_292) rfl rfl rfl ?_
      refine q_goto hx 43 dX10_would_35 (by decide) ?_
      cases h
      exact q_iret hx hr dX10_would_43
  · replace h := (if_pos hc2).symm.trans h
    refine q_aload_n hx dX10_would_13 0 rfl ?_
    refine q_iconst (v := 1) hx dX10_would_14 (by decide) ?_
    refine q_callVi (As := [.int 1]) (rest := []) hx q_kR0 (c_X10_no (q_Xl X) G x (q_up σ 292 4 0) 1) q_ml_X10_103 q_mn_X10_no q_mi_X10_no q_se_X10_no (by decide) rfl (Nat.le_of_ble_eq_true rfl) dX10_would_15 (q_ne kd_292 (by decide)) (q_e10 kd_292) rfl rfl rfl ?_
    cases h
    exact q_iret hx hr dX10_would_18
-- X10_isAhead
def f_X10_isAhead (σ : q_S) (a1 : Int32) (a2 : Int32) : Option (Int32) :=
  if (a1 < 0 ∨ 5 ≤ a1.toNatClampNeg) then none else if (a2 < 0 ∨ 5 ≤ a2.toNatClampNeg) then none else if (σ 298 a1.toNatClampNeg) = (σ 298 a2.toNatClampNeg) then (Option.bind (f_X10_sv σ a1 0) (fun q4 => Option.bind (f_X10_sv σ a2 0) (fun q5 => if q5 < q4 then (some 1) else (Option.bind (f_X10_sv σ a1 0) (fun q7 => Option.bind (f_X10_sv σ a2 0) (fun q8 => if q7 = q8 then (if a2 ≤ a1 then (some 0) else (some 1)) else (some 0))))))) else (if (a1 < 0 ∨ 5 ≤ a1.toNatClampNeg) then none else if (a2 < 0 ∨ 5 ≤ a2.toNatClampNeg) then none else if (σ 298 a1.toNatClampNeg) ≤ (σ 298 a2.toNatClampNeg) then (some 0) else (some 1))
set_option maxHeartbeats 4000000 in
set_option maxRecDepth 100000 in
theorem c_X10_isAhead (l : Launch) (G : q_G) (x : q_A) (σ : q_S) (a1 : Int32) (a2 : Int32)  {res : Int32} (h : f_X10_isAhead σ a1 a2 = some res) : q_Met l yX10_isAhead cX10_isAhead 3 (some .boolean) 2 G [.ref (G.2.1 + 292), .int a1, .int a2] σ x (q_Qi G x res σ) := by
  refine q_of (by decide) (Nat.le_of_ble_eq_true rfl) (fun X hl0 hx hr => ?_)
  subst hl0
  have hx : q_Cx X G RX10 cX10_isAhead 3 2 := hx
  unfold f_X10_isAhead at h
  show q_Wq X G x 3 (q_MQ X G (q_Qi G x res σ)) 0 0 0 [(0, .ref (G.2.1 + 292)), (1, .int a1), (2, .int a2)] [] σ
  refine q_aload_n hx dX10_isAhead_0 0 rfl ?_
  refine q_get (v := .ref (G.2.1 + 298)) hx q_fl_X10_67 dX10_isAhead_1 (q_ne kd_292 (by decide)) (q_e10 kd_292) rfl ?_
  refine q_iload_n hx dX10_isAhead_4 1 rfl ?_
  by_cases hg1 : (a1 < 0 ∨ 5 ≤ a1.toNatClampNeg)
  · rw [if_pos hg1] at h; exact nomatch h
  replace h := (if_neg hg1).symm.trans h
  refine q_iald (N := 5) hx dX10_isAhead_5 kd_298 (by first | decide | assumption) hg1 ?_
  refine q_aload_n hx dX10_isAhead_6 0 rfl ?_
  refine q_get (v := .ref (G.2.1 + 298)) hx q_fl_X10_67 dX10_isAhead_7 (q_ne kd_292 (by decide)) (q_e10 kd_292) rfl ?_
  refine q_iload_n hx dX10_isAhead_10 2 rfl ?_
  by_cases hg2 : (a2 < 0 ∨ 5 ≤ a2.toNatClampNeg)
  · rw [if_pos hg2] at h; exact nomatch h
  replace h := (if_neg hg2).symm.trans h
  refine q_iald (N := 5) hx dX10_isAhead_11 kd_298 (by first | decide | assumption) hg2 ?_
  refine q_icmp_eq hx 36 dX10_isAhead_12 (by decide) (fun hc3 => ?_) (fun hc3 => ?_)
  · replace h := (if_pos hc3).symm.trans h
    refine q_aload_n hx dX10_isAhead_36 0 rfl ?_
    refine q_iload_n hx dX10_isAhead_37 1 rfl ?_
    refine q_iconst (v := 0) hx dX10_isAhead_38 (by decide) ?_
    refine q_bindE h (fun q4 hq4 h => ?_)
    refine q_callVi (As := [.int a1, .int 0]) (rest := []) hx q_kR0 (c_X10_sv (q_Xl X) G x σ a1 0 hq4) q_ml_X10_111 q_mn_X10_sv q_mi_X10_sv q_se_X10_sv (by decide) rfl (Nat.le_of_ble_eq_true rfl) dX10_isAhead_39 (q_ne kd_292 (by decide)) (q_e10 kd_292) rfl rfl rfl ?_
    refine q_aload_n hx dX10_isAhead_42 0 rfl ?_
    refine q_iload_n hx dX10_isAhead_43 2 rfl ?_
    refine q_iconst (v := 0) hx dX10_isAhead_44 (by decide) ?_
    refine q_bindE h (fun q5 hq5 h => ?_)
    refine q_callVi (As := [.int a2, .int 0]) (rest := [.int q4]) hx q_kR0 (c_X10_sv (q_Xl X) G x σ a2 0 hq5) q_ml_X10_111 q_mn_X10_sv q_mi_X10_sv q_se_X10_sv (by decide) rfl (Nat.le_of_ble_eq_true rfl) dX10_isAhead_45 (q_ne kd_292 (by decide)) (q_e10 kd_292) rfl rfl rfl ?_
    refine q_icmp_gt hx 71 dX10_isAhead_48 (by decide) (fun hc6 => ?_) (fun hc6 => ?_)
    · replace h := (if_pos hc6).symm.trans h
      refine q_iconst (v := 1) hx dX10_isAhead_71 (by decide) ?_
      refine q_goto hx 76 dX10_isAhead_72 (by decide) ?_
      cases h
      exact q_zret hx hr rfl dX10_isAhead_76
    · replace h := (if_neg hc6).symm.trans h
      refine q_aload_n hx dX10_isAhead_51 0 rfl ?_
      refine q_iload_n hx dX10_isAhead_52 1 rfl ?_
      refine q_iconst (v := 0) hx dX10_isAhead_53 (by decide) ?_
      refine q_bindE h (fun q7 hq7 h => ?_)
      refine q_callVi (As := [.int a1, .int 0]) (rest := []) hx q_kR0 (c_X10_sv (q_Xl X) G x σ a1 0 hq7) q_ml_X10_111 q_mn_X10_sv q_mi_X10_sv q_se_X10_sv (by decide) rfl (Nat.le_of_ble_eq_true rfl) dX10_isAhead_54 (q_ne kd_292 (by decide)) (q_e10 kd_292) rfl rfl rfl ?_
      refine q_aload_n hx dX10_isAhead_57 0 rfl ?_
      refine q_iload_n hx dX10_isAhead_58 2 rfl ?_
      refine q_iconst (v := 0) hx dX10_isAhead_59 (by decide) ?_
      refine q_bindE h (fun q8 hq8 h => ?_)
      refine q_callVi (As := [.int a2, .int 0]) (rest := [.int q7]) hx q_kR0 (c_X10_sv (q_Xl X) G x σ a2 0 hq8) q_ml_X10_111 q_mn_X10_sv q_mi_X10_sv q_se_X10_sv (by decide) rfl (Nat.le_of_ble_eq_true rfl) dX10_isAhead_60 (q_ne kd_292 (by decide)) (q_e10 kd_292) rfl rfl rfl ?_
      refine q_icmp_ne hx 75 dX10_isAhead_63 (by decide) (fun hc9 => ?_) (fun hc9 => ?_)
      · replace h := (if_neg hc9).symm.trans h
        refine q_iconst (v := 0) hx dX10_isAhead_75 (by decide) ?_
        cases h
        exact q_zret hx hr rfl dX10_isAhead_76
      · replace h := (if_pos hc9).symm.trans h
        refine q_iload_n hx dX10_isAhead_66 1 rfl ?_
        refine q_iload_n hx dX10_isAhead_67 2 rfl ?_
        refine q_icmp_ge hx 75 dX10_isAhead_68 (by decide) (fun hc10 => ?_) (fun hc10 => ?_)
        · replace h := (if_pos hc10).symm.trans h
          refine q_iconst (v := 0) hx dX10_isAhead_75 (by decide) ?_
          cases h
          exact q_zret hx hr rfl dX10_isAhead_76
        · replace h := (if_neg hc10).symm.trans h
          refine q_iconst (v := 1) hx dX10_isAhead_71 (by decide) ?_
          refine q_goto hx 76 dX10_isAhead_72 (by decide) ?_
          cases h
          exact q_zret hx hr rfl dX10_isAhead_76
  · replace h := (if_neg hc3).symm.trans h
    refine q_aload_n hx dX10_isAhead_15 0 rfl ?_
    refine q_get (v := .ref (G.2.1 + 298)) hx q_fl_X10_67 dX10_isAhead_16 (q_ne kd_292 (by decide)) (q_e10 kd_292) rfl ?_
    refine q_iload_n hx dX10_isAhead_19 1 rfl ?_
    by_cases hg11 : (a1 < 0 ∨ 5 ≤ a1.toNatClampNeg)
    · rw [if_pos hg11] at h; exact nomatch h
    replace h := (if_neg hg11).symm.trans h
    refine q_iald (N := 5) hx dX10_isAhead_20 kd_298 (by first | decide | assumption) hg11 ?_
    refine q_aload_n hx dX10_isAhead_21 0 rfl ?_
    refine q_get (v := .ref (G.2.1 + 298)) hx q_fl_X10_67 dX10_isAhead_22 (q_ne kd_292 (by decide)) (q_e10 kd_292) rfl ?_
    refine q_iload_n hx dX10_isAhead_25 2 rfl ?_
    by_cases hg12 : (a2 < 0 ∨ 5 ≤ a2.toNatClampNeg)
    · rw [if_pos hg12] at h; exact nomatch h
    replace h := (if_neg hg12).symm.trans h
    refine q_iald (N := 5) hx dX10_isAhead_26 kd_298 (by first | decide | assumption) hg12 ?_
    refine q_icmp_le hx 34 dX10_isAhead_27 (by decide) (fun hc13 => ?_) (fun hc13 => ?_)
    · replace h := (if_pos hc13).symm.trans h
      refine q_iconst (v := 0) hx dX10_isAhead_34 (by decide) ?_
      cases h
      exact q_zret hx hr rfl dX10_isAhead_35
    · replace h := (if_neg hc13).symm.trans h
      refine q_iconst (v := 1) hx dX10_isAhead_30 (by decide) ?_
      refine q_goto hx 35 dX10_isAhead_31 (by decide) ?_
      cases h
      exact q_zret hx hr rfl dX10_isAhead_35
-- X10_ranked
def f_X10_ranked_52 (k37 : Int32 → Int32 → q_S → Option (Int32 × q_S)) : Nat → Int32 → Int32 → Int32 → Int32 → q_S → Option (Int32 × q_S)
  | 0, _, _, _, _, _ => none
  | n + 1, v1, v2, v3, v4, σ =>
    if (σ 293 0) ≤ v4 then (if v3 = v1 then (some ((v2, σ))) else (k37 v1 (v2 + 1) σ)) else (Option.bind (f_X10_isAhead σ v4 v2) (fun q5 => if q5 = 0 then (f_X10_ranked_52 k37 n v1 v2 (v3 + 0) (v4 + 1) σ) else (f_X10_ranked_52 k37 n v1 v2 (v3 + 1) (v4 + 1) σ)))
set_option maxHeartbeats 4000000 in
set_option maxRecDepth 100000 in
theorem s_X10_ranked_52 {X : q_X} {G : q_G} {x : q_A} (hx : q_Cx X G RX10 cX10_ranked 5 6) (hr : (q_Xm X).sig.returnType = some .int) {res : Int32 × q_S} {k37 : Int32 → Int32 → q_S → Option (Int32 × q_S)} (hk37 : ∀ (v1 : Int32) (v2 : Int32) (σ : q_S), k37 v1 v2 σ = some res → q_Wq X G x 5 (q_MQ X G (q_Qi G x res.1 res.2)) 0 0 37 [(0, .ref (G.2.1 + 292)), (1, .int v1), (2, .int v2)] [] σ) : ∀ (n : Nat) (v1 : Int32) (v2 : Int32) (v3 : Int32) (v4 : Int32) (σ : q_S), f_X10_ranked_52 k37 n v1 v2 v3 v4 σ = some res → q_Wq X G x 5 (q_MQ X G (q_Qi G x res.1 res.2)) 0 0 52 [(0, .ref (G.2.1 + 292)), (1, .int v1), (2, .int v2), (3, .int v3), (4, .int v4)] [] σ := by
  intro n
  induction n with
  | zero => exact fun _ _ _ _ _ h => nomatch (show (none : Option (Int32 × q_S)) = some res from h)
  | succ n ih =>
    intro v1 v2 v3 v4 σ h
    rw [f_X10_ranked_52] at h
    refine q_iload hx dX10_ranked_52 4 rfl ?_
    refine q_aload_n hx dX10_ranked_54 0 rfl ?_
    refine q_get (v := .ref (G.2.1 + 293)) hx q_fl_X10_7 dX10_ranked_55 (q_ne kd_292 (by decide)) (q_e10 kd_292) rfl ?_
    refine q_iconst (v := 0) hx dX10_ranked_58 (by decide) ?_
    refine q_ialdK (N := 220) hx 0 dX10_ranked_59 kd_293 (by decide) (by decide) (by decide) (by decide) ?_
    refine q_icmp_ge hx 87 dX10_ranked_60 (by decide) (fun hc3 => ?_) (fun hc3 => ?_)
    · replace h := (if_pos hc3).symm.trans h
      refine q_iload_n hx dX10_ranked_87 3 rfl ?_
      refine q_iload_n hx dX10_ranked_88 1 rfl ?_
      refine q_icmp_ne hx 94 dX10_ranked_89 (by decide) (fun hc4 => ?_) (fun hc4 => ?_)
      · replace h := (if_neg hc4).symm.trans h
        refine q_iinc hx [(2, .int (v2 + 1)), (0, .ref (G.2.1 + 292)), (1, .int v1), (3, .int v3), (4, .int v4)] dX10_ranked_94 2 rfl rfl (by decide) rfl ?_
        refine q_goto hx 37 dX10_ranked_97 (by decide) ?_
        refine q_sub [1, 2, 0] rfl ?_
        exact hk37 v1 (v2 + 1) σ h
      · replace h := (if_pos hc4).symm.trans h
        refine q_iload_n hx dX10_ranked_92 2 rfl ?_
        cases h
        exact q_iret hx hr dX10_ranked_93
    · replace h := (if_neg hc3).symm.trans h
      refine q_iload_n hx dX10_ranked_63 3 rfl ?_
      refine q_aload_n hx dX10_ranked_64 0 rfl ?_
      refine q_iload hx dX10_ranked_65 4 rfl ?_
      refine q_iload_n hx dX10_ranked_67 2 rfl ?_
      refine q_bindE h (fun q5 hq5 h => ?_)
      refine q_callVi (As := [.int v4, .int v2]) (rest := [.int v3]) hx q_kR0 (c_X10_isAhead (q_Xl X) G x σ v4 v2 hq5) q_ml_X10_285 q_mn_X10_isAhead q_mi_X10_isAhead q_se_X10_isAhead (by decide) rfl (Nat.le_of_ble_eq_true rfl) dX10_ranked_68 (q_ne kd_292 (by decide)) (q_e10 kd_292) rfl rfl rfl ?_
      refine q_if_eq hx 78 dX10_ranked_71 (by decide) (fun hc6 => ?_) (fun hc6 => ?_)
      · replace h := (if_pos hc6).symm.trans h
        refine q_iconst (v := 0) hx dX10_ranked_78 (by decide) ?_
        refine q_iadd hx dX10_ranked_79 ?_
        refine q_istore_n hx [(3, .int (v3 + 0)), (0, .ref (G.2.1 + 292)), (1, .int v1), (2, .int v2), (4, .int v4)] dX10_ranked_80 (by decide) rfl ?_
        refine q_iinc hx [(4, .int (v4 + 1)), (3, .int (v3 + 0)), (0, .ref (G.2.1 + 292)), (1, .int v1), (2, .int v2)] dX10_ranked_81 4 rfl rfl (by decide) rfl ?_
        refine q_goto hx 52 dX10_ranked_84 (by decide) ?_
        refine q_sub [2, 3, 4, 1, 0] rfl ?_
        exact ih v1 v2 (v3 + 0) (v4 + 1) σ h
      · replace h := (if_neg hc6).symm.trans h
        refine q_iconst (v := 1) hx dX10_ranked_74 (by decide) ?_
        refine q_goto hx 79 dX10_ranked_75 (by decide) ?_
        refine q_iadd hx dX10_ranked_79 ?_
        refine q_istore_n hx [(3, .int (v3 + 1)), (0, .ref (G.2.1 + 292)), (1, .int v1), (2, .int v2), (4, .int v4)] dX10_ranked_80 (by decide) rfl ?_
        refine q_iinc hx [(4, .int (v4 + 1)), (3, .int (v3 + 1)), (0, .ref (G.2.1 + 292)), (1, .int v1), (2, .int v2)] dX10_ranked_81 4 rfl rfl (by decide) rfl ?_
        refine q_goto hx 52 dX10_ranked_84 (by decide) ?_
        refine q_sub [2, 3, 4, 1, 0] rfl ?_
        exact ih v1 v2 (v3 + 1) (v4 + 1) σ h
def f_X10_ranked_37 : Nat → Int32 → Int32 → q_S → Option (Int32 × q_S)
  | 0, _, _, _ => none
  | n + 1, v1, v2, σ =>
    if (σ 293 0) ≤ v2 then (some (((f_X10_no σ 1).1, (f_X10_no σ 1).2))) else (f_X10_ranked_52 (f_X10_ranked_37 n) q_fu v1 v2 0 0 σ)
set_option maxHeartbeats 4000000 in
set_option maxRecDepth 100000 in
theorem s_X10_ranked_37 {X : q_X} {G : q_G} {x : q_A} (hx : q_Cx X G RX10 cX10_ranked 5 6) (hr : (q_Xm X).sig.returnType = some .int) {res : Int32 × q_S} : ∀ (n : Nat) (v1 : Int32) (v2 : Int32) (σ : q_S), f_X10_ranked_37 n v1 v2 σ = some res → q_Wq X G x 5 (q_MQ X G (q_Qi G x res.1 res.2)) 0 0 37 [(0, .ref (G.2.1 + 292)), (1, .int v1), (2, .int v2)] [] σ := by
  intro n
  induction n with
  | zero => exact fun _ _ _ h => nomatch (show (none : Option (Int32 × q_S)) = some res from h)
  | succ n ih =>
    intro v1 v2 σ h
    rw [f_X10_ranked_37] at h
    refine q_iload_n hx dX10_ranked_37 2 rfl ?_
    refine q_aload_n hx dX10_ranked_38 0 rfl ?_
    refine q_get (v := .ref (G.2.1 + 293)) hx q_fl_X10_7 dX10_ranked_39 (q_ne kd_292 (by decide)) (q_e10 kd_292) rfl ?_
    refine q_iconst (v := 0) hx dX10_ranked_42 (by decide) ?_
    refine q_ialdK (N := 220) hx 0 dX10_ranked_43 kd_293 (by decide) (by decide) (by decide) (by decide) ?_
    refine q_icmp_ge hx 100 dX10_ranked_44 (by decide) (fun hc2 => ?_) (fun hc2 => ?_)
    · replace h := (if_pos hc2).symm.trans h
      refine q_aload_n hx dX10_ranked_100 0 rfl ?_
      refine q_iconst (v := 1) hx dX10_ranked_101 (by decide) ?_
      refine q_callVi (As := [.int 1]) (rest := []) hx q_kR0 (c_X10_no (q_Xl X) G x σ 1) q_ml_X10_103 q_mn_X10_no q_mi_X10_no q_se_X10_no (by decide) rfl (Nat.le_of_ble_eq_true rfl) dX10_ranked_102 (q_ne kd_292 (by decide)) (q_e10 kd_292) rfl rfl rfl ?_
      cases h
      exact q_iret hx hr dX10_ranked_105
    · replace h := (if_neg hc2).symm.trans h
      refine q_iconst (v := 0) hx dX10_ranked_47 (by decide) ?_
      refine q_istore_n hx [(3, .int 0), (0, .ref (G.2.1 + 292)), (1, .int v1), (2, .int v2)] dX10_ranked_48 (by decide) rfl ?_
      refine q_iconst (v := 0) hx dX10_ranked_49 (by decide) ?_
      refine q_istore hx [(4, .int 0), (3, .int 0), (0, .ref (G.2.1 + 292)), (1, .int v1), (2, .int v2)] dX10_ranked_50 (by decide) rfl ?_
      refine q_sub [2, 3, 4, 1, 0] rfl ?_
      exact s_X10_ranked_52 hx hr (fun v1 v2 σ h => ih v1 v2 σ h) q_fu v1 v2 0 0 σ h
def f_X10_ranked_7 : Nat → Int32 → Int32 → q_S → Option (Int32 × q_S)
  | 0, _, _, _ => none
  | n + 1, v1, v2, σ =>
    if (σ 293 0) ≤ v2 then (f_X10_ranked_37 q_fu v1 0 σ) else (Option.bind (f_X10_cellsIn σ v2 0) (fun q7 => if (v2 < 0 ∨ 5 ≤ v2.toNatClampNeg) then none else f_X10_ranked_7 n v1 (v2 + 1) (q_up σ 298 v2.toNatClampNeg q7)))
set_option maxHeartbeats 4000000 in
set_option maxRecDepth 100000 in
theorem s_X10_ranked_7 {X : q_X} {G : q_G} {x : q_A} (hx : q_Cx X G RX10 cX10_ranked 5 6) (hr : (q_Xm X).sig.returnType = some .int) {res : Int32 × q_S} : ∀ (n : Nat) (v1 : Int32) (v2 : Int32) (σ : q_S), f_X10_ranked_7 n v1 v2 σ = some res → q_Wq X G x 5 (q_MQ X G (q_Qi G x res.1 res.2)) 0 0 7 [(0, .ref (G.2.1 + 292)), (1, .int v1), (2, .int v2)] [] σ := by
  intro n
  induction n with
  | zero => exact fun _ _ _ h => nomatch (show (none : Option (Int32 × q_S)) = some res from h)
  | succ n ih =>
    intro v1 v2 σ h
    rw [f_X10_ranked_7] at h
    refine q_iload_n hx dX10_ranked_7 2 rfl ?_
    refine q_aload_n hx dX10_ranked_8 0 rfl ?_
    refine q_get (v := .ref (G.2.1 + 293)) hx q_fl_X10_7 dX10_ranked_9 (q_ne kd_292 (by decide)) (q_e10 kd_292) rfl ?_
    refine q_iconst (v := 0) hx dX10_ranked_12 (by decide) ?_
    refine q_ialdK (N := 220) hx 0 dX10_ranked_13 kd_293 (by decide) (by decide) (by decide) (by decide) ?_
    refine q_icmp_ge hx 35 dX10_ranked_14 (by decide) (fun hc1 => ?_) (fun hc1 => ?_)
    · replace h := (if_pos hc1).symm.trans h
      refine q_iconst (v := 0) hx dX10_ranked_35 (by decide) ?_
      refine q_istore_n hx [(2, .int 0), (0, .ref (G.2.1 + 292)), (1, .int v1)] dX10_ranked_36 (by decide) rfl ?_
      refine q_sub [1, 2, 0] rfl ?_
      exact s_X10_ranked_37 hx hr q_fu v1 0 σ h
    · replace h := (if_neg hc1).symm.trans h
      refine q_aload_n hx dX10_ranked_17 0 rfl ?_
      refine q_get (v := .ref (G.2.1 + 298)) hx q_fl_X10_67 dX10_ranked_18 (q_ne kd_292 (by decide)) (q_e10 kd_292) rfl ?_
      refine q_iload_n hx dX10_ranked_21 2 rfl ?_
      refine q_aload_n hx dX10_ranked_22 0 rfl ?_
      refine q_iload_n hx dX10_ranked_23 2 rfl ?_
      refine q_iconst (v := 0) hx dX10_ranked_24 (by decide) ?_
      refine q_bindE h (fun q7 hq7 h => ?_)
      refine q_callVi (As := [.int v2, .int 0]) (rest := [.int v2, .ref (G.2.1 + 298)]) hx q_kR0 (c_X10_cellsIn (q_Xl X) G x σ v2 0 hq7) q_ml_X10_279 q_mn_X10_cellsIn q_mi_X10_cellsIn q_se_X10_cellsIn (by decide) rfl (Nat.le_of_ble_eq_true rfl) dX10_ranked_25 (q_ne kd_292 (by decide)) (q_e10 kd_292) rfl rfl rfl ?_
      by_cases hg8 : (v2 < 0 ∨ 5 ≤ v2.toNatClampNeg)
      · rw [if_pos hg8] at h; exact nomatch h
      replace h := (if_neg hg8).symm.trans h
      refine q_iast (N := 5) hx dX10_ranked_28 kd_298 (by first | decide | assumption) hg8 ?_
      refine q_iinc hx [(2, .int (v2 + 1)), (0, .ref (G.2.1 + 292)), (1, .int v1)] dX10_ranked_29 2 rfl rfl (by decide) rfl ?_
      refine q_goto hx 7 dX10_ranked_32 (by decide) ?_
      refine q_sub [1, 2, 0] rfl ?_
      exact ih v1 (v2 + 1) (q_up σ 298 v2.toNatClampNeg q7) h
def f_X10_ranked (σ : q_S) (a1 : Int32) : Option (Int32 × q_S) :=
  f_X10_ranked_7 q_fu a1 0 (q_up σ 292 4 0)
set_option maxHeartbeats 4000000 in
set_option maxRecDepth 100000 in
theorem c_X10_ranked (l : Launch) (G : q_G) (x : q_A) (σ : q_S) (a1 : Int32)  {res : Int32 × q_S} (h : f_X10_ranked σ a1 = some res) : q_Met l yX10_ranked cX10_ranked 5 (some .int) 6 G [.ref (G.2.1 + 292), .int a1] σ x (q_Qi G x res.1 res.2) := by
  refine q_of (by decide) (Nat.le_of_ble_eq_true rfl) (fun X hl0 hx hr => ?_)
  subst hl0
  have hx : q_Cx X G RX10 cX10_ranked 5 6 := hx
  unfold f_X10_ranked at h
  show q_Wq X G x 5 (q_MQ X G (q_Qi G x res.1 res.2)) 0 0 0 [(0, .ref (G.2.1 + 292)), (1, .int a1)] [] σ
  refine q_aload_n hx dX10_ranked_0 0 rfl ?_
  refine q_iconst (v := 0) hx dX10_ranked_1 (by decide) ?_
  refine q_put (v := 0) hx q_fl_X10_22 q_fp_10_4 dX10_ranked_2 (q_ne kd_292 (by decide)) (q_e10 kd_292) (by rw [q_l10]; decide) rfl rfl (by rw [q_e10 kd_292, q_s10_4]) ?_
  refine q_iconst (v := 0) hx dX10_ranked_5 (by decide) ?_
  refine q_istore_n hx [(2, .int 0), (0, .ref (G.2.1 + 292)), (1, .int a1)] dX10_ranked_6 (by decide) rfl ?_
  refine q_sub [1, 2, 0] rfl ?_
  exact s_X10_ranked_7 hx hr q_fu a1 0 (q_up σ 292 4 0) h
-- X10_nextLit
def f_X10_nextLit_23 : Nat → Int32 → Int32 → q_S → Option (Int32 × q_S)
  | 0, _, _, _ => none
  | n + 1, v1, v2, σ =>
    if (σ 293 1) ≤ v2 then (if (σ 292 4) ≤ 0 then (some (((σ 293 2) + v1, σ))) else (some ((0, σ)))) else (Option.bind (f_X10_litIn σ v2) (fun q4 => if v1 ≤ q4 then (f_X10_nextLit_23 n v1 (v2 + 1) σ) else (Option.bind (f_X10_litIn σ v2) (fun q6 => f_X10_nextLit_23 n q6 (v2 + 1) σ))))
set_option maxHeartbeats 4000000 in
set_option maxRecDepth 100000 in
theorem s_X10_nextLit_23 {X : q_X} {G : q_G} {x : q_A} (hx : q_Cx X G RX10 cX10_nextLit 3 3) (hr : (q_Xm X).sig.returnType = some .int) {res : Int32 × q_S} : ∀ (n : Nat) (v1 : Int32) (v2 : Int32) (σ : q_S), f_X10_nextLit_23 n v1 v2 σ = some res → q_Wq X G x 3 (q_MQ X G (q_Qi G x res.1 res.2)) 0 0 23 [(0, .ref (G.2.1 + 292)), (1, .int v1), (2, .int v2)] [] σ := by
  intro n
  induction n with
  | zero => exact fun _ _ _ h => nomatch (show (none : Option (Int32 × q_S)) = some res from h)
  | succ n ih =>
    intro v1 v2 σ h
    rw [f_X10_nextLit_23] at h
    refine q_iload_n hx dX10_nextLit_23 2 rfl ?_
    refine q_aload_n hx dX10_nextLit_24 0 rfl ?_
    refine q_get (v := .ref (G.2.1 + 293)) hx q_fl_X10_7 dX10_nextLit_25 (q_ne kd_292 (by decide)) (q_e10 kd_292) rfl ?_
    refine q_iconst (v := 1) hx dX10_nextLit_28 (by decide) ?_
    refine q_ialdK (N := 220) hx 1 dX10_nextLit_29 kd_293 (by decide) (by decide) (by decide) (by decide) ?_
    refine q_icmp_ge hx 58 dX10_nextLit_30 (by decide) (fun hc2 => ?_) (fun hc2 => ?_)
    · replace h := (if_pos hc2).symm.trans h
      refine q_aload_n hx dX10_nextLit_58 0 rfl ?_
      refine q_get (v := .int (σ 292 4)) hx q_fl_X10_22 dX10_nextLit_59 (q_ne kd_292 (by decide)) (q_e10 kd_292) rfl ?_
      refine q_if_le hx 69 dX10_nextLit_62 (by decide) (fun hc3 => ?_) (fun hc3 => ?_)
      · replace h := (if_pos hc3).symm.trans h
        refine q_aload_n hx dX10_nextLit_69 0 rfl ?_
        refine q_get (v := .ref (G.2.1 + 293)) hx q_fl_X10_7 dX10_nextLit_70 (q_ne kd_292 (by decide)) (q_e10 kd_292) rfl ?_
        refine q_iconst (v := 2) hx dX10_nextLit_73 (by decide) ?_
        refine q_ialdK (N := 220) hx 2 dX10_nextLit_74 kd_293 (by decide) (by decide) (by decide) (by decide) ?_
        refine q_iload_n hx dX10_nextLit_75 1 rfl ?_
        refine q_iadd hx dX10_nextLit_76 ?_
        cases h
        exact q_iret hx hr dX10_nextLit_77
      · replace h := (if_neg hc3).symm.trans h
        refine q_iconst (v := 0) hx dX10_nextLit_65 (by decide) ?_
        refine q_goto hx 77 dX10_nextLit_66 (by decide) ?_
        cases h
        exact q_iret hx hr dX10_nextLit_77
    · replace h := (if_neg hc2).symm.trans h
      refine q_aload_n hx dX10_nextLit_33 0 rfl ?_
      refine q_iload_n hx dX10_nextLit_34 2 rfl ?_
      refine q_bindE h (fun q4 hq4 h => ?_)
      refine q_callVi (As := [.int v2]) (rest := []) hx q_kR0 (c_X10_litIn (q_Xl X) G x σ v2 hq4) q_ml_X10_282 q_mn_X10_litIn q_mi_X10_litIn q_se_X10_litIn (by decide) rfl (Nat.le_of_ble_eq_true rfl) dX10_nextLit_35 (q_ne kd_292 (by decide)) (q_e10 kd_292) rfl rfl rfl ?_
      refine q_iload_n hx dX10_nextLit_38 1 rfl ?_
      refine q_icmp_ge hx 50 dX10_nextLit_39 (by decide) (fun hc5 => ?_) (fun hc5 => ?_)
      · replace h := (if_pos hc5).symm.trans h
        refine q_iload_n hx dX10_nextLit_50 1 rfl ?_
        refine q_istore_n hx [(1, .int v1), (0, .ref (G.2.1 + 292)), (2, .int v2)] dX10_nextLit_51 (by decide) rfl ?_
        refine q_iinc hx [(2, .int (v2 + 1)), (1, .int v1), (0, .ref (G.2.1 + 292))] dX10_nextLit_52 2 rfl rfl (by decide) rfl ?_
        refine q_goto hx 23 dX10_nextLit_55 (by decide) ?_
        refine q_sub [2, 1, 0] rfl ?_
        exact ih v1 (v2 + 1) σ h
      · replace h := (if_neg hc5).symm.trans h
        refine q_aload_n hx dX10_nextLit_42 0 rfl ?_
        refine q_iload_n hx dX10_nextLit_43 2 rfl ?_
        refine q_bindE h (fun q6 hq6 h => ?_)
        refine q_callVi (As := [.int v2]) (rest := []) hx q_kR0 (c_X10_litIn (q_Xl X) G x σ v2 hq6) q_ml_X10_282 q_mn_X10_litIn q_mi_X10_litIn q_se_X10_litIn (by decide) rfl (Nat.le_of_ble_eq_true rfl) dX10_nextLit_44 (q_ne kd_292 (by decide)) (q_e10 kd_292) rfl rfl rfl ?_
        refine q_goto hx 51 dX10_nextLit_47 (by decide) ?_
        refine q_istore_n hx [(1, .int q6), (0, .ref (G.2.1 + 292)), (2, .int v2)] dX10_nextLit_51 (by decide) rfl ?_
        refine q_iinc hx [(2, .int (v2 + 1)), (1, .int q6), (0, .ref (G.2.1 + 292))] dX10_nextLit_52 2 rfl rfl (by decide) rfl ?_
        refine q_goto hx 23 dX10_nextLit_55 (by decide) ?_
        refine q_sub [2, 1, 0] rfl ?_
        exact ih q6 (v2 + 1) σ h
def f_X10_nextLit (σ : q_S) : Option (Int32 × q_S) :=
  if (σ 293 1) = 0 then (f_X10_nextLit_23 q_fu 9 0 (q_up σ 292 4 1)) else (f_X10_nextLit_23 q_fu 9 0 (q_up σ 292 4 0))
set_option maxHeartbeats 4000000 in
set_option maxRecDepth 100000 in
theorem c_X10_nextLit (l : Launch) (G : q_G) (x : q_A) (σ : q_S)   {res : Int32 × q_S} (h : f_X10_nextLit σ = some res) : q_Met l yX10_nextLit cX10_nextLit 3 (some .int) 3 G [.ref (G.2.1 + 292)] σ x (q_Qi G x res.1 res.2) := by
  refine q_of (by decide) (Nat.le_of_ble_eq_true rfl) (fun X hl0 hx hr => ?_)
  subst hl0
  have hx : q_Cx X G RX10 cX10_nextLit 3 3 := hx
  unfold f_X10_nextLit at h
  show q_Wq X G x 3 (q_MQ X G (q_Qi G x res.1 res.2)) 0 0 0 [(0, .ref (G.2.1 + 292))] [] σ
  refine q_aload_n hx dX10_nextLit_0 0 rfl ?_
  refine q_aload_n hx dX10_nextLit_1 0 rfl ?_
  refine q_get (v := .ref (G.2.1 + 293)) hx q_fl_X10_7 dX10_nextLit_2 (q_ne kd_292 (by decide)) (q_e10 kd_292) rfl ?_
  refine q_iconst (v := 1) hx dX10_nextLit_5 (by decide) ?_
  refine q_ialdK (N := 220) hx 1 dX10_nextLit_6 kd_293 (by decide) (by decide) (by decide) (by decide) ?_
  refine q_if_ne hx 14 dX10_nextLit_7 (by decide) (fun hc1 => ?_) (fun hc1 => ?_)
  · replace h := (if_neg hc1).symm.trans h
    refine q_iconst (v := 0) hx dX10_nextLit_14 (by decide) ?_
    refine q_put (v := 0) hx q_fl_X10_22 q_fp_10_4 dX10_nextLit_15 (q_ne kd_292 (by decide)) (q_e10 kd_292) (by rw [q_l10]; decide) rfl rfl (by rw [q_e10 kd_292, q_s10_4]) ?_
    refine q_bipush (v := 9) hx dX10_nextLit_18 (by decide) ?_
    refine q_istore_n hx [(1, .int 9), (0, .ref (G.2.1 + 292))] dX10_nextLit_20 (by decide) rfl ?_
    refine q_iconst (v := 0) hx dX10_nextLit_21 (by decide) ?_
    refine q_istore_n hx [(2, .int 0), (1, .int 9), (0, .ref (G.2.1 + 292))] dX10_nextLit_22 (by decide) rfl ?_
    refine q_sub [2, 1, 0] rfl ?_
    exact s_X10_nextLit_23 hx hr q_fu 9 0 (q_up σ 292 4 0) h
  · replace h := (if_pos hc1).symm.trans h
    refine q_iconst (v := 1) hx dX10_nextLit_10 (by decide) ?_
    refine q_goto hx 15 dX10_nextLit_11 (by decide) ?_
    refine q_put (v := 1) hx q_fl_X10_22 q_fp_10_4 dX10_nextLit_15 (q_ne kd_292 (by decide)) (q_e10 kd_292) (by rw [q_l10]; decide) rfl rfl (by rw [q_e10 kd_292, q_s10_4]) ?_
    refine q_bipush (v := 9) hx dX10_nextLit_18 (by decide) ?_
    refine q_istore_n hx [(1, .int 9), (0, .ref (G.2.1 + 292))] dX10_nextLit_20 (by decide) rfl ?_
    refine q_iconst (v := 0) hx dX10_nextLit_21 (by decide) ?_
    refine q_istore_n hx [(2, .int 0), (1, .int 9), (0, .ref (G.2.1 + 292))] dX10_nextLit_22 (by decide) rfl ?_
    refine q_sub [2, 1, 0] rfl ?_
    exact s_X10_nextLit_23 hx hr q_fu 9 0 (q_up σ 292 4 1) h
-- X10_isWell
def f_X10_isWell (σ : q_S) : Int32 × q_S :=
  (1, q_up σ 292 4 0)
set_option maxHeartbeats 4000000 in
set_option maxRecDepth 100000 in
theorem ca_X10_isWell (l : Launch) (G : q_G) (x : q_A) (σ : q_S)   {res : Int32 × q_S} (h : f_X10_isWell σ = res) : q_Met l yX10_isWell cX10_isWell 1 (some .boolean) 1 G [.ref (G.2.1 + 292)] σ x (q_Qi G x res.1 res.2) := by
  refine q_of (by decide) (Nat.le_of_ble_eq_true rfl) (fun X hl0 hx hr => ?_)
  subst hl0
  have hx : q_Cx X G RX10 cX10_isWell 1 1 := hx
  unfold f_X10_isWell at h
  show q_Wq X G x 1 (q_MQ X G (q_Qi G x res.1 res.2)) 0 0 0 [(0, .ref (G.2.1 + 292))] [] σ
  refine q_aload_n hx dX10_isWell_0 0 rfl ?_
  refine q_iconst (v := 0) hx dX10_isWell_1 (by decide) ?_
  refine q_put (v := 0) hx q_fl_X10_22 q_fp_10_4 dX10_isWell_2 (q_ne kd_292 (by decide)) (q_e10 kd_292) (by rw [q_l10]; decide) rfl rfl (by rw [q_e10 kd_292, q_s10_4]) ?_
  refine q_iconst (v := 1) hx dX10_isWell_5 (by decide) ?_
  subst h
  exact q_zret (v := 1) hx hr rfl dX10_isWell_6
theorem c_X10_isWell (l : Launch) (G : q_G) (x : q_A) (σ : q_S)   : q_Met l yX10_isWell cX10_isWell 1 (some .boolean) 1 G [.ref (G.2.1 + 292)] σ x (q_Qi G x (f_X10_isWell σ).1 (f_X10_isWell σ).2) := ca_X10_isWell l G x σ  rfl
-- X10_type
def f_X10_type (σ : q_S) (a1 : Int32) : Option (Int32 × q_S) :=
  if ((q_up σ 292 4 0) 292 22) = 60 then (some (((f_X10_no (q_up σ 292 4 0) 1).1, (f_X10_no (q_up σ 292 4 0) 1).2))) else (if (((q_up σ 292 4 0) 292 22) < 0 ∨ 60 ≤ ((q_up σ 292 4 0) 292 22).toNatClampNeg) then none else some (((q_up (q_up (q_up σ 292 4 0) 299 ((q_up σ 292 4 0) 292 22).toNatClampNeg a1) 292 22 (((q_up (q_up σ 292 4 0) 299 ((q_up σ 292 4 0) 292 22).toNatClampNeg a1) 292 22) + 1)) 292 22, q_up (q_up (q_up σ 292 4 0) 299 ((q_up σ 292 4 0) 292 22).toNatClampNeg a1) 292 22 (((q_up (q_up σ 292 4 0) 299 ((q_up σ 292 4 0) 292 22).toNatClampNeg a1) 292 22) + 1))))
set_option maxHeartbeats 4000000 in
set_option maxRecDepth 100000 in
theorem c_X10_type (l : Launch) (G : q_G) (x : q_A) (σ : q_S) (a1 : Int32)  {res : Int32 × q_S} (h : f_X10_type σ a1 = some res) : q_Met l yX10_type cX10_type 2 (some .int) 2 G [.ref (G.2.1 + 292), .int a1] σ x (q_Qi G x res.1 res.2) := by
  refine q_of (by decide) (Nat.le_of_ble_eq_true rfl) (fun X hl0 hx hr => ?_)
  subst hl0
  have hx : q_Cx X G RX10 cX10_type 2 2 := hx
  unfold f_X10_type at h
  show q_Wq X G x 2 (q_MQ X G (q_Qi G x res.1 res.2)) 0 0 0 [(0, .ref (G.2.1 + 292)), (1, .int a1)] [] σ
  refine q_aload_n hx dX10_type_0 0 rfl ?_
  refine q_iconst (v := 0) hx dX10_type_1 (by decide) ?_
  refine q_put (v := 0) hx q_fl_X10_22 q_fp_10_4 dX10_type_2 (q_ne kd_292 (by decide)) (q_e10 kd_292) (by rw [q_l10]; decide) rfl rfl (by rw [q_e10 kd_292, q_s10_4]) ?_
  refine q_aload_n hx dX10_type_5 0 rfl ?_
  refine q_get (v := .int ((q_up σ 292 4 0) 292 22)) hx q_fl_X10_79 dX10_type_6 (q_ne kd_292 (by decide)) (q_e10 kd_292) rfl ?_
  refine q_bipush (v := 60) hx dX10_type_9 (by decide) ?_
  refine q_icmp_ne hx 20 dX10_type_11 (by decide) (fun hc1 => ?_) (fun hc1 => ?_)
  · replace h := (if_neg hc1).symm.trans h
    refine q_aload_n hx dX10_type_20 0 rfl ?_
    refine q_get (v := .ref (G.2.1 + 299)) hx q_fl_X10_70 dX10_type_21 (q_ne kd_292 (by decide)) (q_e10 kd_292) rfl ?_
    refine q_aload_n hx dX10_type_24 0 rfl ?_
    refine q_get (v := .int ((q_up σ 292 4 0) 292 22)) hx q_fl_X10_79 dX10_type_25 (q_ne kd_292 (by decide)) (q_e10 kd_292) rfl ?_
    refine q_iload_n hx dX10_type_28 1 rfl ?_
    by_cases hg2 : (((q_up σ 292 4 0) 292 22) < 0 ∨ 60 ≤ ((q_up σ 292 4 0) 292 22).toNatClampNeg)
    · rw [if_pos hg2] at h; exact nomatch h
    replace h := (if_neg hg2).symm.trans h
    refine q_iast (N := 60) hx dX10_type_29 kd_299 (by first | decide | assumption) hg2 ?_
    refine q_aload_n hx dX10_type_30 0 rfl ?_
    refine q_dup hx dX10_type_31 rfl ?_
    refine q_get (v := .int ((q_up (q_up σ 292 4 0) 299 ((q_up σ 292 4 0) 292 22).toNatClampNeg a1) 292 22)) hx q_fl_X10_79 dX10_type_32 (q_ne kd_292 (by decide)) (q_e10 kd_292) rfl ?_
    refine q_iconst (v := 1) hx dX10_type_35 (by decide) ?_
    refine q_iadd hx dX10_type_36 ?_
    refine q_put (v := ((q_up (q_up σ 292 4 0) 299 ((q_up σ 292 4 0) 292 22).toNatClampNeg a1) 292 22) + 1) hx q_fl_X10_79 q_fp_10_22 dX10_type_37 (q_ne kd_292 (by decide)) (q_e10 kd_292) (by rw [q_l10]; decide) rfl rfl (by rw [q_e10 kd_292, q_s10_22]) ?_
    refine q_aload_n hx dX10_type_40 0 rfl ?_
    refine q_get (v := .int ((q_up (q_up (q_up σ 292 4 0) 299 ((q_up σ 292 4 0) 292 22).toNatClampNeg a1) 292 22 (((q_up (q_up σ 292 4 0) 299 ((q_up σ 292 4 0) 292 22).toNatClampNeg a1) 292 22) + 1)) 292 22)) hx q_fl_X10_79 dX10_type_41 (q_ne kd_292 (by decide)) (q_e10 kd_292) rfl ?_
    cases h
    exact q_iret hx hr dX10_type_44
  · replace h := (if_pos hc1).symm.trans h
    refine q_aload_n hx dX10_type_14 0 rfl ?_
    refine q_iconst (v := 1) hx dX10_type_15 (by decide) ?_
    refine q_callVi (As := [.int 1]) (rest := []) hx q_kR0 (c_X10_no (q_Xl X) G x (q_up σ 292 4 0) 1) q_ml_X10_103 q_mn_X10_no q_mi_X10_no q_se_X10_no (by decide) rfl (Nat.le_of_ble_eq_true rfl) dX10_type_16 (q_ne kd_292 (by decide)) (q_e10 kd_292) rfl rfl rfl ?_
    cases h
    exact q_iret hx hr dX10_type_19
-- X10_mark
def f_X10_mark (σ : q_S) : Option (Int32) :=
  if (σ 292 26) = 0 then (if (σ 292 23) ≤ (σ 292 24) then (some ((-1))) else (if ((σ 292 24) < 0 ∨ 60 ≤ (σ 292 24).toNatClampNeg) then none else some (σ 299 (σ 292 24).toNatClampNeg))) else (some ((-1)))
set_option maxHeartbeats 4000000 in
set_option maxRecDepth 100000 in
theorem c_X10_mark (l : Launch) (G : q_G) (x : q_A) (σ : q_S)   {res : Int32} (h : f_X10_mark σ = some res) : q_Met l yX10_mark cX10_mark 1 (some .int) 1 G [.ref (G.2.1 + 292)] σ x (q_Qi G x res σ) := by
  refine q_of (by decide) (Nat.le_of_ble_eq_true rfl) (fun X hl0 hx hr => ?_)
  subst hl0
  have hx : q_Cx X G RX10 cX10_mark 1 1 := hx
  unfold f_X10_mark at h
  show q_Wq X G x 1 (q_MQ X G (q_Qi G x res σ)) 0 0 0 [(0, .ref (G.2.1 + 292))] [] σ
  refine q_aload_n hx dX10_mark_0 0 rfl ?_
  refine q_get (v := .int (σ 292 26)) hx q_fl_X10_91 dX10_mark_1 (q_ne kd_292 (by decide)) (q_e10 kd_292) rfl ?_
  refine q_if_ne hx 30 dX10_mark_4 (by decide) (fun hc1 => ?_) (fun hc1 => ?_)
  · replace h := (if_neg hc1).symm.trans h
    refine q_iconst (v := (-1)) hx dX10_mark_30 (by decide) ?_
    cases h
    exact q_iret hx hr dX10_mark_31
  · replace h := (if_pos hc1).symm.trans h
    refine q_aload_n hx dX10_mark_7 0 rfl ?_
    refine q_get (v := .int (σ 292 24)) hx q_fl_X10_85 dX10_mark_8 (q_ne kd_292 (by decide)) (q_e10 kd_292) rfl ?_
    refine q_aload_n hx dX10_mark_11 0 rfl ?_
    refine q_get (v := .int (σ 292 23)) hx q_fl_X10_82 dX10_mark_12 (q_ne kd_292 (by decide)) (q_e10 kd_292) rfl ?_
    refine q_icmp_ge hx 30 dX10_mark_15 (by decide) (fun hc2 => ?_) (fun hc2 => ?_)
    · replace h := (if_pos hc2).symm.trans h
      refine q_iconst (v := (-1)) hx dX10_mark_30 (by decide) ?_
      cases h
      exact q_iret hx hr dX10_mark_31
    · replace h := (if_neg hc2).symm.trans h
      refine q_aload_n hx dX10_mark_18 0 rfl ?_
      refine q_get (v := .ref (G.2.1 + 299)) hx q_fl_X10_70 dX10_mark_19 (q_ne kd_292 (by decide)) (q_e10 kd_292) rfl ?_
      refine q_aload_n hx dX10_mark_22 0 rfl ?_
      refine q_get (v := .int (σ 292 24)) hx q_fl_X10_85 dX10_mark_23 (q_ne kd_292 (by decide)) (q_e10 kd_292) rfl ?_
      by_cases hg3 : ((σ 292 24) < 0 ∨ 60 ≤ (σ 292 24).toNatClampNeg)
      · rw [if_pos hg3] at h; exact nomatch h
      replace h := (if_neg hg3).symm.trans h
      refine q_iald (N := 60) hx dX10_mark_26 kd_299 (by first | decide | assumption) hg3 ?_
      refine q_goto hx 31 dX10_mark_27 (by decide) ?_
      cases h
      exact q_iret hx hr dX10_mark_31
-- X10_isDigit
def f_X10_isDigit (σ : q_S) : Option (Int32) :=
  Option.bind (f_X10_mark σ) (fun q1 => if ((f_X10_in q1 48 57) = 0 ∨ (f_X10_in q1 48 57) = 1) then some ((f_X10_in q1 48 57)) else none)
set_option maxHeartbeats 4000000 in
set_option maxRecDepth 100000 in
theorem c_X10_isDigit (l : Launch) (G : q_G) (x : q_A) (σ : q_S)   {res : Int32} (h : f_X10_isDigit σ = some res) : q_Met l yX10_isDigit cX10_isDigit 1 (some .boolean) 2 G [.ref (G.2.1 + 292)] σ x (q_Qi G x res σ) := by
  refine q_of (by decide) (Nat.le_of_ble_eq_true rfl) (fun X hl0 hx hr => ?_)
  subst hl0
  have hx : q_Cx X G RX10 cX10_isDigit 1 2 := hx
  unfold f_X10_isDigit at h
  show q_Wq X G x 1 (q_MQ X G (q_Qi G x res σ)) 0 0 0 [(0, .ref (G.2.1 + 292))] [] σ
  refine q_aload_n hx dX10_isDigit_0 0 rfl ?_
  refine q_bindE h (fun q1 hq1 h => ?_)
  refine q_callVi (As := []) (rest := []) hx q_kR0 (c_X10_mark (q_Xl X) G x σ  hq1) q_ml_X10_288 q_mn_X10_mark q_mi_X10_mark q_se_X10_mark (by decide) rfl (Nat.le_of_ble_eq_true rfl) dX10_isDigit_1 (q_ne kd_292 (by decide)) (q_e10 kd_292) rfl rfl rfl ?_
  refine q_bipush (v := 48) hx dX10_isDigit_4 (by decide) ?_
  refine q_bipush (v := 57) hx dX10_isDigit_6 (by decide) ?_
  refine q_callSi (As := [.int q1, .int 48, .int 57]) (rest := []) hx q_kR0 (c_X10_in (q_Xl X) G x σ q1 48 57) q_ml_X10_115 q_mn_X10_in q_ms_X10_in (by decide) rfl (Nat.le_of_ble_eq_true rfl) dX10_isDigit_8 rfl ?_
  by_cases hg2 : ((f_X10_in q1 48 57) = 0 ∨ (f_X10_in q1 48 57) = 1)
  case neg => rw [if_neg hg2] at h; exact nomatch h
  replace h := (if_pos hg2).symm.trans h
  cases h
  exact q_zret hx hr (q_zn hg2) dX10_isDigit_11
-- X10_blank
def f_X10_blank_19 (s0 : Int32) (s1 : Int32) (σ : q_S) : Option (q_S) :=
  if (s1 ||| s0 = 0 ∨ s1 ||| s0 = 1) then if ((q_up σ 292 26 (s1 ||| s0)) 292 26) = 0 then (some (q_up (q_up σ 292 26 (s1 ||| s0)) 292 24 (((q_up σ 292 26 (s1 ||| s0)) 292 24) + 1))) else (some (q_up (q_up σ 292 26 (s1 ||| s0)) 292 24 (((q_up σ 292 26 (s1 ||| s0)) 292 24) + 0))) else none
set_option maxHeartbeats 4000000 in
set_option maxRecDepth 100000 in
theorem s_X10_blank_19 {X : q_X} {G : q_G} {x : q_A} (hx : q_Cx X G RX10 cX10_blank 1 2) (hr : (q_Xm X).sig.returnType = none) {res : q_S} : ∀ (s0 : Int32) (s1 : Int32) (σ : q_S), f_X10_blank_19 s0 s1 σ = some res → q_Wq X G x 1 (q_MQ X G (q_Qv G x res)) 0 0 19 [(0, .ref (G.2.1 + 292))] [.int s0, .int s1, .ref (G.2.1 + 292)] σ := by
  intro s0 s1 σ h
  unfold f_X10_blank_19 at h
  refine q_ior hx dX10_blank_19 ?_
  by_cases hg3 : (s1 ||| s0 = 0 ∨ s1 ||| s0 = 1)
  case neg => rw [if_neg hg3] at h; exact nomatch h
  replace h := (if_pos hg3).symm.trans h
  refine q_put (v := s1 ||| s0) hx q_fl_X10_91 q_fp_10_26 dX10_blank_20 (q_ne kd_292 (by decide)) (q_e10 kd_292) (by rw [q_l10]; decide) (q_zn hg3) (q_zf hg3) (by rw [q_e10 kd_292, q_s10_26]) ?_
  refine q_aload_n hx dX10_blank_23 0 rfl ?_
  refine q_dup hx dX10_blank_24 rfl ?_
  refine q_get (v := .int ((q_up σ 292 26 (s1 ||| s0)) 292 24)) hx q_fl_X10_85 dX10_blank_25 (q_ne kd_292 (by decide)) (q_e10 kd_292) rfl ?_
  refine q_aload_n hx dX10_blank_28 0 rfl ?_
  refine q_get (v := .int ((q_up σ 292 26 (s1 ||| s0)) 292 26)) hx q_fl_X10_91 dX10_blank_29 (q_ne kd_292 (by decide)) (q_e10 kd_292) rfl ?_
  refine q_if_eq hx 39 dX10_blank_32 (by decide) (fun hc4 => ?_) (fun hc4 => ?_)
  · replace h := (if_pos hc4).symm.trans h
    refine q_iconst (v := 1) hx dX10_blank_39 (by decide) ?_
    refine q_iadd hx dX10_blank_40 ?_
    refine q_put (v := ((q_up σ 292 26 (s1 ||| s0)) 292 24) + 1) hx q_fl_X10_85 q_fp_10_24 dX10_blank_41 (q_ne kd_292 (by decide)) (q_e10 kd_292) (by rw [q_l10]; decide) rfl rfl (by rw [q_e10 kd_292, q_s10_24]) ?_
    cases h
    exact q_vret hx hr dX10_blank_44
  · replace h := (if_neg hc4).symm.trans h
    refine q_iconst (v := 0) hx dX10_blank_35 (by decide) ?_
    refine q_goto hx 40 dX10_blank_36 (by decide) ?_
    refine q_iadd hx dX10_blank_40 ?_
    refine q_put (v := ((q_up σ 292 26 (s1 ||| s0)) 292 24) + 0) hx q_fl_X10_85 q_fp_10_24 dX10_blank_41 (q_ne kd_292 (by decide)) (q_e10 kd_292) (by rw [q_l10]; decide) rfl rfl (by rw [q_e10 kd_292, q_s10_24]) ?_
    cases h
    exact q_vret hx hr dX10_blank_44
def f_X10_blank (σ : q_S) : Option (q_S) :=
  Option.bind (f_X10_mark σ) (fun q1 => if q1 = 32 then (f_X10_blank_19 0 (σ 292 26) σ) else (f_X10_blank_19 1 (σ 292 26) σ))
set_option maxHeartbeats 4000000 in
set_option maxRecDepth 100000 in
theorem c_X10_blank (l : Launch) (G : q_G) (x : q_A) (σ : q_S)   {res : q_S} (h : f_X10_blank σ = some res) : q_Met l yX10_blank cX10_blank 1 (none) 2 G [.ref (G.2.1 + 292)] σ x (q_Qv G x res) := by
  refine q_of (by decide) (Nat.le_of_ble_eq_true rfl) (fun X hl0 hx hr => ?_)
  subst hl0
  have hx : q_Cx X G RX10 cX10_blank 1 2 := hx
  unfold f_X10_blank at h
  show q_Wq X G x 1 (q_MQ X G (q_Qv G x res)) 0 0 0 [(0, .ref (G.2.1 + 292))] [] σ
  refine q_aload_n hx dX10_blank_0 0 rfl ?_
  refine q_dup hx dX10_blank_1 rfl ?_
  refine q_get (v := .int (σ 292 26)) hx q_fl_X10_91 dX10_blank_2 (q_ne kd_292 (by decide)) (q_e10 kd_292) rfl ?_
  refine q_aload_n hx dX10_blank_5 0 rfl ?_
  refine q_bindE h (fun q1 hq1 h => ?_)
  refine q_callVi (As := []) (rest := [.int (σ 292 26), .ref (G.2.1 + 292)]) hx q_kR0 (c_X10_mark (q_Xl X) G x σ  hq1) q_ml_X10_288 q_mn_X10_mark q_mi_X10_mark q_se_X10_mark (by decide) rfl (Nat.le_of_ble_eq_true rfl) dX10_blank_6 (q_ne kd_292 (by decide)) (q_e10 kd_292) rfl rfl rfl ?_
  refine q_bipush (v := 32) hx dX10_blank_9 (by decide) ?_
  refine q_icmp_eq hx 18 dX10_blank_11 (by decide) (fun hc2 => ?_) (fun hc2 => ?_)
  · replace h := (if_pos hc2).symm.trans h
    refine q_iconst (v := 0) hx dX10_blank_18 (by decide) ?_
    refine q_sub [0] rfl ?_
    exact s_X10_blank_19 hx hr 0 (σ 292 26) σ h
  · replace h := (if_neg hc2).symm.trans h
    refine q_iconst (v := 1) hx dX10_blank_14 (by decide) ?_
    refine q_goto hx 19 dX10_blank_15 (by decide) ?_
    refine q_sub [0] rfl ?_
    exact s_X10_blank_19 hx hr 1 (σ 292 26) σ h
-- X10_digits
def f_X10_digits_25 : Nat → Int32 → Int32 → Int32 → q_S → Option (Int32 × q_S)
  | 0, _, _, _, _ => none
  | n + 1, v1, v2, v3, σ =>
    if v1 ≤ v3 then (some ((v2, σ))) else (Option.bind (f_X10_isDigit σ) (fun q5 => if q5 = 0 then (some ((v2, σ))) else (if ((σ 292 24) < 0 ∨ 60 ≤ (σ 292 24).toNatClampNeg) then none else f_X10_digits_25 n v1 (((10 * v2) + (σ 299 (σ 292 24).toNatClampNeg)) - 48) (v3 + 1) (q_up σ 292 24 ((σ 292 24) + 1)))))
set_option maxHeartbeats 4000000 in
set_option maxRecDepth 100000 in
theorem s_X10_digits_25 {X : q_X} {G : q_G} {x : q_A} (hx : q_Cx X G RX10 cX10_digits 4 3) (hr : (q_Xm X).sig.returnType = some .int) {res : Int32 × q_S} : ∀ (n : Nat) (v1 : Int32) (v2 : Int32) (v3 : Int32) (σ : q_S), f_X10_digits_25 n v1 v2 v3 σ = some res → q_Wq X G x 4 (q_MQ X G (q_Qi G x res.1 res.2)) 0 0 25 [(0, .ref (G.2.1 + 292)), (1, .int v1), (2, .int v2), (3, .int v3)] [] σ := by
  intro n
  induction n with
  | zero => exact fun _ _ _ _ h => nomatch (show (none : Option (Int32 × q_S)) = some res from h)
  | succ n ih =>
    intro v1 v2 v3 σ h
    rw [f_X10_digits_25] at h
    refine q_iload_n hx dX10_digits_25 3 rfl ?_
    refine q_iload_n hx dX10_digits_26 1 rfl ?_
    refine q_icmp_ge hx 71 dX10_digits_27 (by decide) (fun hc4 => ?_) (fun hc4 => ?_)
    · replace h := (if_pos hc4).symm.trans h
      refine q_iload_n hx dX10_digits_71 2 rfl ?_
      cases h
      exact q_iret hx hr dX10_digits_72
    · replace h := (if_neg hc4).symm.trans h
      refine q_aload_n hx dX10_digits_30 0 rfl ?_
      refine q_bindE h (fun q5 hq5 h => ?_)
      refine q_callVi (As := []) (rest := []) hx q_kR0 (c_X10_isDigit (q_Xl X) G x σ  hq5) q_ml_X10_292 q_mn_X10_isDigit q_mi_X10_isDigit q_se_X10_isDigit (by decide) rfl (Nat.le_of_ble_eq_true rfl) dX10_digits_31 (q_ne kd_292 (by decide)) (q_e10 kd_292) rfl rfl rfl ?_
      refine q_if_eq hx 71 dX10_digits_34 (by decide) (fun hc6 => ?_) (fun hc6 => ?_)
      · replace h := (if_pos hc6).symm.trans h
        refine q_iload_n hx dX10_digits_71 2 rfl ?_
        cases h
        exact q_iret hx hr dX10_digits_72
      · replace h := (if_neg hc6).symm.trans h
        refine q_bipush (v := 10) hx dX10_digits_37 (by decide) ?_
        refine q_iload_n hx dX10_digits_39 2 rfl ?_
        refine q_imul hx dX10_digits_40 ?_
        refine q_aload_n hx dX10_digits_41 0 rfl ?_
        refine q_get (v := .ref (G.2.1 + 299)) hx q_fl_X10_70 dX10_digits_42 (q_ne kd_292 (by decide)) (q_e10 kd_292) rfl ?_
        refine q_aload_n hx dX10_digits_45 0 rfl ?_
        refine q_get (v := .int (σ 292 24)) hx q_fl_X10_85 dX10_digits_46 (q_ne kd_292 (by decide)) (q_e10 kd_292) rfl ?_
        by_cases hg7 : ((σ 292 24) < 0 ∨ 60 ≤ (σ 292 24).toNatClampNeg)
        · rw [if_pos hg7] at h; exact nomatch h
        replace h := (if_neg hg7).symm.trans h
        refine q_iald (N := 60) hx dX10_digits_49 kd_299 (by first | decide | assumption) hg7 ?_
        refine q_iadd hx dX10_digits_50 ?_
        refine q_bipush (v := 48) hx dX10_digits_51 (by decide) ?_
        refine q_isub hx dX10_digits_53 ?_
        refine q_istore_n hx [(2, .int (((10 * v2) + (σ 299 (σ 292 24).toNatClampNeg)) - 48)), (0, .ref (G.2.1 + 292)), (1, .int v1), (3, .int v3)] dX10_digits_54 (by decide) rfl ?_
        refine q_aload_n hx dX10_digits_55 1 rfl ?_
        refine q_dup hx dX10_digits_56 rfl ?_
        refine q_get (v := .int (σ 292 24)) hx q_fl_X10_85 dX10_digits_57 (q_ne kd_292 (by decide)) (q_e10 kd_292) rfl ?_
        refine q_iconst (v := 1) hx dX10_digits_60 (by decide) ?_
        refine q_iadd hx dX10_digits_61 ?_
        refine q_put (v := (σ 292 24) + 1) hx q_fl_X10_85 q_fp_10_24 dX10_digits_62 (q_ne kd_292 (by decide)) (q_e10 kd_292) (by rw [q_l10]; decide) rfl rfl (by rw [q_e10 kd_292, q_s10_24]) ?_
        refine q_iinc hx [(3, .int (v3 + 1)), (2, .int (((10 * v2) + (σ 299 (σ 292 24).toNatClampNeg)) - 48)), (0, .ref (G.2.1 + 292)), (1, .int v1)] dX10_digits_65 3 rfl rfl (by decide) rfl ?_
        refine q_goto hx 25 dX10_digits_68 (by decide) ?_
        refine q_sub [2, 3, 1, 0] rfl ?_
        exact ih v1 (((10 * v2) + (σ 299 (σ 292 24).toNatClampNeg)) - 48) (v3 + 1) (q_up σ 292 24 ((σ 292 24) + 1)) h
def f_X10_digits (σ : q_S) (a1 : Int32) : Option (Int32 × q_S) :=
  Option.bind (f_X10_isDigit σ) (fun q1 => if q1 = 0 then (if ((σ 292 26) ||| 1 = 0 ∨ (σ 292 26) ||| 1 = 1) then f_X10_digits_25 q_fu a1 0 0 (q_up σ 292 26 ((σ 292 26) ||| 1)) else none) else (if ((σ 292 26) ||| 0 = 0 ∨ (σ 292 26) ||| 0 = 1) then f_X10_digits_25 q_fu a1 0 0 (q_up σ 292 26 ((σ 292 26) ||| 0)) else none))
set_option maxHeartbeats 4000000 in
set_option maxRecDepth 100000 in
theorem c_X10_digits (l : Launch) (G : q_G) (x : q_A) (σ : q_S) (a1 : Int32)  {res : Int32 × q_S} (h : f_X10_digits σ a1 = some res) : q_Met l yX10_digits cX10_digits 4 (some .int) 3 G [.ref (G.2.1 + 292), .int a1] σ x (q_Qi G x res.1 res.2) := by
  refine q_of (by decide) (Nat.le_of_ble_eq_true rfl) (fun X hl0 hx hr => ?_)
  subst hl0
  have hx : q_Cx X G RX10 cX10_digits 4 3 := hx
  unfold f_X10_digits at h
  show q_Wq X G x 4 (q_MQ X G (q_Qi G x res.1 res.2)) 0 0 0 [(0, .ref (G.2.1 + 292)), (1, .int a1)] [] σ
  refine q_aload_n hx dX10_digits_0 0 rfl ?_
  refine q_dup hx dX10_digits_1 rfl ?_
  refine q_get (v := .int (σ 292 26)) hx q_fl_X10_91 dX10_digits_2 (q_ne kd_292 (by decide)) (q_e10 kd_292) rfl ?_
  refine q_aload_n hx dX10_digits_5 0 rfl ?_
  refine q_bindE h (fun q1 hq1 h => ?_)
  refine q_callVi (As := []) (rest := [.int (σ 292 26), .ref (G.2.1 + 292)]) hx q_kR0 (c_X10_isDigit (q_Xl X) G x σ  hq1) q_ml_X10_292 q_mn_X10_isDigit q_mi_X10_isDigit q_se_X10_isDigit (by decide) rfl (Nat.le_of_ble_eq_true rfl) dX10_digits_6 (q_ne kd_292 (by decide)) (q_e10 kd_292) rfl rfl rfl ?_
  refine q_if_ne hx 16 dX10_digits_9 (by decide) (fun hc2 => ?_) (fun hc2 => ?_)
  · replace h := (if_neg hc2).symm.trans h
    refine q_iconst (v := 0) hx dX10_digits_16 (by decide) ?_
    refine q_ior hx dX10_digits_17 ?_
    by_cases hg3 : ((σ 292 26) ||| 0 = 0 ∨ (σ 292 26) ||| 0 = 1)
    case neg => rw [if_neg hg3] at h; exact nomatch h
    replace h := (if_pos hg3).symm.trans h
    refine q_put (v := (σ 292 26) ||| 0) hx q_fl_X10_91 q_fp_10_26 dX10_digits_18 (q_ne kd_292 (by decide)) (q_e10 kd_292) (by rw [q_l10]; decide) (q_zn hg3) (q_zf hg3) (by rw [q_e10 kd_292, q_s10_26]) ?_
    refine q_iconst (v := 0) hx dX10_digits_21 (by decide) ?_
    refine q_istore_n hx [(2, .int 0), (0, .ref (G.2.1 + 292)), (1, .int a1)] dX10_digits_22 (by decide) rfl ?_
    refine q_iconst (v := 0) hx dX10_digits_23 (by decide) ?_
    refine q_istore_n hx [(3, .int 0), (2, .int 0), (0, .ref (G.2.1 + 292)), (1, .int a1)] dX10_digits_24 (by decide) rfl ?_
    refine q_sub [2, 3, 1, 0] rfl ?_
    exact s_X10_digits_25 hx hr q_fu a1 0 0 (q_up σ 292 26 ((σ 292 26) ||| 0)) h
  · replace h := (if_pos hc2).symm.trans h
    refine q_iconst (v := 1) hx dX10_digits_12 (by decide) ?_
    refine q_goto hx 17 dX10_digits_13 (by decide) ?_
    refine q_ior hx dX10_digits_17 ?_
    by_cases hg8 : ((σ 292 26) ||| 1 = 0 ∨ (σ 292 26) ||| 1 = 1)
    case neg => rw [if_neg hg8] at h; exact nomatch h
    replace h := (if_pos hg8).symm.trans h
    refine q_put (v := (σ 292 26) ||| 1) hx q_fl_X10_91 q_fp_10_26 dX10_digits_18 (q_ne kd_292 (by decide)) (q_e10 kd_292) (by rw [q_l10]; decide) (q_zn hg8) (q_zf hg8) (by rw [q_e10 kd_292, q_s10_26]) ?_
    refine q_iconst (v := 0) hx dX10_digits_21 (by decide) ?_
    refine q_istore_n hx [(2, .int 0), (0, .ref (G.2.1 + 292)), (1, .int a1)] dX10_digits_22 (by decide) rfl ?_
    refine q_iconst (v := 0) hx dX10_digits_23 (by decide) ?_
    refine q_istore_n hx [(3, .int 0), (2, .int 0), (0, .ref (G.2.1 + 292)), (1, .int a1)] dX10_digits_24 (by decide) rfl ?_
    refine q_sub [2, 3, 1, 0] rfl ?_
    exact s_X10_digits_25 hx hr q_fu a1 0 0 (q_up σ 292 26 ((σ 292 26) ||| 1)) h
-- X10_behindBlank
def f_X10_behindBlank (σ : q_S) (a1 : Int32) : Option (Int32 × q_S) :=
  Option.bind (f_X10_blank σ) (fun q1 => Option.bind (f_X10_digits q1 a1) (fun q2 => some ((q2.1, q2.2))))
set_option maxHeartbeats 4000000 in
set_option maxRecDepth 100000 in
theorem c_X10_behindBlank (l : Launch) (G : q_G) (x : q_A) (σ : q_S) (a1 : Int32)  {res : Int32 × q_S} (h : f_X10_behindBlank σ a1 = some res) : q_Met l yX10_behindBlank cX10_behindBlank 2 (some .int) 4 G [.ref (G.2.1 + 292), .int a1] σ x (q_Qi G x res.1 res.2) := by
  refine q_of (by decide) (Nat.le_of_ble_eq_true rfl) (fun X hl0 hx hr => ?_)
  subst hl0
  have hx : q_Cx X G RX10 cX10_behindBlank 2 4 := hx
  unfold f_X10_behindBlank at h
  show q_Wq X G x 2 (q_MQ X G (q_Qi G x res.1 res.2)) 0 0 0 [(0, .ref (G.2.1 + 292)), (1, .int a1)] [] σ
  refine q_aload_n hx dX10_behindBlank_0 0 rfl ?_
  refine q_bindE h (fun q1 hq1 h => ?_)
  refine q_callVv (As := []) (rest := []) hx q_kR0 (c_X10_blank (q_Xl X) G x σ  hq1) q_ml_X10_295 q_mn_X10_blank q_mi_X10_blank q_se_X10_blank (by decide) rfl (Nat.le_of_ble_eq_true rfl) dX10_behindBlank_1 (q_ne kd_292 (by decide)) (q_e10 kd_292) rfl rfl rfl ?_
  refine q_aload_n hx dX10_behindBlank_4 0 rfl ?_
  refine q_iload_n hx dX10_behindBlank_5 1 rfl ?_
  refine q_bindE h (fun q2 hq2 h => ?_)
  refine q_callVi (As := [.int a1]) (rest := []) hx q_kR0 (c_X10_digits (q_Xl X) G x q1 a1 hq2) q_ml_X10_298 q_mn_X10_digits q_mi_X10_digits q_se_X10_digits (by decide) rfl (Nat.le_of_ble_eq_true rfl) dX10_behindBlank_6 (q_ne kd_292 (by decide)) (q_e10 kd_292) rfl rfl rfl ?_
  cases h
  exact q_iret hx hr dX10_behindBlank_9
-- X10_takesDirection
def f_X10_takesDirection_22 (v1 : Int32) (s0 : Int32) (s1 : Int32) (σ : q_S) : Option (Int32 × q_S) :=
  if (s1 ||| s0 = 0 ∨ s1 ||| s0 = 1) then if ((q_up σ 292 26 (s1 ||| s0)) 292 26) = 0 then (some ((v1, q_up (q_up σ 292 26 (s1 ||| s0)) 292 24 (((q_up σ 292 26 (s1 ||| s0)) 292 24) + 1)))) else (some ((v1, q_up (q_up σ 292 26 (s1 ||| s0)) 292 24 (((q_up σ 292 26 (s1 ||| s0)) 292 24) + 0)))) else none
set_option maxHeartbeats 4000000 in
set_option maxRecDepth 100000 in
theorem s_X10_takesDirection_22 {X : q_X} {G : q_G} {x : q_A} (hx : q_Cx X G RX10 cX10_takesDirection 2 2) (hr : (q_Xm X).sig.returnType = some .int) {res : Int32 × q_S} : ∀ (v1 : Int32) (s0 : Int32) (s1 : Int32) (σ : q_S), f_X10_takesDirection_22 v1 s0 s1 σ = some res → q_Wq X G x 2 (q_MQ X G (q_Qi G x res.1 res.2)) 0 0 22 [(0, .ref (G.2.1 + 292)), (1, .int v1)] [.int s0, .int s1, .ref (G.2.1 + 292)] σ := by
  intro v1 s0 s1 σ h
  unfold f_X10_takesDirection_22 at h
  refine q_ior hx dX10_takesDirection_22 ?_
  by_cases hg3 : (s1 ||| s0 = 0 ∨ s1 ||| s0 = 1)
  case neg => rw [if_neg hg3] at h; exact nomatch h
  replace h := (if_pos hg3).symm.trans h
  refine q_put (v := s1 ||| s0) hx q_fl_X10_91 q_fp_10_26 dX10_takesDirection_23 (q_ne kd_292 (by decide)) (q_e10 kd_292) (by rw [q_l10]; decide) (q_zn hg3) (q_zf hg3) (by rw [q_e10 kd_292, q_s10_26]) ?_
  refine q_aload_n hx dX10_takesDirection_26 0 rfl ?_
  refine q_dup hx dX10_takesDirection_27 rfl ?_
  refine q_get (v := .int ((q_up σ 292 26 (s1 ||| s0)) 292 24)) hx q_fl_X10_85 dX10_takesDirection_28 (q_ne kd_292 (by decide)) (q_e10 kd_292) rfl ?_
  refine q_aload_n hx dX10_takesDirection_31 0 rfl ?_
  refine q_get (v := .int ((q_up σ 292 26 (s1 ||| s0)) 292 26)) hx q_fl_X10_91 dX10_takesDirection_32 (q_ne kd_292 (by decide)) (q_e10 kd_292) rfl ?_
  refine q_if_eq hx 42 dX10_takesDirection_35 (by decide) (fun hc4 => ?_) (fun hc4 => ?_)
  · replace h := (if_pos hc4).symm.trans h
    refine q_iconst (v := 1) hx dX10_takesDirection_42 (by decide) ?_
    refine q_iadd hx dX10_takesDirection_43 ?_
    refine q_put (v := ((q_up σ 292 26 (s1 ||| s0)) 292 24) + 1) hx q_fl_X10_85 q_fp_10_24 dX10_takesDirection_44 (q_ne kd_292 (by decide)) (q_e10 kd_292) (by rw [q_l10]; decide) rfl rfl (by rw [q_e10 kd_292, q_s10_24]) ?_
    refine q_iload_n hx dX10_takesDirection_47 1 rfl ?_
    cases h
    exact q_iret hx hr dX10_takesDirection_48
  · replace h := (if_neg hc4).symm.trans h
    refine q_iconst (v := 0) hx dX10_takesDirection_38 (by decide) ?_
    refine q_goto hx 43 dX10_takesDirection_39 (by decide) ?_
    refine q_iadd hx dX10_takesDirection_43 ?_
    refine q_put (v := ((q_up σ 292 26 (s1 ||| s0)) 292 24) + 0) hx q_fl_X10_85 q_fp_10_24 dX10_takesDirection_44 (q_ne kd_292 (by decide)) (q_e10 kd_292) (by rw [q_l10]; decide) rfl rfl (by rw [q_e10 kd_292, q_s10_24]) ?_
    refine q_iload_n hx dX10_takesDirection_47 1 rfl ?_
    cases h
    exact q_iret hx hr dX10_takesDirection_48
def f_X10_takesDirection (σ : q_S) : Option (Int32 × q_S) :=
  Option.bind (f_X10_mark σ) (fun q1 => if 0 ≤ ((f_X10_directionOf q1)) then (f_X10_takesDirection_22 ((f_X10_directionOf q1)) 0 (σ 292 26) σ) else (f_X10_takesDirection_22 ((f_X10_directionOf q1)) 1 (σ 292 26) σ))
set_option maxHeartbeats 4000000 in
set_option maxRecDepth 100000 in
theorem c_X10_takesDirection (l : Launch) (G : q_G) (x : q_A) (σ : q_S)   {res : Int32 × q_S} (h : f_X10_takesDirection σ = some res) : q_Met l yX10_takesDirection cX10_takesDirection 2 (some .int) 2 G [.ref (G.2.1 + 292)] σ x (q_Qi G x res.1 res.2) := by
  refine q_of (by decide) (Nat.le_of_ble_eq_true rfl) (fun X hl0 hx hr => ?_)
  subst hl0
  have hx : q_Cx X G RX10 cX10_takesDirection 2 2 := hx
  unfold f_X10_takesDirection at h
  show q_Wq X G x 2 (q_MQ X G (q_Qi G x res.1 res.2)) 0 0 0 [(0, .ref (G.2.1 + 292))] [] σ
  refine q_aload_n hx dX10_takesDirection_0 0 rfl ?_
  refine q_bindE h (fun q1 hq1 h => ?_)
  refine q_callVi (As := []) (rest := []) hx q_kR0 (c_X10_mark (q_Xl X) G x σ  hq1) q_ml_X10_288 q_mn_X10_mark q_mi_X10_mark q_se_X10_mark (by decide) rfl (Nat.le_of_ble_eq_true rfl) dX10_takesDirection_1 (q_ne kd_292 (by decide)) (q_e10 kd_292) rfl rfl rfl ?_
  refine q_callSi (As := [.int q1]) (rest := []) hx q_kR0 (c_X10_directionOf (q_Xl X) G x σ q1) q_ml_X10_204 q_mn_X10_directionOf q_ms_X10_directionOf (by decide) rfl (Nat.le_of_ble_eq_true rfl) dX10_takesDirection_4 rfl ?_
  refine q_istore_n hx [(1, .int ((f_X10_directionOf q1))), (0, .ref (G.2.1 + 292))] dX10_takesDirection_7 (by decide) rfl ?_
  refine q_aload_n hx dX10_takesDirection_8 1 rfl ?_
  refine q_dup hx dX10_takesDirection_9 rfl ?_
  refine q_get (v := .int (σ 292 26)) hx q_fl_X10_91 dX10_takesDirection_10 (q_ne kd_292 (by decide)) (q_e10 kd_292) rfl ?_
  refine q_iload_n hx dX10_takesDirection_13 0 rfl ?_
  refine q_if_ge hx 21 dX10_takesDirection_14 (by decide) (fun hc2 => ?_) (fun hc2 => ?_)
  · replace h := (if_pos hc2).symm.trans h
    refine q_iconst (v := 0) hx dX10_takesDirection_21 (by decide) ?_
    refine q_sub [1, 0] rfl ?_
    exact s_X10_takesDirection_22 hx hr ((f_X10_directionOf q1)) 0 (σ 292 26) σ h
  · replace h := (if_neg hc2).symm.trans h
    refine q_iconst (v := 1) hx dX10_takesDirection_17 (by decide) ?_
    refine q_goto hx 22 dX10_takesDirection_18 (by decide) ?_
    refine q_sub [1, 0] rfl ?_
    exact s_X10_takesDirection_22 hx hr ((f_X10_directionOf q1)) 1 (σ 292 26) σ h
-- X10_takesSign
def f_X10_takesSign_48 (v1 : Int32) (s0 : Int32) (s1 : Int32) (σ : q_S) : Option (Int32 × q_S) :=
  if v1 = 45 then (some (((-1), q_up σ 292 24 (s1 + s0)))) else (some ((1, q_up σ 292 24 (s1 + s0))))
set_option maxHeartbeats 4000000 in
set_option maxRecDepth 100000 in
theorem s_X10_takesSign_48 {X : q_X} {G : q_G} {x : q_A} (hx : q_Cx X G RX10 cX10_takesSign 2 2) (hr : (q_Xm X).sig.returnType = some .int) {res : Int32 × q_S} : ∀ (v1 : Int32) (s0 : Int32) (s1 : Int32) (σ : q_S), f_X10_takesSign_48 v1 s0 s1 σ = some res → q_Wq X G x 2 (q_MQ X G (q_Qi G x res.1 res.2)) 0 0 48 [(1, .int v1)] [.int s0, .int s1, .ref (G.2.1 + 292)] σ := by
  intro v1 s0 s1 σ h
  unfold f_X10_takesSign_48 at h
  refine q_iadd hx dX10_takesSign_48 ?_
  refine q_put (v := s1 + s0) hx q_fl_X10_85 q_fp_10_24 dX10_takesSign_49 (q_ne kd_292 (by decide)) (q_e10 kd_292) (by rw [q_l10]; decide) rfl rfl (by rw [q_e10 kd_292, q_s10_24]) ?_
  refine q_iload_n hx dX10_takesSign_52 0 rfl ?_
  refine q_bipush (v := 45) hx dX10_takesSign_53 (by decide) ?_
  refine q_icmp_ne hx 62 dX10_takesSign_55 (by decide) (fun hc5 => ?_) (fun hc5 => ?_)
  · replace h := (if_neg hc5).symm.trans h
    refine q_iconst (v := 1) hx dX10_takesSign_62 (by decide) ?_
    cases h
    exact q_iret hx hr dX10_takesSign_63
  · replace h := (if_pos hc5).symm.trans h
    refine q_iconst (v := (-1)) hx dX10_takesSign_58 (by decide) ?_
    refine q_goto hx 63 dX10_takesSign_59 (by decide) ?_
    cases h
    exact q_iret hx hr dX10_takesSign_63
def f_X10_takesSign_27 (v1 : Int32) (s0 : Int32) (s1 : Int32) (σ : q_S) : Option (Int32 × q_S) :=
  if (s1 ||| s0 = 0 ∨ s1 ||| s0 = 1) then if ((q_up σ 292 26 (s1 ||| s0)) 292 26) = 0 then (f_X10_takesSign_48 v1 1 ((q_up σ 292 26 (s1 ||| s0)) 292 24) (q_up σ 292 26 (s1 ||| s0))) else (f_X10_takesSign_48 v1 0 ((q_up σ 292 26 (s1 ||| s0)) 292 24) (q_up σ 292 26 (s1 ||| s0))) else none
set_option maxHeartbeats 4000000 in
set_option maxRecDepth 100000 in
theorem s_X10_takesSign_27 {X : q_X} {G : q_G} {x : q_A} (hx : q_Cx X G RX10 cX10_takesSign 2 2) (hr : (q_Xm X).sig.returnType = some .int) {res : Int32 × q_S} : ∀ (v1 : Int32) (s0 : Int32) (s1 : Int32) (σ : q_S), f_X10_takesSign_27 v1 s0 s1 σ = some res → q_Wq X G x 2 (q_MQ X G (q_Qi G x res.1 res.2)) 0 0 27 [(0, .ref (G.2.1 + 292)), (1, .int v1)] [.int s0, .int s1, .ref (G.2.1 + 292)] σ := by
  intro v1 s0 s1 σ h
  unfold f_X10_takesSign_27 at h
  refine q_ior hx dX10_takesSign_27 ?_
  by_cases hg3 : (s1 ||| s0 = 0 ∨ s1 ||| s0 = 1)
  case neg => rw [if_neg hg3] at h; exact nomatch h
  replace h := (if_pos hg3).symm.trans h
  refine q_put (v := s1 ||| s0) hx q_fl_X10_91 q_fp_10_26 dX10_takesSign_28 (q_ne kd_292 (by decide)) (q_e10 kd_292) (by rw [q_l10]; decide) (q_zn hg3) (q_zf hg3) (by rw [q_e10 kd_292, q_s10_26]) ?_
  refine q_aload_n hx dX10_takesSign_31 0 rfl ?_
  refine q_dup hx dX10_takesSign_32 rfl ?_
  refine q_get (v := .int ((q_up σ 292 26 (s1 ||| s0)) 292 24)) hx q_fl_X10_85 dX10_takesSign_33 (q_ne kd_292 (by decide)) (q_e10 kd_292) rfl ?_
  refine q_aload_n hx dX10_takesSign_36 0 rfl ?_
  refine q_get (v := .int ((q_up σ 292 26 (s1 ||| s0)) 292 26)) hx q_fl_X10_91 dX10_takesSign_37 (q_ne kd_292 (by decide)) (q_e10 kd_292) rfl ?_
  refine q_if_eq hx 47 dX10_takesSign_40 (by decide) (fun hc4 => ?_) (fun hc4 => ?_)
  · replace h := (if_pos hc4).symm.trans h
    refine q_iconst (v := 1) hx dX10_takesSign_47 (by decide) ?_
    refine q_sub [1] rfl ?_
    exact s_X10_takesSign_48 hx hr v1 1 ((q_up σ 292 26 (s1 ||| s0)) 292 24) (q_up σ 292 26 (s1 ||| s0)) h
  · replace h := (if_neg hc4).symm.trans h
    refine q_iconst (v := 0) hx dX10_takesSign_43 (by decide) ?_
    refine q_goto hx 48 dX10_takesSign_44 (by decide) ?_
    refine q_sub [1] rfl ?_
    exact s_X10_takesSign_48 hx hr v1 0 ((q_up σ 292 26 (s1 ||| s0)) 292 24) (q_up σ 292 26 (s1 ||| s0)) h
def f_X10_takesSign_26 (v1 : Int32) (s0 : Int32) (σ : q_S) : Option (Int32 × q_S) :=
  f_X10_takesSign_27 v1 0 s0 σ
set_option maxHeartbeats 4000000 in
set_option maxRecDepth 100000 in
theorem s_X10_takesSign_26 {X : q_X} {G : q_G} {x : q_A} (hx : q_Cx X G RX10 cX10_takesSign 2 2) (hr : (q_Xm X).sig.returnType = some .int) {res : Int32 × q_S} : ∀ (v1 : Int32) (s0 : Int32) (σ : q_S), f_X10_takesSign_26 v1 s0 σ = some res → q_Wq X G x 2 (q_MQ X G (q_Qi G x res.1 res.2)) 0 0 26 [(0, .ref (G.2.1 + 292)), (1, .int v1)] [.int s0, .ref (G.2.1 + 292)] σ := by
  intro v1 s0 σ h
  unfold f_X10_takesSign_26 at h
  refine q_iconst (v := 0) hx dX10_takesSign_26 (by decide) ?_
  refine q_sub [0, 1] rfl ?_
  exact s_X10_takesSign_27 hx hr v1 0 s0 σ h
def f_X10_takesSign (σ : q_S) : Option (Int32 × q_S) :=
  Option.bind (f_X10_mark σ) (fun q1 => if q1 = 43 then (f_X10_takesSign_26 q1 (σ 292 26) σ) else (if q1 = 45 then (f_X10_takesSign_26 q1 (σ 292 26) σ) else (f_X10_takesSign_27 q1 1 (σ 292 26) σ)))
set_option maxHeartbeats 4000000 in
set_option maxRecDepth 100000 in
theorem c_X10_takesSign (l : Launch) (G : q_G) (x : q_A) (σ : q_S)   {res : Int32 × q_S} (h : f_X10_takesSign σ = some res) : q_Met l yX10_takesSign cX10_takesSign 2 (some .int) 2 G [.ref (G.2.1 + 292)] σ x (q_Qi G x res.1 res.2) := by
  refine q_of (by decide) (Nat.le_of_ble_eq_true rfl) (fun X hl0 hx hr => ?_)
  subst hl0
  have hx : q_Cx X G RX10 cX10_takesSign 2 2 := hx
  unfold f_X10_takesSign at h
  show q_Wq X G x 2 (q_MQ X G (q_Qi G x res.1 res.2)) 0 0 0 [(0, .ref (G.2.1 + 292))] [] σ
  refine q_aload_n hx dX10_takesSign_0 0 rfl ?_
  refine q_bindE h (fun q1 hq1 h => ?_)
  refine q_callVi (As := []) (rest := []) hx q_kR0 (c_X10_mark (q_Xl X) G x σ  hq1) q_ml_X10_288 q_mn_X10_mark q_mi_X10_mark q_se_X10_mark (by decide) rfl (Nat.le_of_ble_eq_true rfl) dX10_takesSign_1 (q_ne kd_292 (by decide)) (q_e10 kd_292) rfl rfl rfl ?_
  refine q_istore_n hx [(1, .int q1), (0, .ref (G.2.1 + 292))] dX10_takesSign_4 (by decide) rfl ?_
  refine q_aload_n hx dX10_takesSign_5 1 rfl ?_
  refine q_dup hx dX10_takesSign_6 rfl ?_
  refine q_get (v := .int (σ 292 26)) hx q_fl_X10_91 dX10_takesSign_7 (q_ne kd_292 (by decide)) (q_e10 kd_292) rfl ?_
  refine q_iload_n hx dX10_takesSign_10 0 rfl ?_
  refine q_bipush (v := 43) hx dX10_takesSign_11 (by decide) ?_
  refine q_icmp_eq hx 26 dX10_takesSign_13 (by decide) (fun hc2 => ?_) (fun hc2 => ?_)
  · replace h := (if_pos hc2).symm.trans h
    refine q_sub [1, 0] rfl ?_
    exact s_X10_takesSign_26 hx hr q1 (σ 292 26) σ h
  · replace h := (if_neg hc2).symm.trans h
    refine q_iload_n hx dX10_takesSign_16 0 rfl ?_
    refine q_bipush (v := 45) hx dX10_takesSign_17 (by decide) ?_
    refine q_icmp_eq hx 26 dX10_takesSign_19 (by decide) (fun hc6 => ?_) (fun hc6 => ?_)
    · replace h := (if_pos hc6).symm.trans h
      refine q_sub [1, 0] rfl ?_
      exact s_X10_takesSign_26 hx hr q1 (σ 292 26) σ h
    · replace h := (if_neg hc6).symm.trans h
      refine q_iconst (v := 1) hx dX10_takesSign_22 (by decide) ?_
      refine q_goto hx 27 dX10_takesSign_23 (by decide) ?_
      refine q_sub [1, 0] rfl ?_
      exact s_X10_takesSign_27 hx hr q1 1 (σ 292 26) σ h
-- X10_inWord
def f_X10_inWord (a0 : Int32) (a1 : Int32) (a2 : Int32) (a3 : Int32) (a4 : Int32) : Int32 :=
  if a0 = 0 then (a1) else if a0 = 1 then (a2) else if a0 = 2 then (a3) else if a0 = 3 then (a4) else 0
set_option maxHeartbeats 4000000 in
set_option maxRecDepth 100000 in
theorem ca_X10_inWord (l : Launch) (G : q_G) (x : q_A) (σ : q_S) (a0 : Int32) (a1 : Int32) (a2 : Int32) (a3 : Int32) (a4 : Int32)  {res : Int32} (h : f_X10_inWord a0 a1 a2 a3 a4 = res) : q_Met l yX10_inWord cX10_inWord 5 (some .int) 1 G [.int a0, .int a1, .int a2, .int a3, .int a4] σ x (q_Qi G x res σ) := by
  refine q_of (by decide) (Nat.le_of_ble_eq_true rfl) (fun X hl0 hx hr => ?_)
  subst hl0
  have hx : q_Cx X G RX10 cX10_inWord 5 1 := hx
  unfold f_X10_inWord at h
  show q_Wq X G x 5 (q_MQ X G (q_Qi G x res σ)) 0 0 0 [(0, .int a0), (1, .int a1), (2, .int a2), (3, .int a3), (4, .int a4)] [] σ
  refine q_iload_n hx dX10_inWord_0 0 rfl ?_
  by_cases hc1 : a0 = 0
  · replace h := (if_pos hc1).symm.trans h
    refine q_tin hx 32 dX10_inWord_1 (by rw [hc1] <;> decide) (by rw [hc1] <;> decide) (by rw [hc1] <;> rfl) (by decide) ?_
    refine q_iload_n hx dX10_inWord_32 1 rfl ?_
    subst h
    exact q_iret hx hr dX10_inWord_33
  replace h := (if_neg hc1).symm.trans h
  by_cases hc2 : a0 = 1
  · replace h := (if_pos hc2).symm.trans h
    refine q_tin hx 34 dX10_inWord_1 (by rw [hc2] <;> decide) (by rw [hc2] <;> decide) (by rw [hc2] <;> rfl) (by decide) ?_
    refine q_iload_n hx dX10_inWord_34 2 rfl ?_
    subst h
    exact q_iret hx hr dX10_inWord_35
  replace h := (if_neg hc2).symm.trans h
  by_cases hc3 : a0 = 2
  · replace h := (if_pos hc3).symm.trans h
    refine q_tin hx 36 dX10_inWord_1 (by rw [hc3] <;> decide) (by rw [hc3] <;> decide) (by rw [hc3] <;> rfl) (by decide) ?_
    refine q_iload_n hx dX10_inWord_36 3 rfl ?_
    subst h
    exact q_iret hx hr dX10_inWord_37
  replace h := (if_neg hc3).symm.trans h
  by_cases hc4 : a0 = 3
  · replace h := (if_pos hc4).symm.trans h
    refine q_tin hx 38 dX10_inWord_1 (by rw [hc4] <;> decide) (by rw [hc4] <;> decide) (by rw [hc4] <;> rfl) (by decide) ?_
    refine q_iload hx dX10_inWord_38 4 rfl ?_
    subst h
    exact q_iret hx hr dX10_inWord_40
  replace h := (if_neg hc4).symm.trans h
  have hc1T := lv_neT (k := 0) (a := 0) hc1 (by decide)
  have hc2T := lv_neT (k := 1) (a := 1) hc2 (by decide)
  have hc3T := lv_neT (k := 2) (a := 2) hc3 (by decide)
  have hc4T := lv_neT (k := 3) (a := 3) hc4 (by decide)
  refine q_tout hx 41 dX10_inWord_1 (by omega) (by decide) ?_
  refine q_iconst (v := 0) hx dX10_inWord_41 (by decide) ?_
  subst h
  exact q_iret hx hr dX10_inWord_42
theorem c_X10_inWord (l : Launch) (G : q_G) (x : q_A) (σ : q_S) (a0 : Int32) (a1 : Int32) (a2 : Int32) (a3 : Int32) (a4 : Int32)  : q_Met l yX10_inWord cX10_inWord 5 (some .int) 1 G [.int a0, .int a1, .int a2, .int a3, .int a4] σ x (q_Qi G x (f_X10_inWord a0 a1 a2 a3 a4) σ) := ca_X10_inWord l G x σ a0 a1 a2 a3 a4 rfl
-- X10_letter
def f_X10_letter (a0 : Int32) (a1 : Int32) : Int32 :=
  if a0 = 0 then ((f_X10_inWord a1 110 101 119 0)) else if a0 = 1 then ((f_X10_inWord a1 112 101 103 0)) else if a0 = 2 then ((f_X10_inWord a1 112 108 111 116)) else if a0 = 3 then ((f_X10_inWord a1 108 97 121 0)) else if a0 = 4 then ((f_X10_inWord a1 98 101 110 100)) else if a0 = 5 then ((f_X10_inWord a1 100 114 111 112)) else if a0 = 6 then ((f_X10_inWord a1 100 101 101 112)) else (f_X10_inWord a1 100 117 115 107)
set_option maxHeartbeats 4000000 in
set_option maxRecDepth 100000 in
theorem ca_X10_letter (l : Launch) (G : q_G) (x : q_A) (σ : q_S) (a0 : Int32) (a1 : Int32)  {res : Int32} (h : f_X10_letter a0 a1 = res) : q_Met l yX10_letter cX10_letter 2 (some .int) 2 G [.int a0, .int a1] σ x (q_Qi G x res σ) := by
  refine q_of (by decide) (Nat.le_of_ble_eq_true rfl) (fun X hl0 hx hr => ?_)
  subst hl0
  have hx : q_Cx X G RX10 cX10_letter 2 2 := hx
  unfold f_X10_letter at h
  show q_Wq X G x 2 (q_MQ X G (q_Qi G x res σ)) 0 0 0 [(0, .int a0), (1, .int a1)] [] σ
  refine q_iload_n hx dX10_letter_0 0 rfl ?_
  by_cases hc1 : a0 = 0
  · replace h := (if_pos hc1).symm.trans h
    refine q_tin hx 44 dX10_letter_1 (by rw [hc1] <;> decide) (by rw [hc1] <;> decide) (by rw [hc1] <;> rfl) (by decide) ?_
    refine q_iload_n hx dX10_letter_44 1 rfl ?_
    refine q_bipush (v := 110) hx dX10_letter_45 (by decide) ?_
    refine q_bipush (v := 101) hx dX10_letter_47 (by decide) ?_
    refine q_bipush (v := 119) hx dX10_letter_49 (by decide) ?_
    refine q_iconst (v := 0) hx dX10_letter_51 (by decide) ?_
    refine q_callSi (As := [.int a1, .int 110, .int 101, .int 119, .int 0]) (rest := []) hx q_kR0 (c_X10_inWord (q_Xl X) G x σ a1 110 101 119 0) q_ml_X10_301 q_mn_X10_inWord q_ms_X10_inWord (by decide) rfl (Nat.le_of_ble_eq_true rfl) dX10_letter_52 rfl ?_
    subst h
    exact q_iret hx hr dX10_letter_55
  replace h := (if_neg hc1).symm.trans h
  by_cases hc2 : a0 = 1
  · replace h := (if_pos hc2).symm.trans h
    refine q_tin hx 56 dX10_letter_1 (by rw [hc2] <;> decide) (by rw [hc2] <;> decide) (by rw [hc2] <;> rfl) (by decide) ?_
    refine q_iload_n hx dX10_letter_56 1 rfl ?_
    refine q_bipush (v := 112) hx dX10_letter_57 (by decide) ?_
    refine q_bipush (v := 101) hx dX10_letter_59 (by decide) ?_
    refine q_bipush (v := 103) hx dX10_letter_61 (by decide) ?_
    refine q_iconst (v := 0) hx dX10_letter_63 (by decide) ?_
    refine q_callSi (As := [.int a1, .int 112, .int 101, .int 103, .int 0]) (rest := []) hx q_kR0 (c_X10_inWord (q_Xl X) G x σ a1 112 101 103 0) q_ml_X10_301 q_mn_X10_inWord q_ms_X10_inWord (by decide) rfl (Nat.le_of_ble_eq_true rfl) dX10_letter_64 rfl ?_
    subst h
    exact q_iret hx hr dX10_letter_67
  replace h := (if_neg hc2).symm.trans h
  by_cases hc3 : a0 = 2
  · replace h := (if_pos hc3).symm.trans h
    refine q_tin hx 68 dX10_letter_1 (by rw [hc3] <;> decide) (by rw [hc3] <;> decide) (by rw [hc3] <;> rfl) (by decide) ?_
    refine q_iload_n hx dX10_letter_68 1 rfl ?_
    refine q_bipush (v := 112) hx dX10_letter_69 (by decide) ?_
    refine q_bipush (v := 108) hx dX10_letter_71 (by decide) ?_
    refine q_bipush (v := 111) hx dX10_letter_73 (by decide) ?_
    refine q_bipush (v := 116) hx dX10_letter_75 (by decide) ?_
    refine q_callSi (As := [.int a1, .int 112, .int 108, .int 111, .int 116]) (rest := []) hx q_kR0 (c_X10_inWord (q_Xl X) G x σ a1 112 108 111 116) q_ml_X10_301 q_mn_X10_inWord q_ms_X10_inWord (by decide) rfl (Nat.le_of_ble_eq_true rfl) dX10_letter_77 rfl ?_
    subst h
    exact q_iret hx hr dX10_letter_80
  replace h := (if_neg hc3).symm.trans h
  by_cases hc4 : a0 = 3
  · replace h := (if_pos hc4).symm.trans h
    refine q_tin hx 81 dX10_letter_1 (by rw [hc4] <;> decide) (by rw [hc4] <;> decide) (by rw [hc4] <;> rfl) (by decide) ?_
    refine q_iload_n hx dX10_letter_81 1 rfl ?_
    refine q_bipush (v := 108) hx dX10_letter_82 (by decide) ?_
    refine q_bipush (v := 97) hx dX10_letter_84 (by decide) ?_
    refine q_bipush (v := 121) hx dX10_letter_86 (by decide) ?_
    refine q_iconst (v := 0) hx dX10_letter_88 (by decide) ?_
    refine q_callSi (As := [.int a1, .int 108, .int 97, .int 121, .int 0]) (rest := []) hx q_kR0 (c_X10_inWord (q_Xl X) G x σ a1 108 97 121 0) q_ml_X10_301 q_mn_X10_inWord q_ms_X10_inWord (by decide) rfl (Nat.le_of_ble_eq_true rfl) dX10_letter_89 rfl ?_
    subst h
    exact q_iret hx hr dX10_letter_92
  replace h := (if_neg hc4).symm.trans h
  by_cases hc5 : a0 = 4
  · replace h := (if_pos hc5).symm.trans h
    refine q_tin hx 93 dX10_letter_1 (by rw [hc5] <;> decide) (by rw [hc5] <;> decide) (by rw [hc5] <;> rfl) (by decide) ?_
    refine q_iload_n hx dX10_letter_93 1 rfl ?_
    refine q_bipush (v := 98) hx dX10_letter_94 (by decide) ?_
    refine q_bipush (v := 101) hx dX10_letter_96 (by decide) ?_
    refine q_bipush (v := 110) hx dX10_letter_98 (by decide) ?_
    refine q_bipush (v := 100) hx dX10_letter_100 (by decide) ?_
    refine q_callSi (As := [.int a1, .int 98, .int 101, .int 110, .int 100]) (rest := []) hx q_kR0 (c_X10_inWord (q_Xl X) G x σ a1 98 101 110 100) q_ml_X10_301 q_mn_X10_inWord q_ms_X10_inWord (by decide) rfl (Nat.le_of_ble_eq_true rfl) dX10_letter_102 rfl ?_
    subst h
    exact q_iret hx hr dX10_letter_105
  replace h := (if_neg hc5).symm.trans h
  by_cases hc6 : a0 = 5
  · replace h := (if_pos hc6).symm.trans h
    refine q_tin hx 106 dX10_letter_1 (by rw [hc6] <;> decide) (by rw [hc6] <;> decide) (by rw [hc6] <;> rfl) (by decide) ?_
    refine q_iload_n hx dX10_letter_106 1 rfl ?_
    refine q_bipush (v := 100) hx dX10_letter_107 (by decide) ?_
    refine q_bipush (v := 114) hx dX10_letter_109 (by decide) ?_
    refine q_bipush (v := 111) hx dX10_letter_111 (by decide) ?_
    refine q_bipush (v := 112) hx dX10_letter_113 (by decide) ?_
    refine q_callSi (As := [.int a1, .int 100, .int 114, .int 111, .int 112]) (rest := []) hx q_kR0 (c_X10_inWord (q_Xl X) G x σ a1 100 114 111 112) q_ml_X10_301 q_mn_X10_inWord q_ms_X10_inWord (by decide) rfl (Nat.le_of_ble_eq_true rfl) dX10_letter_115 rfl ?_
    subst h
    exact q_iret hx hr dX10_letter_118
  replace h := (if_neg hc6).symm.trans h
  by_cases hc7 : a0 = 6
  · replace h := (if_pos hc7).symm.trans h
    refine q_tin hx 119 dX10_letter_1 (by rw [hc7] <;> decide) (by rw [hc7] <;> decide) (by rw [hc7] <;> rfl) (by decide) ?_
    refine q_iload_n hx dX10_letter_119 1 rfl ?_
    refine q_bipush (v := 100) hx dX10_letter_120 (by decide) ?_
    refine q_bipush (v := 101) hx dX10_letter_122 (by decide) ?_
    refine q_bipush (v := 101) hx dX10_letter_124 (by decide) ?_
    refine q_bipush (v := 112) hx dX10_letter_126 (by decide) ?_
    refine q_callSi (As := [.int a1, .int 100, .int 101, .int 101, .int 112]) (rest := []) hx q_kR0 (c_X10_inWord (q_Xl X) G x σ a1 100 101 101 112) q_ml_X10_301 q_mn_X10_inWord q_ms_X10_inWord (by decide) rfl (Nat.le_of_ble_eq_true rfl) dX10_letter_128 rfl ?_
    subst h
    exact q_iret hx hr dX10_letter_131
  replace h := (if_neg hc7).symm.trans h
  have hc1T := lv_neT (k := 0) (a := 0) hc1 (by decide)
  have hc2T := lv_neT (k := 1) (a := 1) hc2 (by decide)
  have hc3T := lv_neT (k := 2) (a := 2) hc3 (by decide)
  have hc4T := lv_neT (k := 3) (a := 3) hc4 (by decide)
  have hc5T := lv_neT (k := 4) (a := 4) hc5 (by decide)
  have hc6T := lv_neT (k := 5) (a := 5) hc6 (by decide)
  have hc7T := lv_neT (k := 6) (a := 6) hc7 (by decide)
  refine q_tout hx 132 dX10_letter_1 (by omega) (by decide) ?_
  refine q_iload_n hx dX10_letter_132 1 rfl ?_
  refine q_bipush (v := 100) hx dX10_letter_133 (by decide) ?_
  refine q_bipush (v := 117) hx dX10_letter_135 (by decide) ?_
  refine q_bipush (v := 115) hx dX10_letter_137 (by decide) ?_
  refine q_bipush (v := 107) hx dX10_letter_139 (by decide) ?_
  refine q_callSi (As := [.int a1, .int 100, .int 117, .int 115, .int 107]) (rest := []) hx q_kR0 (c_X10_inWord (q_Xl X) G x σ a1 100 117 115 107) q_ml_X10_301 q_mn_X10_inWord q_ms_X10_inWord (by decide) rfl (Nat.le_of_ble_eq_true rfl) dX10_letter_141 rfl ?_
  subst h
  exact q_iret hx hr dX10_letter_144
theorem c_X10_letter (l : Launch) (G : q_G) (x : q_A) (σ : q_S) (a0 : Int32) (a1 : Int32)  : q_Met l yX10_letter cX10_letter 2 (some .int) 2 G [.int a0, .int a1] σ x (q_Qi G x (f_X10_letter a0 a1) σ) := ca_X10_letter l G x σ a0 a1 rfl
-- X10_kindHere
def f_X10_kindHere_58 (k4 : Int32 → Int32 → q_S → Option (Int32 × q_S)) (v1 : Int32) (v2 : Int32) (v3 : Int32) (σ : q_S) : Option (Int32 × q_S) :=
  if ((f_X10_letter v2 v3)) = 0 then (some ((v2, q_up σ 292 24 ((σ 292 24) + v3)))) else (if v3 ≤ v1 then (k4 v1 (v2 + 1) σ) else (k4 v3 (v2 + 1) σ))
set_option maxHeartbeats 4000000 in
set_option maxRecDepth 100000 in
theorem s_X10_kindHere_58 {X : q_X} {G : q_G} {x : q_A} (hx : q_Cx X G RX10 cX10_kindHere 4 3) (hr : (q_Xm X).sig.returnType = some .int) {res : Int32 × q_S} {k4 : Int32 → Int32 → q_S → Option (Int32 × q_S)} (hk4 : ∀ (v1 : Int32) (v2 : Int32) (σ : q_S), k4 v1 v2 σ = some res → q_Wq X G x 4 (q_MQ X G (q_Qi G x res.1 res.2)) 0 0 4 [(0, .ref (G.2.1 + 292)), (1, .int v1), (2, .int v2)] [] σ) : ∀ (v1 : Int32) (v2 : Int32) (v3 : Int32) (σ : q_S), f_X10_kindHere_58 k4 v1 v2 v3 σ = some res → q_Wq X G x 4 (q_MQ X G (q_Qi G x res.1 res.2)) 0 0 58 [(0, .ref (G.2.1 + 292)), (1, .int v1), (2, .int v2), (3, .int v3)] [] σ := by
  intro v1 v2 v3 σ h
  unfold f_X10_kindHere_58 at h
  refine q_iload_n hx dX10_kindHere_58 2 rfl ?_
  refine q_iload_n hx dX10_kindHere_59 3 rfl ?_
  refine q_callSi (As := [.int v2, .int v3]) (rest := []) hx q_kR0 (c_X10_letter (q_Xl X) G x σ v2 v3) q_ml_X10_305 q_mn_X10_letter q_ms_X10_letter (by decide) rfl (Nat.le_of_ble_eq_true rfl) dX10_kindHere_60 rfl ?_
  refine q_if_ne hx 78 dX10_kindHere_63 (by decide) (fun hc3 => ?_) (fun hc3 => ?_)
  · replace h := (if_neg hc3).symm.trans h
    refine q_iload_n hx dX10_kindHere_78 3 rfl ?_
    refine q_iload_n hx dX10_kindHere_79 1 rfl ?_
    refine q_icmp_le hx 87 dX10_kindHere_80 (by decide) (fun hc4 => ?_) (fun hc4 => ?_)
    · replace h := (if_pos hc4).symm.trans h
      refine q_iload_n hx dX10_kindHere_87 1 rfl ?_
      refine q_istore_n hx [(1, .int v1), (0, .ref (G.2.1 + 292)), (2, .int v2), (3, .int v3)] dX10_kindHere_88 (by decide) rfl ?_
      refine q_iinc hx [(2, .int (v2 + 1)), (1, .int v1), (0, .ref (G.2.1 + 292)), (3, .int v3)] dX10_kindHere_89 2 rfl rfl (by decide) rfl ?_
      refine q_goto hx 4 dX10_kindHere_92 (by decide) ?_
      refine q_sub [2, 1, 0] rfl ?_
      exact hk4 v1 (v2 + 1) σ h
    · replace h := (if_neg hc4).symm.trans h
      refine q_iload_n hx dX10_kindHere_83 3 rfl ?_
      refine q_goto hx 88 dX10_kindHere_84 (by decide) ?_
      refine q_istore_n hx [(1, .int v3), (0, .ref (G.2.1 + 292)), (2, .int v2), (3, .int v3)] dX10_kindHere_88 (by decide) rfl ?_
      refine q_iinc hx [(2, .int (v2 + 1)), (1, .int v3), (0, .ref (G.2.1 + 292)), (3, .int v3)] dX10_kindHere_89 2 rfl rfl (by decide) rfl ?_
      refine q_goto hx 4 dX10_kindHere_92 (by decide) ?_
      refine q_sub [2, 1, 0] rfl ?_
      exact hk4 v3 (v2 + 1) σ h
  · replace h := (if_pos hc3).symm.trans h
    refine q_aload_n hx dX10_kindHere_66 0 rfl ?_
    refine q_dup hx dX10_kindHere_67 rfl ?_
    refine q_get (v := .int (σ 292 24)) hx q_fl_X10_85 dX10_kindHere_68 (q_ne kd_292 (by decide)) (q_e10 kd_292) rfl ?_
    refine q_iload_n hx dX10_kindHere_71 3 rfl ?_
    refine q_iadd hx dX10_kindHere_72 ?_
    refine q_put (v := (σ 292 24) + v3) hx q_fl_X10_85 q_fp_10_24 dX10_kindHere_73 (q_ne kd_292 (by decide)) (q_e10 kd_292) (by rw [q_l10]; decide) rfl rfl (by rw [q_e10 kd_292, q_s10_24]) ?_
    refine q_iload_n hx dX10_kindHere_76 2 rfl ?_
    cases h
    exact q_iret hx hr dX10_kindHere_77
def f_X10_kindHere_12 (k4 : Int32 → Int32 → q_S → Option (Int32 × q_S)) : Nat → Int32 → Int32 → Int32 → q_S → Option (Int32 × q_S)
  | 0, _, _, _, _ => none
  | n + 1, v1, v2, v3, σ =>
    if ((f_X10_letter v2 v3)) ≤ 0 then (f_X10_kindHere_58 k4 v1 v2 v3 σ) else (if (σ 292 23) ≤ ((σ 292 24) + v3) then (f_X10_kindHere_58 k4 v1 v2 v3 σ) else (if (((σ 292 24) + v3) < 0 ∨ 60 ≤ ((σ 292 24) + v3).toNatClampNeg) then none else if (σ 299 ((σ 292 24) + v3).toNatClampNeg) = ((f_X10_letter v2 v3)) then (f_X10_kindHere_12 k4 n v1 v2 (v3 + 1) σ) else (f_X10_kindHere_58 k4 v1 v2 v3 σ)))
set_option maxHeartbeats 4000000 in
set_option maxRecDepth 100000 in
theorem s_X10_kindHere_12 {X : q_X} {G : q_G} {x : q_A} (hx : q_Cx X G RX10 cX10_kindHere 4 3) (hr : (q_Xm X).sig.returnType = some .int) {res : Int32 × q_S} {k4 : Int32 → Int32 → q_S → Option (Int32 × q_S)} (hk4 : ∀ (v1 : Int32) (v2 : Int32) (σ : q_S), k4 v1 v2 σ = some res → q_Wq X G x 4 (q_MQ X G (q_Qi G x res.1 res.2)) 0 0 4 [(0, .ref (G.2.1 + 292)), (1, .int v1), (2, .int v2)] [] σ) : ∀ (n : Nat) (v1 : Int32) (v2 : Int32) (v3 : Int32) (σ : q_S), f_X10_kindHere_12 k4 n v1 v2 v3 σ = some res → q_Wq X G x 4 (q_MQ X G (q_Qi G x res.1 res.2)) 0 0 12 [(0, .ref (G.2.1 + 292)), (1, .int v1), (2, .int v2), (3, .int v3)] [] σ := by
  intro n
  induction n with
  | zero => exact fun _ _ _ _ h => nomatch (show (none : Option (Int32 × q_S)) = some res from h)
  | succ n ih =>
    intro v1 v2 v3 σ h
    rw [f_X10_kindHere_12] at h
    refine q_iload_n hx dX10_kindHere_12 2 rfl ?_
    refine q_iload_n hx dX10_kindHere_13 3 rfl ?_
    refine q_callSi (As := [.int v2, .int v3]) (rest := []) hx q_kR0 (c_X10_letter (q_Xl X) G x σ v2 v3) q_ml_X10_305 q_mn_X10_letter q_ms_X10_letter (by decide) rfl (Nat.le_of_ble_eq_true rfl) dX10_kindHere_14 rfl ?_
    refine q_if_le hx 58 dX10_kindHere_17 (by decide) (fun hc2 => ?_) (fun hc2 => ?_)
    · replace h := (if_pos hc2).symm.trans h
      refine q_sub [0, 1, 2, 3] rfl ?_
      exact s_X10_kindHere_58 hx hr hk4 v1 v2 v3 σ h
    · replace h := (if_neg hc2).symm.trans h
      refine q_aload_n hx dX10_kindHere_20 0 rfl ?_
      refine q_get (v := .int (σ 292 24)) hx q_fl_X10_85 dX10_kindHere_21 (q_ne kd_292 (by decide)) (q_e10 kd_292) rfl ?_
      refine q_iload_n hx dX10_kindHere_24 3 rfl ?_
      refine q_iadd hx dX10_kindHere_25 ?_
      refine q_aload_n hx dX10_kindHere_26 0 rfl ?_
      refine q_get (v := .int (σ 292 23)) hx q_fl_X10_82 dX10_kindHere_27 (q_ne kd_292 (by decide)) (q_e10 kd_292) rfl ?_
      refine q_icmp_ge hx 58 dX10_kindHere_30 (by decide) (fun hc5 => ?_) (fun hc5 => ?_)
      · replace h := (if_pos hc5).symm.trans h
        refine q_sub [0, 1, 2, 3] rfl ?_
        exact s_X10_kindHere_58 hx hr hk4 v1 v2 v3 σ h
      · replace h := (if_neg hc5).symm.trans h
        refine q_aload_n hx dX10_kindHere_33 0 rfl ?_
        refine q_get (v := .ref (G.2.1 + 299)) hx q_fl_X10_70 dX10_kindHere_34 (q_ne kd_292 (by decide)) (q_e10 kd_292) rfl ?_
        refine q_aload_n hx dX10_kindHere_37 0 rfl ?_
        refine q_get (v := .int (σ 292 24)) hx q_fl_X10_85 dX10_kindHere_38 (q_ne kd_292 (by decide)) (q_e10 kd_292) rfl ?_
        refine q_iload_n hx dX10_kindHere_41 3 rfl ?_
        refine q_iadd hx dX10_kindHere_42 ?_
        by_cases hg6 : (((σ 292 24) + v3) < 0 ∨ 60 ≤ ((σ 292 24) + v3).toNatClampNeg)
        · rw [if_pos hg6] at h; exact nomatch h
        replace h := (if_neg hg6).symm.trans h
        refine q_iald (N := 60) hx dX10_kindHere_43 kd_299 (by first | decide | assumption) hg6 ?_
        refine q_iload_n hx dX10_kindHere_44 2 rfl ?_
        refine q_iload_n hx dX10_kindHere_45 3 rfl ?_
        refine q_callSi (As := [.int v2, .int v3]) (rest := [.int (σ 299 ((σ 292 24) + v3).toNatClampNeg)]) hx q_kR0 (c_X10_letter (q_Xl X) G x σ v2 v3) q_ml_X10_305 q_mn_X10_letter q_ms_X10_letter (by decide) rfl (Nat.le_of_ble_eq_true rfl) dX10_kindHere_46 rfl ?_
        refine q_icmp_ne hx 58 dX10_kindHere_49 (by decide) (fun hc7 => ?_) (fun hc7 => ?_)
        · replace h := (if_neg hc7).symm.trans h
          refine q_sub [0, 1, 2, 3] rfl ?_
          exact s_X10_kindHere_58 hx hr hk4 v1 v2 v3 σ h
        · replace h := (if_pos hc7).symm.trans h
          refine q_iinc hx [(3, .int (v3 + 1)), (0, .ref (G.2.1 + 292)), (1, .int v1), (2, .int v2)] dX10_kindHere_52 3 rfl rfl (by decide) rfl ?_
          refine q_goto hx 12 dX10_kindHere_55 (by decide) ?_
          refine q_sub [1, 2, 3, 0] rfl ?_
          exact ih v1 v2 (v3 + 1) σ h
def f_X10_kindHere_4 : Nat → Int32 → Int32 → q_S → Option (Int32 × q_S)
  | 0, _, _, _ => none
  | n + 1, v1, v2, σ =>
    if 8 ≤ v2 then (some ((0, q_up (q_up σ 292 24 ((σ 292 24) + v1)) 292 26 1))) else (f_X10_kindHere_12 (f_X10_kindHere_4 n) q_fu v1 v2 0 σ)
set_option maxHeartbeats 4000000 in
set_option maxRecDepth 100000 in
theorem s_X10_kindHere_4 {X : q_X} {G : q_G} {x : q_A} (hx : q_Cx X G RX10 cX10_kindHere 4 3) (hr : (q_Xm X).sig.returnType = some .int) {res : Int32 × q_S} : ∀ (n : Nat) (v1 : Int32) (v2 : Int32) (σ : q_S), f_X10_kindHere_4 n v1 v2 σ = some res → q_Wq X G x 4 (q_MQ X G (q_Qi G x res.1 res.2)) 0 0 4 [(0, .ref (G.2.1 + 292)), (1, .int v1), (2, .int v2)] [] σ := by
  intro n
  induction n with
  | zero => exact fun _ _ _ h => nomatch (show (none : Option (Int32 × q_S)) = some res from h)
  | succ n ih =>
    intro v1 v2 σ h
    rw [f_X10_kindHere_4] at h
    refine q_iload_n hx dX10_kindHere_4 2 rfl ?_
    refine q_bipush (v := 8) hx dX10_kindHere_5 (by decide) ?_
    refine q_icmp_ge hx 95 dX10_kindHere_7 (by decide) (fun hc1 => ?_) (fun hc1 => ?_)
    · replace h := (if_pos hc1).symm.trans h
      refine q_aload_n hx dX10_kindHere_95 0 rfl ?_
      refine q_dup hx dX10_kindHere_96 rfl ?_
      refine q_get (v := .int (σ 292 24)) hx q_fl_X10_85 dX10_kindHere_97 (q_ne kd_292 (by decide)) (q_e10 kd_292) rfl ?_
      refine q_iload_n hx dX10_kindHere_100 1 rfl ?_
      refine q_iadd hx dX10_kindHere_101 ?_
      refine q_put (v := (σ 292 24) + v1) hx q_fl_X10_85 q_fp_10_24 dX10_kindHere_102 (q_ne kd_292 (by decide)) (q_e10 kd_292) (by rw [q_l10]; decide) rfl rfl (by rw [q_e10 kd_292, q_s10_24]) ?_
      refine q_aload_n hx dX10_kindHere_105 0 rfl ?_
      refine q_iconst (v := 1) hx dX10_kindHere_106 (by decide) ?_
      refine q_put (v := 1) hx q_fl_X10_91 q_fp_10_26 dX10_kindHere_107 (q_ne kd_292 (by decide)) (q_e10 kd_292) (by rw [q_l10]; decide) rfl rfl (by rw [q_e10 kd_292, q_s10_26]) ?_
      refine q_iconst (v := 0) hx dX10_kindHere_110 (by decide) ?_
      cases h
      exact q_iret hx hr dX10_kindHere_111
    · replace h := (if_neg hc1).symm.trans h
      refine q_iconst (v := 0) hx dX10_kindHere_10 (by decide) ?_
      refine q_istore_n hx [(3, .int 0), (0, .ref (G.2.1 + 292)), (1, .int v1), (2, .int v2)] dX10_kindHere_11 (by decide) rfl ?_
      refine q_sub [1, 2, 3, 0] rfl ?_
      exact s_X10_kindHere_12 hx hr (fun v1 v2 σ h => ih v1 v2 σ h) q_fu v1 v2 0 σ h
def f_X10_kindHere (σ : q_S) : Option (Int32 × q_S) :=
  f_X10_kindHere_4 q_fu 0 0 σ
set_option maxHeartbeats 4000000 in
set_option maxRecDepth 100000 in
theorem c_X10_kindHere (l : Launch) (G : q_G) (x : q_A) (σ : q_S)   {res : Int32 × q_S} (h : f_X10_kindHere σ = some res) : q_Met l yX10_kindHere cX10_kindHere 4 (some .int) 3 G [.ref (G.2.1 + 292)] σ x (q_Qi G x res.1 res.2) := by
  refine q_of (by decide) (Nat.le_of_ble_eq_true rfl) (fun X hl0 hx hr => ?_)
  subst hl0
  have hx : q_Cx X G RX10 cX10_kindHere 4 3 := hx
  unfold f_X10_kindHere at h
  show q_Wq X G x 4 (q_MQ X G (q_Qi G x res.1 res.2)) 0 0 0 [(0, .ref (G.2.1 + 292))] [] σ
  refine q_iconst (v := 0) hx dX10_kindHere_0 (by decide) ?_
  refine q_istore_n hx [(1, .int 0), (0, .ref (G.2.1 + 292))] dX10_kindHere_1 (by decide) rfl ?_
  refine q_iconst (v := 0) hx dX10_kindHere_2 (by decide) ?_
  refine q_istore_n hx [(2, .int 0), (1, .int 0), (0, .ref (G.2.1 + 292))] dX10_kindHere_3 (by decide) rfl ?_
  refine q_sub [2, 1, 0] rfl ?_
  exact s_X10_kindHere_4 hx hr q_fu 0 0 σ h
-- X10_command
def f_X10_command_119 (v1 : Int32) (v2 : Int32) (v3 : Int32) (v4 : Int32) (σ : q_S) : Option (q_S) :=
  if (σ 292 26) = 0 then (if ((σ 292 25) < 0 ∨ 32 ≤ (σ 292 25).toNatClampNeg) then none else if ((3 * ((q_up σ 300 (σ 292 25).toNatClampNeg v1) 292 25)) < 0 ∨ 96 ≤ (3 * ((q_up σ 300 (σ 292 25).toNatClampNeg v1) 292 25)).toNatClampNeg) then none else if (((3 * ((q_up (q_up σ 300 (σ 292 25).toNatClampNeg v1) 301 (3 * ((q_up σ 300 (σ 292 25).toNatClampNeg v1) 292 25)).toNatClampNeg v2) 292 25)) + 1) < 0 ∨ 96 ≤ ((3 * ((q_up (q_up σ 300 (σ 292 25).toNatClampNeg v1) 301 (3 * ((q_up σ 300 (σ 292 25).toNatClampNeg v1) 292 25)).toNatClampNeg v2) 292 25)) + 1).toNatClampNeg) then none else if (((3 * ((q_up (q_up (q_up σ 300 (σ 292 25).toNatClampNeg v1) 301 (3 * ((q_up σ 300 (σ 292 25).toNatClampNeg v1) 292 25)).toNatClampNeg v2) 301 ((3 * ((q_up (q_up σ 300 (σ 292 25).toNatClampNeg v1) 301 (3 * ((q_up σ 300 (σ 292 25).toNatClampNeg v1) 292 25)).toNatClampNeg v2) 292 25)) + 1).toNatClampNeg v3) 292 25)) + 2) < 0 ∨ 96 ≤ ((3 * ((q_up (q_up (q_up σ 300 (σ 292 25).toNatClampNeg v1) 301 (3 * ((q_up σ 300 (σ 292 25).toNatClampNeg v1) 292 25)).toNatClampNeg v2) 301 ((3 * ((q_up (q_up σ 300 (σ 292 25).toNatClampNeg v1) 301 (3 * ((q_up σ 300 (σ 292 25).toNatClampNeg v1) 292 25)).toNatClampNeg v2) 292 25)) + 1).toNatClampNeg v3) 292 25)) + 2).toNatClampNeg) then none else some (q_up (q_up (q_up (q_up (q_up σ 300 (σ 292 25).toNatClampNeg v1) 301 (3 * ((q_up σ 300 (σ 292 25).toNatClampNeg v1) 292 25)).toNatClampNeg v2) 301 ((3 * ((q_up (q_up σ 300 (σ 292 25).toNatClampNeg v1) 301 (3 * ((q_up σ 300 (σ 292 25).toNatClampNeg v1) 292 25)).toNatClampNeg v2) 292 25)) + 1).toNatClampNeg v3) 301 ((3 * ((q_up (q_up (q_up σ 300 (σ 292 25).toNatClampNeg v1) 301 (3 * ((q_up σ 300 (σ 292 25).toNatClampNeg v1) 292 25)).toNatClampNeg v2) 301 ((3 * ((q_up (q_up σ 300 (σ 292 25).toNatClampNeg v1) 301 (3 * ((q_up σ 300 (σ 292 25).toNatClampNeg v1) 292 25)).toNatClampNeg v2) 292 25)) + 1).toNatClampNeg v3) 292 25)) + 2).toNatClampNeg v4) 292 25 (((q_up (q_up (q_up (q_up σ 300 (σ 292 25).toNatClampNeg v1) 301 (3 * ((q_up σ 300 (σ 292 25).toNatClampNeg v1) 292 25)).toNatClampNeg v2) 301 ((3 * ((q_up (q_up σ 300 (σ 292 25).toNatClampNeg v1) 301 (3 * ((q_up σ 300 (σ 292 25).toNatClampNeg v1) 292 25)).toNatClampNeg v2) 292 25)) + 1).toNatClampNeg v3) 301 ((3 * ((q_up (q_up (q_up σ 300 (σ 292 25).toNatClampNeg v1) 301 (3 * ((q_up σ 300 (σ 292 25).toNatClampNeg v1) 292 25)).toNatClampNeg v2) 301 ((3 * ((q_up (q_up σ 300 (σ 292 25).toNatClampNeg v1) 301 (3 * ((q_up σ 300 (σ 292 25).toNatClampNeg v1) 292 25)).toNatClampNeg v2) 292 25)) + 1).toNatClampNeg v3) 292 25)) + 2).toNatClampNeg v4) 292 25) + 1))) else (some σ)
set_option maxHeartbeats 4000000 in
set_option maxRecDepth 100000 in
theorem s_X10_command_119 {X : q_X} {G : q_G} {x : q_A} (hx : q_Cx X G RX10 cX10_command 6 5) (hr : (q_Xm X).sig.returnType = none) {res : q_S} : ∀ (v1 : Int32) (v2 : Int32) (v3 : Int32) (v4 : Int32) (σ : q_S), f_X10_command_119 v1 v2 v3 v4 σ = some res → q_Wq X G x 6 (q_MQ X G (q_Qv G x res)) 0 0 119 [(0, .ref (G.2.1 + 292)), (1, .int v1), (2, .int v2), (3, .int v3), (4, .int v4)] [] σ := by
  intro v1 v2 v3 v4 σ h
  unfold f_X10_command_119 at h
  refine q_aload_n hx dX10_command_119 0 rfl ?_
  refine q_get (v := .int (σ 292 26)) hx q_fl_X10_91 dX10_command_120 (q_ne kd_292 (by decide)) (q_e10 kd_292) rfl ?_
  refine q_if_eq hx 127 dX10_command_123 (by decide) (fun hc12 => ?_) (fun hc12 => ?_)
  · replace h := (if_pos hc12).symm.trans h
    refine q_aload_n hx dX10_command_127 0 rfl ?_
    refine q_get (v := .ref (G.2.1 + 300)) hx q_fl_X10_73 dX10_command_128 (q_ne kd_292 (by decide)) (q_e10 kd_292) rfl ?_
    refine q_aload_n hx dX10_command_131 0 rfl ?_
    refine q_get (v := .int (σ 292 25)) hx q_fl_X10_88 dX10_command_132 (q_ne kd_292 (by decide)) (q_e10 kd_292) rfl ?_
    refine q_iload_n hx dX10_command_135 1 rfl ?_
    by_cases hg13 : ((σ 292 25) < 0 ∨ 32 ≤ (σ 292 25).toNatClampNeg)
    · rw [if_pos hg13] at h; exact nomatch h
    replace h := (if_neg hg13).symm.trans h
    refine q_iast (N := 32) hx dX10_command_136 kd_300 (by first | decide | assumption) hg13 ?_
    refine q_aload_n hx dX10_command_137 0 rfl ?_
    refine q_get (v := .ref (G.2.1 + 301)) hx q_fl_X10_76 dX10_command_138 (q_ne kd_292 (by decide)) (q_e10 kd_292) rfl ?_
    refine q_iconst (v := 3) hx dX10_command_141 (by decide) ?_
    refine q_aload_n hx dX10_command_142 0 rfl ?_
    refine q_get (v := .int ((q_up σ 300 (σ 292 25).toNatClampNeg v1) 292 25)) hx q_fl_X10_88 dX10_command_143 (q_ne kd_292 (by decide)) (q_e10 kd_292) rfl ?_
    refine q_imul hx dX10_command_146 ?_
    refine q_iload_n hx dX10_command_147 2 rfl ?_
    by_cases hg14 : ((3 * ((q_up σ 300 (σ 292 25).toNatClampNeg v1) 292 25)) < 0 ∨ 96 ≤ (3 * ((q_up σ 300 (σ 292 25).toNatClampNeg v1) 292 25)).toNatClampNeg)
    · rw [if_pos hg14] at h; exact nomatch h
    replace h := (if_neg hg14).symm.trans h
    refine q_iast (N := 96) hx dX10_command_148 kd_301 (by first | decide | assumption) hg14 ?_
    refine q_aload_n hx dX10_command_149 0 rfl ?_
    refine q_get (v := .ref (G.2.1 + 301)) hx q_fl_X10_76 dX10_command_150 (q_ne kd_292 (by decide)) (q_e10 kd_292) rfl ?_
    refine q_iconst (v := 3) hx dX10_command_153 (by decide) ?_
    refine q_aload_n hx dX10_command_154 0 rfl ?_
    refine q_get (v := .int ((q_up (q_up σ 300 (σ 292 25).toNatClampNeg v1) 301 (3 * ((q_up σ 300 (σ 292 25).toNatClampNeg v1) 292 25)).toNatClampNeg v2) 292 25)) hx q_fl_X10_88 dX10_command_155 (q_ne kd_292 (by decide)) (q_e10 kd_292) rfl ?_
    refine q_imul hx dX10_command_158 ?_
    refine q_iconst (v := 1) hx dX10_command_159 (by decide) ?_
    refine q_iadd hx dX10_command_160 ?_
    refine q_iload_n hx dX10_command_161 3 rfl ?_
    by_cases hg15 : (((3 * ((q_up (q_up σ 300 (σ 292 25).toNatClampNeg v1) 301 (3 * ((q_up σ 300 (σ 292 25).toNatClampNeg v1) 292 25)).toNatClampNeg v2) 292 25)) + 1) < 0 ∨ 96 ≤ ((3 * ((q_up (q_up σ 300 (σ 292 25).toNatClampNeg v1) 301 (3 * ((q_up σ 300 (σ 292 25).toNatClampNeg v1) 292 25)).toNatClampNeg v2) 292 25)) + 1).toNatClampNeg)
    · rw [if_pos hg15] at h; exact nomatch h
    replace h := (if_neg hg15).symm.trans h
    refine q_iast (N := 96) hx dX10_command_162 kd_301 (by first | decide | assumption) hg15 ?_
    refine q_aload_n hx dX10_command_163 0 rfl ?_
    refine q_get (v := .ref (G.2.1 + 301)) hx q_fl_X10_76 dX10_command_164 (q_ne kd_292 (by decide)) (q_e10 kd_292) rfl ?_
    refine q_iconst (v := 3) hx dX10_command_167 (by decide) ?_
    refine q_aload_n hx dX10_command_168 0 rfl ?_
    refine q_get (v := .int ((q_up (q_up (q_up σ 300 (σ 292 25).toNatClampNeg v1) 301 (3 * ((q_up σ 300 (σ 292 25).toNatClampNeg v1) 292 25)).toNatClampNeg v2) 301 ((3 * ((q_up (q_up σ 300 (σ 292 25).toNatClampNeg v1) 301 (3 * ((q_up σ 300 (σ 292 25).toNatClampNeg v1) 292 25)).toNatClampNeg v2) 292 25)) + 1).toNatClampNeg v3) 292 25)) hx q_fl_X10_88 dX10_command_169 (q_ne kd_292 (by decide)) (q_e10 kd_292) rfl ?_
    refine q_imul hx dX10_command_172 ?_
    refine q_iconst (v := 2) hx dX10_command_173 (by decide) ?_
    refine q_iadd hx dX10_command_174 ?_
    refine q_iload hx dX10_command_175 4 rfl ?_
    by_cases hg16 : (((3 * ((q_up (q_up (q_up σ 300 (σ 292 25).toNatClampNeg v1) 301 (3 * ((q_up σ 300 (σ 292 25).toNatClampNeg v1) 292 25)).toNatClampNeg v2) 301 ((3 * ((q_up (q_up σ 300 (σ 292 25).toNatClampNeg v1) 301 (3 * ((q_up σ 300 (σ 292 25).toNatClampNeg v1) 292 25)).toNatClampNeg v2) 292 25)) + 1).toNatClampNeg v3) 292 25)) + 2) < 0 ∨ 96 ≤ ((3 * ((q_up (q_up (q_up σ 300 (σ 292 25).toNatClampNeg v1) 301 (3 * ((q_up σ 300 (σ 292 25).toNatClampNeg v1) 292 25)).toNatClampNeg v2) 301 ((3 * ((q_up (q_up σ 300 (σ 292 25).toNatClampNeg v1) 301 (3 * ((q_up σ 300 (σ 292 25).toNatClampNeg v1) 292 25)).toNatClampNeg v2) 292 25)) + 1).toNatClampNeg v3) 292 25)) + 2).toNatClampNeg)
    · rw [if_pos hg16] at h; exact nomatch h
    replace h := (if_neg hg16).symm.trans h
    refine q_iast (N := 96) hx dX10_command_177 kd_301 (by first | decide | assumption) hg16 ?_
    refine q_aload_n hx dX10_command_178 0 rfl ?_
    refine q_dup hx dX10_command_179 rfl ?_
    refine q_get (v := .int ((q_up (q_up (q_up (q_up σ 300 (σ 292 25).toNatClampNeg v1) 301 (3 * ((q_up σ 300 (σ 292 25).toNatClampNeg v1) 292 25)).toNatClampNeg v2) 301 ((3 * ((q_up (q_up σ 300 (σ 292 25).toNatClampNeg v1) 301 (3 * ((q_up σ 300 (σ 292 25).toNatClampNeg v1) 292 25)).toNatClampNeg v2) 292 25)) + 1).toNatClampNeg v3) 301 ((3 * ((q_up (q_up (q_up σ 300 (σ 292 25).toNatClampNeg v1) 301 (3 * ((q_up σ 300 (σ 292 25).toNatClampNeg v1) 292 25)).toNatClampNeg v2) 301 ((3 * ((q_up (q_up σ 300 (σ 292 25).toNatClampNeg v1) 301 (3 * ((q_up σ 300 (σ 292 25).toNatClampNeg v1) 292 25)).toNatClampNeg v2) 292 25)) + 1).toNatClampNeg v3) 292 25)) + 2).toNatClampNeg v4) 292 25)) hx q_fl_X10_88 dX10_command_180 (q_ne kd_292 (by decide)) (q_e10 kd_292) rfl ?_
    refine q_iconst (v := 1) hx dX10_command_183 (by decide) ?_
    refine q_iadd hx dX10_command_184 ?_
    refine q_put (v := ((q_up (q_up (q_up (q_up σ 300 (σ 292 25).toNatClampNeg v1) 301 (3 * ((q_up σ 300 (σ 292 25).toNatClampNeg v1) 292 25)).toNatClampNeg v2) 301 ((3 * ((q_up (q_up σ 300 (σ 292 25).toNatClampNeg v1) 301 (3 * ((q_up σ 300 (σ 292 25).toNatClampNeg v1) 292 25)).toNatClampNeg v2) 292 25)) + 1).toNatClampNeg v3) 301 ((3 * ((q_up (q_up (q_up σ 300 (σ 292 25).toNatClampNeg v1) 301 (3 * ((q_up σ 300 (σ 292 25).toNatClampNeg v1) 292 25)).toNatClampNeg v2) 301 ((3 * ((q_up (q_up σ 300 (σ 292 25).toNatClampNeg v1) 301 (3 * ((q_up σ 300 (σ 292 25).toNatClampNeg v1) 292 25)).toNatClampNeg v2) 292 25)) + 1).toNatClampNeg v3) 292 25)) + 2).toNatClampNeg v4) 292 25) + 1) hx q_fl_X10_88 q_fp_10_25 dX10_command_185 (q_ne kd_292 (by decide)) (q_e10 kd_292) (by rw [q_l10]; decide) rfl rfl (by rw [q_e10 kd_292, q_s10_25]) ?_
    cases h
    exact q_vret hx hr dX10_command_188
  · replace h := (if_neg hc12).symm.trans h
    cases h
    exact q_vret hx hr dX10_command_126
def f_X10_command_98 (v1 : Int32) (v2 : Int32) (v3 : Int32) (v4 : Int32) (σ : q_S) : Option (q_S) :=
  if v1 = 4 then (Option.bind (f_X10_takesSign σ) (fun q17 => Option.bind (f_X10_digits q17.2 1) (fun q18 => f_X10_command_119 v1 v2 v3 (q17.1 * q18.1) q18.2))) else (f_X10_command_119 v1 v2 v3 v4 σ)
set_option maxHeartbeats 4000000 in
set_option maxRecDepth 100000 in
theorem s_X10_command_98 {X : q_X} {G : q_G} {x : q_A} (hx : q_Cx X G RX10 cX10_command 6 5) (hr : (q_Xm X).sig.returnType = none) {res : q_S} : ∀ (v1 : Int32) (v2 : Int32) (v3 : Int32) (v4 : Int32) (σ : q_S), f_X10_command_98 v1 v2 v3 v4 σ = some res → q_Wq X G x 6 (q_MQ X G (q_Qv G x res)) 0 0 98 [(0, .ref (G.2.1 + 292)), (1, .int v1), (2, .int v2), (3, .int v3), (4, .int v4)] [] σ := by
  intro v1 v2 v3 v4 σ h
  unfold f_X10_command_98 at h
  refine q_iload_n hx dX10_command_98 1 rfl ?_
  refine q_iconst (v := 4) hx dX10_command_99 (by decide) ?_
  refine q_icmp_ne hx 119 dX10_command_100 (by decide) (fun hc11 => ?_) (fun hc11 => ?_)
  · replace h := (if_neg hc11).symm.trans h
    refine q_sub [0, 1, 2, 3, 4] rfl ?_
    exact s_X10_command_119 hx hr v1 v2 v3 v4 σ h
  · replace h := (if_pos hc11).symm.trans h
    refine q_aload_n hx dX10_command_103 0 rfl ?_
    refine q_bindE h (fun q17 hq17 h => ?_)
    refine q_callVi (As := []) (rest := []) hx q_kR0 (c_X10_takesSign (q_Xl X) G x σ  hq17) q_ml_X10_317 q_mn_X10_takesSign q_mi_X10_takesSign q_se_X10_takesSign (by decide) rfl (Nat.le_of_ble_eq_true rfl) dX10_command_104 (q_ne kd_292 (by decide)) (q_e10 kd_292) rfl rfl rfl ?_
    refine q_istore hx [(5, .int q17.1), (0, .ref (G.2.1 + 292)), (1, .int v1), (2, .int v2), (3, .int v3), (4, .int v4)] dX10_command_107 (by decide) rfl ?_
    refine q_iload hx dX10_command_109 0 rfl ?_
    refine q_aload_n hx dX10_command_111 1 rfl ?_
    refine q_iconst (v := 1) hx dX10_command_112 (by decide) ?_
    refine q_bindE h (fun q18 hq18 h => ?_)
    refine q_callVi (As := [.int 1]) (rest := [.int q17.1]) hx q_kR0 (c_X10_digits (q_Xl X) G x q17.2 1 hq18) q_ml_X10_298 q_mn_X10_digits q_mi_X10_digits q_se_X10_digits (by decide) rfl (Nat.le_of_ble_eq_true rfl) dX10_command_113 (q_ne kd_292 (by decide)) (q_e10 kd_292) rfl rfl rfl ?_
    refine q_imul hx dX10_command_116 ?_
    refine q_istore hx [(4, .int (q17.1 * q18.1)), (5, .int q17.1), (0, .ref (G.2.1 + 292)), (1, .int v1), (2, .int v2), (3, .int v3)] dX10_command_117 (by decide) rfl ?_
    refine q_sub [2, 3, 4, 5, 0] rfl ?_
    exact s_X10_command_119 hx hr v1 v2 v3 (q17.1 * q18.1) q18.2 h
def f_X10_command_81 (v1 : Int32) (v2 : Int32) (v3 : Int32) (v4 : Int32) (σ : q_S) : Option (q_S) :=
  if v1 = 3 then (Option.bind (f_X10_takesDirection σ) (fun q19 => Option.bind (f_X10_digits q19.2 1) (fun q20 => f_X10_command_98 v1 v2 q19.1 q20.1 q20.2))) else (f_X10_command_98 v1 v2 v3 v4 σ)
set_option maxHeartbeats 4000000 in
set_option maxRecDepth 100000 in
theorem s_X10_command_81 {X : q_X} {G : q_G} {x : q_A} (hx : q_Cx X G RX10 cX10_command 6 5) (hr : (q_Xm X).sig.returnType = none) {res : q_S} : ∀ (v1 : Int32) (v2 : Int32) (v3 : Int32) (v4 : Int32) (σ : q_S), f_X10_command_81 v1 v2 v3 v4 σ = some res → q_Wq X G x 6 (q_MQ X G (q_Qv G x res)) 0 0 81 [(0, .ref (G.2.1 + 292)), (1, .int v1), (2, .int v2), (3, .int v3), (4, .int v4)] [] σ := by
  intro v1 v2 v3 v4 σ h
  unfold f_X10_command_81 at h
  refine q_iload_n hx dX10_command_81 1 rfl ?_
  refine q_iconst (v := 3) hx dX10_command_82 (by decide) ?_
  refine q_icmp_ne hx 98 dX10_command_83 (by decide) (fun hc10 => ?_) (fun hc10 => ?_)
  · replace h := (if_neg hc10).symm.trans h
    refine q_sub [0, 1, 2, 3, 4] rfl ?_
    exact s_X10_command_98 hx hr v1 v2 v3 v4 σ h
  · replace h := (if_pos hc10).symm.trans h
    refine q_aload_n hx dX10_command_86 0 rfl ?_
    refine q_bindE h (fun q19 hq19 h => ?_)
    refine q_callVi (As := []) (rest := []) hx q_kR0 (c_X10_takesDirection (q_Xl X) G x σ  hq19) q_ml_X10_314 q_mn_X10_takesDirection q_mi_X10_takesDirection q_se_X10_takesDirection (by decide) rfl (Nat.le_of_ble_eq_true rfl) dX10_command_87 (q_ne kd_292 (by decide)) (q_e10 kd_292) rfl rfl rfl ?_
    refine q_istore_n hx [(3, .int q19.1), (0, .ref (G.2.1 + 292)), (1, .int v1), (2, .int v2), (4, .int v4)] dX10_command_90 (by decide) rfl ?_
    refine q_aload_n hx dX10_command_91 1 rfl ?_
    refine q_iconst (v := 1) hx dX10_command_92 (by decide) ?_
    refine q_bindE h (fun q20 hq20 h => ?_)
    refine q_callVi (As := [.int 1]) (rest := []) hx q_kR0 (c_X10_digits (q_Xl X) G x q19.2 1 hq20) q_ml_X10_298 q_mn_X10_digits q_mi_X10_digits q_se_X10_digits (by decide) rfl (Nat.le_of_ble_eq_true rfl) dX10_command_93 (q_ne kd_292 (by decide)) (q_e10 kd_292) rfl rfl rfl ?_
    refine q_istore hx [(4, .int q20.1), (3, .int q19.1), (0, .ref (G.2.1 + 292)), (1, .int v1), (2, .int v2)] dX10_command_96 (by decide) rfl ?_
    refine q_sub [2, 3, 4, 1, 0] rfl ?_
    exact s_X10_command_98 hx hr v1 v2 q19.1 q20.1 q20.2 h
def f_X10_command_74 (v1 : Int32) (v2 : Int32) (v3 : Int32) (σ : q_S) : Option (q_S) :=
  Option.bind (f_X10_behindBlank σ 1) (fun q9 => f_X10_command_81 v1 v2 v3 q9.1 q9.2)
set_option maxHeartbeats 4000000 in
set_option maxRecDepth 100000 in
theorem s_X10_command_74 {X : q_X} {G : q_G} {x : q_A} (hx : q_Cx X G RX10 cX10_command 6 5) (hr : (q_Xm X).sig.returnType = none) {res : q_S} : ∀ (v1 : Int32) (v2 : Int32) (v3 : Int32) (σ : q_S), f_X10_command_74 v1 v2 v3 σ = some res → q_Wq X G x 6 (q_MQ X G (q_Qv G x res)) 0 0 74 [(0, .ref (G.2.1 + 292)), (1, .int v1), (2, .int v2), (3, .int v3)] [] σ := by
  intro v1 v2 v3 σ h
  unfold f_X10_command_74 at h
  refine q_aload_n hx dX10_command_74 0 rfl ?_
  refine q_iconst (v := 1) hx dX10_command_75 (by decide) ?_
  refine q_bindE h (fun q9 hq9 h => ?_)
  refine q_callVi (As := [.int 1]) (rest := []) hx q_kR0 (c_X10_behindBlank (q_Xl X) G x σ 1 hq9) q_ml_X10_311 q_mn_X10_behindBlank q_mi_X10_behindBlank q_se_X10_behindBlank (by decide) rfl (Nat.le_of_ble_eq_true rfl) dX10_command_76 (q_ne kd_292 (by decide)) (q_e10 kd_292) rfl rfl rfl ?_
  refine q_istore hx [(4, .int q9.1), (0, .ref (G.2.1 + 292)), (1, .int v1), (2, .int v2), (3, .int v3)] dX10_command_79 (by decide) rfl ?_
  refine q_sub [1, 2, 3, 4, 0] rfl ?_
  exact s_X10_command_81 hx hr v1 v2 v3 q9.1 q9.2 h
def f_X10_command_64 (v1 : Int32) (v2 : Int32) (v3 : Int32) (v4 : Int32) (σ : q_S) : Option (q_S) :=
  if v1 = 1 then (f_X10_command_74 v1 v2 v3 σ) else (if v1 = 2 then (f_X10_command_74 v1 v2 v3 σ) else (f_X10_command_81 v1 v2 v3 v4 σ))
set_option maxHeartbeats 4000000 in
set_option maxRecDepth 100000 in
theorem s_X10_command_64 {X : q_X} {G : q_G} {x : q_A} (hx : q_Cx X G RX10 cX10_command 6 5) (hr : (q_Xm X).sig.returnType = none) {res : q_S} : ∀ (v1 : Int32) (v2 : Int32) (v3 : Int32) (v4 : Int32) (σ : q_S), f_X10_command_64 v1 v2 v3 v4 σ = some res → q_Wq X G x 6 (q_MQ X G (q_Qv G x res)) 0 0 64 [(0, .ref (G.2.1 + 292)), (1, .int v1), (2, .int v2), (3, .int v3), (4, .int v4)] [] σ := by
  intro v1 v2 v3 v4 σ h
  unfold f_X10_command_64 at h
  refine q_iload_n hx dX10_command_64 1 rfl ?_
  refine q_iconst (v := 1) hx dX10_command_65 (by decide) ?_
  refine q_icmp_eq hx 74 dX10_command_66 (by decide) (fun hc8 => ?_) (fun hc8 => ?_)
  · replace h := (if_pos hc8).symm.trans h
    refine q_sub [0, 1, 2, 3] rfl ?_
    exact s_X10_command_74 hx hr v1 v2 v3 σ h
  · replace h := (if_neg hc8).symm.trans h
    refine q_iload_n hx dX10_command_69 1 rfl ?_
    refine q_iconst (v := 2) hx dX10_command_70 (by decide) ?_
    refine q_icmp_ne hx 81 dX10_command_71 (by decide) (fun hc21 => ?_) (fun hc21 => ?_)
    · replace h := (if_neg hc21).symm.trans h
      refine q_sub [0, 1, 2, 3, 4] rfl ?_
      exact s_X10_command_81 hx hr v1 v2 v3 v4 σ h
    · replace h := (if_pos hc21).symm.trans h
      refine q_sub [0, 1, 2, 3] rfl ?_
      exact s_X10_command_74 hx hr v1 v2 v3 σ h
def f_X10_command_58 (v1 : Int32) (v2 : Int32) (v4 : Int32) (σ : q_S) : Option (q_S) :=
  Option.bind (f_X10_behindBlank σ 2) (fun q7 => f_X10_command_64 v1 v2 q7.1 v4 q7.2)
set_option maxHeartbeats 4000000 in
set_option maxRecDepth 100000 in
theorem s_X10_command_58 {X : q_X} {G : q_G} {x : q_A} (hx : q_Cx X G RX10 cX10_command 6 5) (hr : (q_Xm X).sig.returnType = none) {res : q_S} : ∀ (v1 : Int32) (v2 : Int32) (v4 : Int32) (σ : q_S), f_X10_command_58 v1 v2 v4 σ = some res → q_Wq X G x 6 (q_MQ X G (q_Qv G x res)) 0 0 58 [(0, .ref (G.2.1 + 292)), (1, .int v1), (2, .int v2), (4, .int v4)] [] σ := by
  intro v1 v2 v4 σ h
  unfold f_X10_command_58 at h
  refine q_aload_n hx dX10_command_58 0 rfl ?_
  refine q_iconst (v := 2) hx dX10_command_59 (by decide) ?_
  refine q_bindE h (fun q7 hq7 h => ?_)
  refine q_callVi (As := [.int 2]) (rest := []) hx q_kR0 (c_X10_behindBlank (q_Xl X) G x σ 2 hq7) q_ml_X10_311 q_mn_X10_behindBlank q_mi_X10_behindBlank q_se_X10_behindBlank (by decide) rfl (Nat.le_of_ble_eq_true rfl) dX10_command_60 (q_ne kd_292 (by decide)) (q_e10 kd_292) rfl rfl rfl ?_
  refine q_istore_n hx [(3, .int q7.1), (0, .ref (G.2.1 + 292)), (1, .int v1), (2, .int v2), (4, .int v4)] dX10_command_63 (by decide) rfl ?_
  refine q_sub [1, 2, 3, 0, 4] rfl ?_
  exact s_X10_command_64 hx hr v1 v2 q7.1 v4 q7.2 h
def f_X10_command_48 (v1 : Int32) (v2 : Int32) (v3 : Int32) (v4 : Int32) (σ : q_S) : Option (q_S) :=
  if v1 = 2 then (f_X10_command_58 v1 v2 v4 σ) else (if v1 = 4 then (f_X10_command_58 v1 v2 v4 σ) else (f_X10_command_64 v1 v2 v3 v4 σ))
set_option maxHeartbeats 4000000 in
set_option maxRecDepth 100000 in
theorem s_X10_command_48 {X : q_X} {G : q_G} {x : q_A} (hx : q_Cx X G RX10 cX10_command 6 5) (hr : (q_Xm X).sig.returnType = none) {res : q_S} : ∀ (v1 : Int32) (v2 : Int32) (v3 : Int32) (v4 : Int32) (σ : q_S), f_X10_command_48 v1 v2 v3 v4 σ = some res → q_Wq X G x 6 (q_MQ X G (q_Qv G x res)) 0 0 48 [(0, .ref (G.2.1 + 292)), (1, .int v1), (2, .int v2), (3, .int v3), (4, .int v4)] [] σ := by
  intro v1 v2 v3 v4 σ h
  unfold f_X10_command_48 at h
  refine q_iload_n hx dX10_command_48 1 rfl ?_
  refine q_iconst (v := 2) hx dX10_command_49 (by decide) ?_
  refine q_icmp_eq hx 58 dX10_command_50 (by decide) (fun hc6 => ?_) (fun hc6 => ?_)
  · replace h := (if_pos hc6).symm.trans h
    refine q_sub [0, 1, 2, 4] rfl ?_
    exact s_X10_command_58 hx hr v1 v2 v4 σ h
  · replace h := (if_neg hc6).symm.trans h
    refine q_iload_n hx dX10_command_53 1 rfl ?_
    refine q_iconst (v := 4) hx dX10_command_54 (by decide) ?_
    refine q_icmp_ne hx 64 dX10_command_55 (by decide) (fun hc22 => ?_) (fun hc22 => ?_)
    · replace h := (if_neg hc22).symm.trans h
      refine q_sub [0, 1, 2, 3, 4] rfl ?_
      exact s_X10_command_64 hx hr v1 v2 v3 v4 σ h
    · replace h := (if_pos hc22).symm.trans h
      refine q_sub [0, 1, 2, 4] rfl ?_
      exact s_X10_command_58 hx hr v1 v2 v4 σ h
def f_X10_command_42 (v1 : Int32) (v2 : Int32) (v4 : Int32) (σ : q_S) : Option (q_S) :=
  Option.bind (f_X10_behindBlank σ 1) (fun q5 => f_X10_command_48 v1 v2 q5.1 v4 q5.2)
set_option maxHeartbeats 4000000 in
set_option maxRecDepth 100000 in
theorem s_X10_command_42 {X : q_X} {G : q_G} {x : q_A} (hx : q_Cx X G RX10 cX10_command 6 5) (hr : (q_Xm X).sig.returnType = none) {res : q_S} : ∀ (v1 : Int32) (v2 : Int32) (v4 : Int32) (σ : q_S), f_X10_command_42 v1 v2 v4 σ = some res → q_Wq X G x 6 (q_MQ X G (q_Qv G x res)) 0 0 42 [(0, .ref (G.2.1 + 292)), (1, .int v1), (2, .int v2), (4, .int v4)] [] σ := by
  intro v1 v2 v4 σ h
  unfold f_X10_command_42 at h
  refine q_aload_n hx dX10_command_42 0 rfl ?_
  refine q_iconst (v := 1) hx dX10_command_43 (by decide) ?_
  refine q_bindE h (fun q5 hq5 h => ?_)
  refine q_callVi (As := [.int 1]) (rest := []) hx q_kR0 (c_X10_behindBlank (q_Xl X) G x σ 1 hq5) q_ml_X10_311 q_mn_X10_behindBlank q_mi_X10_behindBlank q_se_X10_behindBlank (by decide) rfl (Nat.le_of_ble_eq_true rfl) dX10_command_44 (q_ne kd_292 (by decide)) (q_e10 kd_292) rfl rfl rfl ?_
  refine q_istore_n hx [(3, .int q5.1), (0, .ref (G.2.1 + 292)), (1, .int v1), (2, .int v2), (4, .int v4)] dX10_command_47 (by decide) rfl ?_
  refine q_sub [1, 2, 3, 0, 4] rfl ?_
  exact s_X10_command_48 hx hr v1 v2 q5.1 v4 q5.2 h
def f_X10_command_22 (v1 : Int32) (s0 : Int32) (σ : q_S) : Option (q_S) :=
  Option.bind (f_X10_behindBlank σ s0) (fun q3 => if v1 = 1 then (f_X10_command_42 v1 q3.1 0 q3.2) else (if v1 = 6 then (f_X10_command_42 v1 q3.1 0 q3.2) else (f_X10_command_48 v1 q3.1 0 0 q3.2)))
set_option maxHeartbeats 4000000 in
set_option maxRecDepth 100000 in
theorem s_X10_command_22 {X : q_X} {G : q_G} {x : q_A} (hx : q_Cx X G RX10 cX10_command 6 5) (hr : (q_Xm X).sig.returnType = none) {res : q_S} : ∀ (v1 : Int32) (s0 : Int32) (σ : q_S), f_X10_command_22 v1 s0 σ = some res → q_Wq X G x 6 (q_MQ X G (q_Qv G x res)) 0 0 22 [(0, .ref (G.2.1 + 292)), (1, .int v1)] [.int s0, .ref (G.2.1 + 292)] σ := by
  intro v1 s0 σ h
  unfold f_X10_command_22 at h
  refine q_bindE h (fun q3 hq3 h => ?_)
  refine q_callVi (As := [.int s0]) (rest := []) hx q_kR0 (c_X10_behindBlank (q_Xl X) G x σ s0 hq3) q_ml_X10_311 q_mn_X10_behindBlank q_mi_X10_behindBlank q_se_X10_behindBlank (by decide) rfl (Nat.le_of_ble_eq_true rfl) dX10_command_22 (q_ne kd_292 (by decide)) (q_e10 kd_292) rfl rfl rfl ?_
  refine q_istore_n hx [(2, .int q3.1), (0, .ref (G.2.1 + 292)), (1, .int v1)] dX10_command_25 (by decide) rfl ?_
  refine q_iconst (v := 0) hx dX10_command_26 (by decide) ?_
  refine q_istore_n hx [(3, .int 0), (2, .int q3.1), (0, .ref (G.2.1 + 292)), (1, .int v1)] dX10_command_27 (by decide) rfl ?_
  refine q_iconst (v := 0) hx dX10_command_28 (by decide) ?_
  refine q_istore hx [(4, .int 0), (3, .int 0), (2, .int q3.1), (0, .ref (G.2.1 + 292)), (1, .int v1)] dX10_command_29 (by decide) rfl ?_
  refine q_iload_n hx dX10_command_31 4 rfl ?_
  refine q_iconst (v := 1) hx dX10_command_32 (by decide) ?_
  refine q_icmp_eq hx 42 dX10_command_33 (by decide) (fun hc4 => ?_) (fun hc4 => ?_)
  · replace h := (if_pos hc4).symm.trans h
    refine q_sub [3, 4, 2, 0] rfl ?_
    exact s_X10_command_42 hx hr v1 q3.1 0 q3.2 h
  · replace h := (if_neg hc4).symm.trans h
    refine q_iload_n hx dX10_command_36 4 rfl ?_
    refine q_bipush (v := 6) hx dX10_command_37 (by decide) ?_
    refine q_icmp_ne hx 48 dX10_command_39 (by decide) (fun hc23 => ?_) (fun hc23 => ?_)
    · replace h := (if_neg hc23).symm.trans h
      refine q_sub [3, 4, 2, 1, 0] rfl ?_
      exact s_X10_command_48 hx hr v1 q3.1 0 0 q3.2 h
    · replace h := (if_pos hc23).symm.trans h
      refine q_sub [3, 4, 2, 0] rfl ?_
      exact s_X10_command_42 hx hr v1 q3.1 0 q3.2 h
def f_X10_command_17 (v1 : Int32) (σ : q_S) : Option (q_S) :=
  f_X10_command_22 v1 2 σ
set_option maxHeartbeats 4000000 in
set_option maxRecDepth 100000 in
theorem s_X10_command_17 {X : q_X} {G : q_G} {x : q_A} (hx : q_Cx X G RX10 cX10_command 6 5) (hr : (q_Xm X).sig.returnType = none) {res : q_S} : ∀ (v1 : Int32) (σ : q_S), f_X10_command_17 v1 σ = some res → q_Wq X G x 6 (q_MQ X G (q_Qv G x res)) 0 0 17 [(0, .ref (G.2.1 + 292)), (1, .int v1)] [.ref (G.2.1 + 292)] σ := by
  intro v1 σ h
  unfold f_X10_command_17 at h
  refine q_iconst (v := 2) hx dX10_command_17 (by decide) ?_
  refine q_goto hx 22 dX10_command_18 (by decide) ?_
  refine q_sub [0, 1] rfl ?_
  exact s_X10_command_22 hx hr v1 2 σ h
def f_X10_command (σ : q_S) : Option (q_S) :=
  Option.bind (f_X10_kindHere σ) (fun q1 => if q1.1 = 1 then (f_X10_command_17 q1.1 q1.2) else (if q1.1 = 7 then (f_X10_command_17 q1.1 q1.2) else (f_X10_command_22 q1.1 1 q1.2)))
set_option maxHeartbeats 4000000 in
set_option maxRecDepth 100000 in
theorem c_X10_command (l : Launch) (G : q_G) (x : q_A) (σ : q_S)   {res : q_S} (h : f_X10_command σ = some res) : q_Met l yX10_command cX10_command 6 (none) 5 G [.ref (G.2.1 + 292)] σ x (q_Qv G x res) := by
  refine q_of (by decide) (Nat.le_of_ble_eq_true rfl) (fun X hl0 hx hr => ?_)
  subst hl0
  have hx : q_Cx X G RX10 cX10_command 6 5 := hx
  unfold f_X10_command at h
  show q_Wq X G x 6 (q_MQ X G (q_Qv G x res)) 0 0 0 [(0, .ref (G.2.1 + 292))] [] σ
  refine q_aload_n hx dX10_command_0 0 rfl ?_
  refine q_bindE h (fun q1 hq1 h => ?_)
  refine q_callVi (As := []) (rest := []) hx q_kR0 (c_X10_kindHere (q_Xl X) G x σ  hq1) q_ml_X10_308 q_mn_X10_kindHere q_mi_X10_kindHere q_se_X10_kindHere (by decide) rfl (Nat.le_of_ble_eq_true rfl) dX10_command_1 (q_ne kd_292 (by decide)) (q_e10 kd_292) rfl rfl rfl ?_
  refine q_istore_n hx [(1, .int q1.1), (0, .ref (G.2.1 + 292))] dX10_command_4 (by decide) rfl ?_
  refine q_aload_n hx dX10_command_5 1 rfl ?_
  refine q_iload_n hx dX10_command_6 0 rfl ?_
  refine q_iconst (v := 1) hx dX10_command_7 (by decide) ?_
  refine q_icmp_eq hx 17 dX10_command_8 (by decide) (fun hc2 => ?_) (fun hc2 => ?_)
  · replace h := (if_pos hc2).symm.trans h
    refine q_sub [1, 0] rfl ?_
    exact s_X10_command_17 hx hr q1.1 q1.2 h
  · replace h := (if_neg hc2).symm.trans h
    refine q_iload_n hx dX10_command_11 0 rfl ?_
    refine q_bipush (v := 7) hx dX10_command_12 (by decide) ?_
    refine q_icmp_ne hx 21 dX10_command_14 (by decide) (fun hc24 => ?_) (fun hc24 => ?_)
    · replace h := (if_neg hc24).symm.trans h
      refine q_iconst (v := 1) hx dX10_command_21 (by decide) ?_
      refine q_sub [1, 0] rfl ?_
      exact s_X10_command_22 hx hr q1.1 1 q1.2 h
    · replace h := (if_pos hc24).symm.trans h
      refine q_sub [1, 0] rfl ?_
      exact s_X10_command_17 hx hr q1.1 q1.2 h
-- X10_reads
def f_X10_reads_32 : Nat → q_S → Option (q_S)
  | 0, _ => none
  | n + 1, σ =>
    Option.bind (f_X10_mark σ) (fun q2 => if q2 = 59 then (Option.bind (f_X10_command (q_up σ 292 24 ((σ 292 24) + 1))) (fun q7 => f_X10_reads_32 n q7)) else (if (σ 292 23) ≤ (σ 292 24) then (if ((σ 292 26) ||| 0 = 0 ∨ (σ 292 26) ||| 0 = 1) then some (q_up σ 292 26 ((σ 292 26) ||| 0)) else none) else (if ((σ 292 26) ||| 1 = 0 ∨ (σ 292 26) ||| 1 = 1) then some (q_up σ 292 26 ((σ 292 26) ||| 1)) else none)))
set_option maxHeartbeats 4000000 in
set_option maxRecDepth 100000 in
theorem s_X10_reads_32 {X : q_X} {G : q_G} {x : q_A} (hx : q_Cx X G RX10 cX10_reads 1 6) (hr : (q_Xm X).sig.returnType = none) {res : q_S} : ∀ (n : Nat) (σ : q_S), f_X10_reads_32 n σ = some res → q_Wq X G x 1 (q_MQ X G (q_Qv G x res)) 0 0 32 [(0, .ref (G.2.1 + 292))] [] σ := by
  intro n
  induction n with
  | zero => exact fun _ h => nomatch (show (none : Option (q_S)) = some res from h)
  | succ n ih =>
    intro σ h
    rw [f_X10_reads_32] at h
    refine q_aload_n hx dX10_reads_32 0 rfl ?_
    refine q_bindE h (fun q2 hq2 h => ?_)
    refine q_callVi (As := []) (rest := []) hx q_kR0 (c_X10_mark (q_Xl X) G x σ  hq2) q_ml_X10_288 q_mn_X10_mark q_mi_X10_mark q_se_X10_mark (by decide) rfl (Nat.le_of_ble_eq_true rfl) dX10_reads_33 (q_ne kd_292 (by decide)) (q_e10 kd_292) rfl rfl rfl ?_
    refine q_bipush (v := 59) hx dX10_reads_36 (by decide) ?_
    refine q_icmp_ne hx 58 dX10_reads_38 (by decide) (fun hc3 => ?_) (fun hc3 => ?_)
    · replace h := (if_neg hc3).symm.trans h
      refine q_aload_n hx dX10_reads_58 0 rfl ?_
      refine q_dup hx dX10_reads_59 rfl ?_
      refine q_get (v := .int (σ 292 26)) hx q_fl_X10_91 dX10_reads_60 (q_ne kd_292 (by decide)) (q_e10 kd_292) rfl ?_
      refine q_aload_n hx dX10_reads_63 0 rfl ?_
      refine q_get (v := .int (σ 292 24)) hx q_fl_X10_85 dX10_reads_64 (q_ne kd_292 (by decide)) (q_e10 kd_292) rfl ?_
      refine q_aload_n hx dX10_reads_67 0 rfl ?_
      refine q_get (v := .int (σ 292 23)) hx q_fl_X10_82 dX10_reads_68 (q_ne kd_292 (by decide)) (q_e10 kd_292) rfl ?_
      refine q_icmp_ge hx 78 dX10_reads_71 (by decide) (fun hc4 => ?_) (fun hc4 => ?_)
      · replace h := (if_pos hc4).symm.trans h
        refine q_iconst (v := 0) hx dX10_reads_78 (by decide) ?_
        refine q_ior hx dX10_reads_79 ?_
        by_cases hg5 : ((σ 292 26) ||| 0 = 0 ∨ (σ 292 26) ||| 0 = 1)
        case neg => rw [if_neg hg5] at h; exact nomatch h
        replace h := (if_pos hg5).symm.trans h
        refine q_put (v := (σ 292 26) ||| 0) hx q_fl_X10_91 q_fp_10_26 dX10_reads_80 (q_ne kd_292 (by decide)) (q_e10 kd_292) (by rw [q_l10]; decide) (q_zn hg5) (q_zf hg5) (by rw [q_e10 kd_292, q_s10_26]) ?_
        cases h
        exact q_vret hx hr dX10_reads_83
      · replace h := (if_neg hc4).symm.trans h
        refine q_iconst (v := 1) hx dX10_reads_74 (by decide) ?_
        refine q_goto hx 79 dX10_reads_75 (by decide) ?_
        refine q_ior hx dX10_reads_79 ?_
        by_cases hg6 : ((σ 292 26) ||| 1 = 0 ∨ (σ 292 26) ||| 1 = 1)
        case neg => rw [if_neg hg6] at h; exact nomatch h
        replace h := (if_pos hg6).symm.trans h
        refine q_put (v := (σ 292 26) ||| 1) hx q_fl_X10_91 q_fp_10_26 dX10_reads_80 (q_ne kd_292 (by decide)) (q_e10 kd_292) (by rw [q_l10]; decide) (q_zn hg6) (q_zf hg6) (by rw [q_e10 kd_292, q_s10_26]) ?_
        cases h
        exact q_vret hx hr dX10_reads_83
    · replace h := (if_pos hc3).symm.trans h
      refine q_aload_n hx dX10_reads_41 0 rfl ?_
      refine q_dup hx dX10_reads_42 rfl ?_
      refine q_get (v := .int (σ 292 24)) hx q_fl_X10_85 dX10_reads_43 (q_ne kd_292 (by decide)) (q_e10 kd_292) rfl ?_
      refine q_iconst (v := 1) hx dX10_reads_46 (by decide) ?_
      refine q_iadd hx dX10_reads_47 ?_
      refine q_put (v := (σ 292 24) + 1) hx q_fl_X10_85 q_fp_10_24 dX10_reads_48 (q_ne kd_292 (by decide)) (q_e10 kd_292) (by rw [q_l10]; decide) rfl rfl (by rw [q_e10 kd_292, q_s10_24]) ?_
      refine q_aload_n hx dX10_reads_51 0 rfl ?_
      refine q_bindE h (fun q7 hq7 h => ?_)
      refine q_callVv (As := []) (rest := []) hx q_kR0 (c_X10_command (q_Xl X) G x (q_up σ 292 24 ((σ 292 24) + 1))  hq7) q_ml_X10_320 q_mn_X10_command q_mi_X10_command q_se_X10_command (by decide) rfl (Nat.le_of_ble_eq_true rfl) dX10_reads_52 (q_ne kd_292 (by decide)) (q_e10 kd_292) rfl rfl rfl ?_
      refine q_goto hx 32 dX10_reads_55 (by decide) ?_
      refine q_sub [0] rfl ?_
      exact ih q7 h
def f_X10_reads (σ : q_S) : Option (q_S) :=
  Option.bind (f_X10_command (q_up (q_up (q_up (q_up (q_up σ 292 23 (σ 292 22)) 292 22 0) 292 24 0) 292 25 0) 292 26 0)) (fun q1 => f_X10_reads_32 q_fu q1)
set_option maxHeartbeats 4000000 in
set_option maxRecDepth 100000 in
theorem c_X10_reads (l : Launch) (G : q_G) (x : q_A) (σ : q_S)   {res : q_S} (h : f_X10_reads σ = some res) : q_Met l yX10_reads cX10_reads 1 (none) 6 G [.ref (G.2.1 + 292)] σ x (q_Qv G x res) := by
  refine q_of (by decide) (Nat.le_of_ble_eq_true rfl) (fun X hl0 hx hr => ?_)
  subst hl0
  have hx : q_Cx X G RX10 cX10_reads 1 6 := hx
  unfold f_X10_reads at h
  show q_Wq X G x 1 (q_MQ X G (q_Qv G x res)) 0 0 0 [(0, .ref (G.2.1 + 292))] [] σ
  refine q_aload_n hx dX10_reads_0 0 rfl ?_
  refine q_aload_n hx dX10_reads_1 0 rfl ?_
  refine q_get (v := .int (σ 292 22)) hx q_fl_X10_79 dX10_reads_2 (q_ne kd_292 (by decide)) (q_e10 kd_292) rfl ?_
  refine q_put (v := σ 292 22) hx q_fl_X10_82 q_fp_10_23 dX10_reads_5 (q_ne kd_292 (by decide)) (q_e10 kd_292) (by rw [q_l10]; decide) rfl rfl (by rw [q_e10 kd_292, q_s10_23]) ?_
  refine q_aload_n hx dX10_reads_8 0 rfl ?_
  refine q_iconst (v := 0) hx dX10_reads_9 (by decide) ?_
  refine q_put (v := 0) hx q_fl_X10_79 q_fp_10_22 dX10_reads_10 (q_ne kd_292 (by decide)) (q_e10 kd_292) (by rw [q_l10]; decide) rfl rfl (by rw [q_e10 kd_292, q_s10_22]) ?_
  refine q_aload_n hx dX10_reads_13 0 rfl ?_
  refine q_iconst (v := 0) hx dX10_reads_14 (by decide) ?_
  refine q_put (v := 0) hx q_fl_X10_85 q_fp_10_24 dX10_reads_15 (q_ne kd_292 (by decide)) (q_e10 kd_292) (by rw [q_l10]; decide) rfl rfl (by rw [q_e10 kd_292, q_s10_24]) ?_
  refine q_aload_n hx dX10_reads_18 0 rfl ?_
  refine q_iconst (v := 0) hx dX10_reads_19 (by decide) ?_
  refine q_put (v := 0) hx q_fl_X10_88 q_fp_10_25 dX10_reads_20 (q_ne kd_292 (by decide)) (q_e10 kd_292) (by rw [q_l10]; decide) rfl rfl (by rw [q_e10 kd_292, q_s10_25]) ?_
  refine q_aload_n hx dX10_reads_23 0 rfl ?_
  refine q_iconst (v := 0) hx dX10_reads_24 (by decide) ?_
  refine q_put (v := 0) hx q_fl_X10_91 q_fp_10_26 dX10_reads_25 (q_ne kd_292 (by decide)) (q_e10 kd_292) (by rw [q_l10]; decide) rfl rfl (by rw [q_e10 kd_292, q_s10_26]) ?_
  refine q_aload_n hx dX10_reads_28 0 rfl ?_
  refine q_bindE h (fun q1 hq1 h => ?_)
  refine q_callVv (As := []) (rest := []) hx q_kR0 (c_X10_command (q_Xl X) G x (q_up (q_up (q_up (q_up (q_up σ 292 23 (σ 292 22)) 292 22 0) 292 24 0) 292 25 0) 292 26 0)  hq1) q_ml_X10_320 q_mn_X10_command q_mi_X10_command q_se_X10_command (by decide) rfl (Nat.le_of_ble_eq_true rfl) dX10_reads_29 (q_ne kd_292 (by decide)) (q_e10 kd_292) rfl rfl rfl ?_
  refine q_sub [0] rfl ?_
  exact s_X10_reads_32 hx hr q_fu q1 h
-- X10_isNot
def f_X10_isNot (σ : q_S) (a1 : Int32) : Option (Int32 × q_S) :=
  if a1 = 0 then (if ((q_up σ 292 27 1) 292 27 = 0 ∨ (q_up σ 292 27 1) 292 27 = 1) then some (((q_up σ 292 27 1) 292 27, q_up σ 292 27 1)) else none) else (if ((q_up σ 292 27 0) 292 27 = 0 ∨ (q_up σ 292 27 0) 292 27 = 1) then some (((q_up σ 292 27 0) 292 27, q_up σ 292 27 0)) else none)
set_option maxHeartbeats 4000000 in
set_option maxRecDepth 100000 in
theorem c_X10_isNot (l : Launch) (G : q_G) (x : q_A) (σ : q_S) (a1 : Int32)  {res : Int32 × q_S} (h : f_X10_isNot σ a1 = some res) : q_Met l yX10_isNot cX10_isNot 2 (some .boolean) 1 G [.ref (G.2.1 + 292), .int a1] σ x (q_Qi G x res.1 res.2) := by
  refine q_of (by decide) (Nat.le_of_ble_eq_true rfl) (fun X hl0 hx hr => ?_)
  subst hl0
  have hx : q_Cx X G RX10 cX10_isNot 2 1 := hx
  unfold f_X10_isNot at h
  show q_Wq X G x 2 (q_MQ X G (q_Qi G x res.1 res.2)) 0 0 0 [(0, .ref (G.2.1 + 292)), (1, .int a1)] [] σ
  refine q_aload_n hx dX10_isNot_0 0 rfl ?_
  refine q_iload_n hx dX10_isNot_1 1 rfl ?_
  refine q_if_ne hx 9 dX10_isNot_2 (by decide) (fun hc1 => ?_) (fun hc1 => ?_)
  · replace h := (if_neg hc1).symm.trans h
    refine q_iconst (v := 0) hx dX10_isNot_9 (by decide) ?_
    refine q_put (v := 0) hx q_fl_X10_94 q_fp_10_27 dX10_isNot_10 (q_ne kd_292 (by decide)) (q_e10 kd_292) (by rw [q_l10]; decide) rfl rfl (by rw [q_e10 kd_292, q_s10_27]) ?_
    refine q_aload_n hx dX10_isNot_13 0 rfl ?_
    refine q_get (v := .int ((q_up σ 292 27 0) 292 27)) hx q_fl_X10_94 dX10_isNot_14 (q_ne kd_292 (by decide)) (q_e10 kd_292) rfl ?_
    by_cases hg2 : ((q_up σ 292 27 0) 292 27 = 0 ∨ (q_up σ 292 27 0) 292 27 = 1)
    case neg => rw [if_neg hg2] at h; exact nomatch h
    replace h := (if_pos hg2).symm.trans h
    cases h
    exact q_zret (v := (q_up σ 292 27 0) 292 27) hx hr (q_zn hg2) dX10_isNot_17
  · replace h := (if_pos hc1).symm.trans h
    refine q_iconst (v := 1) hx dX10_isNot_5 (by decide) ?_
    refine q_goto hx 10 dX10_isNot_6 (by decide) ?_
    refine q_put (v := 1) hx q_fl_X10_94 q_fp_10_27 dX10_isNot_10 (q_ne kd_292 (by decide)) (q_e10 kd_292) (by rw [q_l10]; decide) rfl rfl (by rw [q_e10 kd_292, q_s10_27]) ?_
    refine q_aload_n hx dX10_isNot_13 0 rfl ?_
    refine q_get (v := .int ((q_up σ 292 27 1) 292 27)) hx q_fl_X10_94 dX10_isNot_14 (q_ne kd_292 (by decide)) (q_e10 kd_292) rfl ?_
    by_cases hg3 : ((q_up σ 292 27 1) 292 27 = 0 ∨ (q_up σ 292 27 1) 292 27 = 1)
    case neg => rw [if_neg hg3] at h; exact nomatch h
    replace h := (if_pos hg3).symm.trans h
    cases h
    exact q_zret (v := (q_up σ 292 27 1) 292 27) hx hr (q_zn hg3) dX10_isNot_17
