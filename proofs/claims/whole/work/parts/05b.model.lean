-- X10_stepX
def f_X10_stepX (a0 : Int32) : Int32 :=
  if a0 = 1 then (1) else (if a0 = 3 then ((-1)) else (0))
set_option maxHeartbeats 4000000 in
set_option maxRecDepth 100000 in
theorem ca_X10_stepX (l : Launch) (G : q_G) (x : q_A) (σ : q_S) (a0 : Int32)  {res : Int32} (h : f_X10_stepX a0 = res) : q_Met l yX10_stepX cX10_stepX 1 (some .int) 1 G [.int a0] σ x (q_Qi G x res σ) := by
  refine q_of (by decide) (Nat.le_of_ble_eq_true rfl) (fun X hl0 hx hr => ?_)
  subst hl0
  have hx : q_Cx X G RX10 cX10_stepX 1 1 := hx
  unfold f_X10_stepX at h
  show q_Wq X G x 1 (q_MQ X G (q_Qi G x res σ)) 0 0 0 [(0, .int a0)] [] σ
  refine q_iload_n hx dX10_stepX_0 0 rfl ?_
  refine q_iconst (v := 1) hx dX10_stepX_1 (by decide) ?_
  refine q_icmp_ne hx 9 dX10_stepX_2 (by decide) (fun hc1 => ?_) (fun hc1 => ?_)
  · replace h := (if_neg hc1).symm.trans h
    refine q_iload_n hx dX10_stepX_9 0 rfl ?_
    refine q_iconst (v := 3) hx dX10_stepX_10 (by decide) ?_
    refine q_icmp_ne hx 18 dX10_stepX_11 (by decide) (fun hc2 => ?_) (fun hc2 => ?_)
    · replace h := (if_neg hc2).symm.trans h
      refine q_iconst (v := 0) hx dX10_stepX_18 (by decide) ?_
      subst h
      exact q_iret hx hr dX10_stepX_19
    · replace h := (if_pos hc2).symm.trans h
      refine q_iconst (v := (-1)) hx dX10_stepX_14 (by decide) ?_
      refine q_goto hx 19 dX10_stepX_15 (by decide) ?_
      subst h
      exact q_iret hx hr dX10_stepX_19
  · replace h := (if_pos hc1).symm.trans h
    refine q_iconst (v := 1) hx dX10_stepX_5 (by decide) ?_
    refine q_goto hx 19 dX10_stepX_6 (by decide) ?_
    subst h
    exact q_iret hx hr dX10_stepX_19
theorem c_X10_stepX (l : Launch) (G : q_G) (x : q_A) (σ : q_S) (a0 : Int32)  : q_Met l yX10_stepX cX10_stepX 1 (some .int) 1 G [.int a0] σ x (q_Qi G x (f_X10_stepX a0) σ) := ca_X10_stepX l G x σ a0 rfl
-- X10_stepY
def f_X10_stepY (a0 : Int32) : Int32 :=
  if a0 = 0 then ((-1)) else (if a0 = 2 then (1) else (0))
set_option maxHeartbeats 4000000 in
set_option maxRecDepth 100000 in
theorem ca_X10_stepY (l : Launch) (G : q_G) (x : q_A) (σ : q_S) (a0 : Int32)  {res : Int32} (h : f_X10_stepY a0 = res) : q_Met l yX10_stepY cX10_stepY 1 (some .int) 1 G [.int a0] σ x (q_Qi G x res σ) := by
  refine q_of (by decide) (Nat.le_of_ble_eq_true rfl) (fun X hl0 hx hr => ?_)
  subst hl0
  have hx : q_Cx X G RX10 cX10_stepY 1 1 := hx
  unfold f_X10_stepY at h
  show q_Wq X G x 1 (q_MQ X G (q_Qi G x res σ)) 0 0 0 [(0, .int a0)] [] σ
  refine q_iload_n hx dX10_stepY_0 0 rfl ?_
  refine q_if_ne hx 8 dX10_stepY_1 (by decide) (fun hc1 => ?_) (fun hc1 => ?_)
  · replace h := (if_neg hc1).symm.trans h
    refine q_iload_n hx dX10_stepY_8 0 rfl ?_
    refine q_iconst (v := 2) hx dX10_stepY_9 (by decide) ?_
    refine q_icmp_ne hx 17 dX10_stepY_10 (by decide) (fun hc2 => ?_) (fun hc2 => ?_)
    · replace h := (if_neg hc2).symm.trans h
      refine q_iconst (v := 0) hx dX10_stepY_17 (by decide) ?_
      subst h
      exact q_iret hx hr dX10_stepY_18
    · replace h := (if_pos hc2).symm.trans h
      refine q_iconst (v := 1) hx dX10_stepY_13 (by decide) ?_
      refine q_goto hx 18 dX10_stepY_14 (by decide) ?_
      subst h
      exact q_iret hx hr dX10_stepY_18
  · replace h := (if_pos hc1).symm.trans h
    refine q_iconst (v := (-1)) hx dX10_stepY_4 (by decide) ?_
    refine q_goto hx 18 dX10_stepY_5 (by decide) ?_
    subst h
    exact q_iret hx hr dX10_stepY_18
theorem c_X10_stepY (l : Launch) (G : q_G) (x : q_A) (σ : q_S) (a0 : Int32)  : q_Met l yX10_stepY cX10_stepY 1 (some .int) 1 G [.int a0] σ x (q_Qi G x (f_X10_stepY a0) σ) := ca_X10_stepY l G x σ a0 rfl
-- X10_goesTo
def f_X10_goesTo_22 : Nat → Int32 → Int32 → Int32 → q_S → Option (q_S)
  | 0, _, _, _, _ => none
  | n + 1, v1, v2, v3, σ =>
    if v2 ≤ v3 then (some σ) else (Option.bind (f_X10_length σ v1 v3) (fun q4 => Option.bind (f_X10_way σ v1 v3) (fun q5 => Option.bind (f_X10_length (q_up σ 292 14 ((σ 292 14) + (q4 * ((f_X10_stepX q5))))) v1 v3) (fun q6 => Option.bind (f_X10_way (q_up σ 292 14 ((σ 292 14) + (q4 * ((f_X10_stepX q5))))) v1 v3) (fun q7 => f_X10_goesTo_22 n v1 v2 (v3 + 1) (q_up (q_up σ 292 14 ((σ 292 14) + (q4 * ((f_X10_stepX q5))))) 292 15 (((q_up σ 292 14 ((σ 292 14) + (q4 * ((f_X10_stepX q5))))) 292 15) + (q6 * ((f_X10_stepY q7))))))))))
set_option maxHeartbeats 4000000 in
set_option maxRecDepth 100000 in
theorem s_X10_goesTo_22 {X : q_X} {G : q_G} {x : q_A} (hx : q_Cx X G RX10 cX10_goesTo 4 3) (hr : (q_Xm X).sig.returnType = none) {res : q_S} : ∀ (n : Nat) (v1 : Int32) (v2 : Int32) (v3 : Int32) (σ : q_S), f_X10_goesTo_22 n v1 v2 v3 σ = some res → q_Wq X G x 4 (q_MQ X G (q_Qv G x res)) 0 0 22 [(0, .ref (G.2.1 + 292)), (1, .int v1), (2, .int v2), (3, .int v3)] [] σ := by
  intro n
  induction n with
  | zero => exact fun _ _ _ _ h => nomatch (show (none : Option (q_S)) = some res from h)
  | succ n ih =>
    intro v1 v2 v3 σ h
    rw [f_X10_goesTo_22] at h
    refine q_iload_n hx dX10_goesTo_22 3 rfl ?_
    refine q_iload_n hx dX10_goesTo_23 2 rfl ?_
    refine q_icmp_ge hx 83 dX10_goesTo_24 (by decide) (fun hc3 => ?_) (fun hc3 => ?_)
    · replace h := (if_pos hc3).symm.trans h
      cases h
      exact q_vret hx hr dX10_goesTo_83
    · replace h := (if_neg hc3).symm.trans h
      refine q_aload_n hx dX10_goesTo_27 0 rfl ?_
      refine q_dup hx dX10_goesTo_28 rfl ?_
      refine q_get (v := .int (σ 292 14)) hx q_fl_X10_54 dX10_goesTo_29 (q_ne kd_292 (by decide)) (q_e10 kd_292) rfl ?_
      refine q_aload_n hx dX10_goesTo_32 0 rfl ?_
      refine q_iload_n hx dX10_goesTo_33 1 rfl ?_
      refine q_iload_n hx dX10_goesTo_34 3 rfl ?_
      refine q_bindE h (fun q4 hq4 h => ?_)
      refine q_callVi (As := [.int v1, .int v3]) (rest := [.int (σ 292 14), .ref (G.2.1 + 292)]) hx q_kR0 (c_X10_length (q_Xl X) G x σ v1 v3 hq4) q_ml_X10_175 q_mn_X10_length q_mi_X10_length q_se_X10_length (by decide) rfl (Nat.le_of_ble_eq_true rfl) dX10_goesTo_35 (q_ne kd_292 (by decide)) (q_e10 kd_292) rfl rfl rfl ?_
      refine q_aload_n hx dX10_goesTo_38 0 rfl ?_
      refine q_iload_n hx dX10_goesTo_39 1 rfl ?_
      refine q_iload_n hx dX10_goesTo_40 3 rfl ?_
      refine q_bindE h (fun q5 hq5 h => ?_)
      refine q_callVi (As := [.int v1, .int v3]) (rest := [.int q4, .int (σ 292 14), .ref (G.2.1 + 292)]) hx q_kR0 (c_X10_way (q_Xl X) G x σ v1 v3 hq5) q_ml_X10_178 q_mn_X10_way q_mi_X10_way q_se_X10_way (by decide) rfl (Nat.le_of_ble_eq_true rfl) dX10_goesTo_41 (q_ne kd_292 (by decide)) (q_e10 kd_292) rfl rfl rfl ?_
      refine q_callSi (As := [.int q5]) (rest := [.int q4, .int (σ 292 14), .ref (G.2.1 + 292)]) hx q_kR0 (c_X10_stepX (q_Xl X) G x σ q5) q_ml_X10_181 q_mn_X10_stepX q_ms_X10_stepX (by decide) rfl (Nat.le_of_ble_eq_true rfl) dX10_goesTo_44 rfl ?_
      refine q_imul hx dX10_goesTo_47 ?_
      refine q_iadd hx dX10_goesTo_48 ?_
      refine q_put (v := (σ 292 14) + (q4 * ((f_X10_stepX q5)))) hx q_fl_X10_54 q_fp_10_14 dX10_goesTo_49 (q_ne kd_292 (by decide)) (q_e10 kd_292) (by rw [q_l10]; decide) rfl rfl (by rw [q_e10 kd_292, q_s10_14]) ?_
      refine q_aload_n hx dX10_goesTo_52 0 rfl ?_
      refine q_dup hx dX10_goesTo_53 rfl ?_
      refine q_get (v := .int ((q_up σ 292 14 ((σ 292 14) + (q4 * ((f_X10_stepX q5))))) 292 15)) hx q_fl_X10_57 dX10_goesTo_54 (q_ne kd_292 (by decide)) (q_e10 kd_292) rfl ?_
      refine q_aload_n hx dX10_goesTo_57 0 rfl ?_
      refine q_iload_n hx dX10_goesTo_58 1 rfl ?_
      refine q_iload_n hx dX10_goesTo_59 3 rfl ?_
      refine q_bindE h (fun q6 hq6 h => ?_)
      refine q_callVi (As := [.int v1, .int v3]) (rest := [.int ((q_up σ 292 14 ((σ 292 14) + (q4 * ((f_X10_stepX q5))))) 292 15), .ref (G.2.1 + 292)]) hx q_kR0 (c_X10_length (q_Xl X) G x (q_up σ 292 14 ((σ 292 14) + (q4 * ((f_X10_stepX q5))))) v1 v3 hq6) q_ml_X10_175 q_mn_X10_length q_mi_X10_length q_se_X10_length (by decide) rfl (Nat.le_of_ble_eq_true rfl) dX10_goesTo_60 (q_ne kd_292 (by decide)) (q_e10 kd_292) rfl rfl rfl ?_
      refine q_aload_n hx dX10_goesTo_63 0 rfl ?_
      refine q_iload_n hx dX10_goesTo_64 1 rfl ?_
      refine q_iload_n hx dX10_goesTo_65 3 rfl ?_
      refine q_bindE h (fun q7 hq7 h => ?_)
      refine q_callVi (As := [.int v1, .int v3]) (rest := [.int q6, .int ((q_up σ 292 14 ((σ 292 14) + (q4 * ((f_X10_stepX q5))))) 292 15), .ref (G.2.1 + 292)]) hx q_kR0 (c_X10_way (q_Xl X) G x (q_up σ 292 14 ((σ 292 14) + (q4 * ((f_X10_stepX q5))))) v1 v3 hq7) q_ml_X10_178 q_mn_X10_way q_mi_X10_way q_se_X10_way (by decide) rfl (Nat.le_of_ble_eq_true rfl) dX10_goesTo_66 (q_ne kd_292 (by decide)) (q_e10 kd_292) rfl rfl rfl ?_
      refine q_callSi (As := [.int q7]) (rest := [.int q6, .int ((q_up σ 292 14 ((σ 292 14) + (q4 * ((f_X10_stepX q5))))) 292 15), .ref (G.2.1 + 292)]) hx q_kR0 (c_X10_stepY (q_Xl X) G x (q_up σ 292 14 ((σ 292 14) + (q4 * ((f_X10_stepX q5))))) q7) q_ml_X10_184 q_mn_X10_stepY q_ms_X10_stepY (by decide) rfl (Nat.le_of_ble_eq_true rfl) dX10_goesTo_69 rfl ?_
      refine q_imul hx dX10_goesTo_72 ?_
      refine q_iadd hx dX10_goesTo_73 ?_
      refine q_put (v := ((q_up σ 292 14 ((σ 292 14) + (q4 * ((f_X10_stepX q5))))) 292 15) + (q6 * ((f_X10_stepY q7)))) hx q_fl_X10_57 q_fp_10_15 dX10_goesTo_74 (q_ne kd_292 (by decide)) (q_e10 kd_292) (by rw [q_l10]; decide) rfl rfl (by rw [q_e10 kd_292, q_s10_15]) ?_
      refine q_iinc hx [(3, .int (v3 + 1)), (0, .ref (G.2.1 + 292)), (1, .int v1), (2, .int v2)] dX10_goesTo_77 3 rfl rfl (by decide) rfl ?_
      refine q_goto hx 22 dX10_goesTo_80 (by decide) ?_
      refine q_sub [1, 2, 3, 0] rfl ?_
      exact ih v1 v2 (v3 + 1) (q_up (q_up σ 292 14 ((σ 292 14) + (q4 * ((f_X10_stepX q5))))) 292 15 (((q_up σ 292 14 ((σ 292 14) + (q4 * ((f_X10_stepX q5))))) 292 15) + (q6 * ((f_X10_stepY q7))))) h
def f_X10_goesTo (σ : q_S) (a1 : Int32) (a2 : Int32) : Option (q_S) :=
  Option.bind (f_X10_sv σ a1 2) (fun q1 => Option.bind (f_X10_sv (q_up σ 292 14 q1) a1 3) (fun q2 => f_X10_goesTo_22 q_fu a1 a2 0 (q_up (q_up σ 292 14 q1) 292 15 q2)))
set_option maxHeartbeats 4000000 in
set_option maxRecDepth 100000 in
theorem c_X10_goesTo (l : Launch) (G : q_G) (x : q_A) (σ : q_S) (a1 : Int32) (a2 : Int32)  {res : q_S} (h : f_X10_goesTo σ a1 a2 = some res) : q_Met l yX10_goesTo cX10_goesTo 4 (none) 3 G [.ref (G.2.1 + 292), .int a1, .int a2] σ x (q_Qv G x res) := by
  refine q_of (by decide) (Nat.le_of_ble_eq_true rfl) (fun X hl0 hx hr => ?_)
  subst hl0
  have hx : q_Cx X G RX10 cX10_goesTo 4 3 := hx
  unfold f_X10_goesTo at h
  show q_Wq X G x 4 (q_MQ X G (q_Qv G x res)) 0 0 0 [(0, .ref (G.2.1 + 292)), (1, .int a1), (2, .int a2)] [] σ
  refine q_aload_n hx dX10_goesTo_0 0 rfl ?_
  refine q_aload_n hx dX10_goesTo_1 0 rfl ?_
  refine q_iload_n hx dX10_goesTo_2 1 rfl ?_
  refine q_iconst (v := 2) hx dX10_goesTo_3 (by decide) ?_
  refine q_bindE h (fun q1 hq1 h => ?_)
  refine q_callVi (As := [.int a1, .int 2]) (rest := [.ref (G.2.1 + 292)]) hx q_kR0 (c_X10_sv (q_Xl X) G x σ a1 2 hq1) q_ml_X10_111 q_mn_X10_sv q_mi_X10_sv q_se_X10_sv (by decide) rfl (Nat.le_of_ble_eq_true rfl) dX10_goesTo_4 (q_ne kd_292 (by decide)) (q_e10 kd_292) rfl rfl rfl ?_
  refine q_put (v := q1) hx q_fl_X10_54 q_fp_10_14 dX10_goesTo_7 (q_ne kd_292 (by decide)) (q_e10 kd_292) (by rw [q_l10]; decide) rfl rfl (by rw [q_e10 kd_292, q_s10_14]) ?_
  refine q_aload_n hx dX10_goesTo_10 0 rfl ?_
  refine q_aload_n hx dX10_goesTo_11 0 rfl ?_
  refine q_iload_n hx dX10_goesTo_12 1 rfl ?_
  refine q_iconst (v := 3) hx dX10_goesTo_13 (by decide) ?_
  refine q_bindE h (fun q2 hq2 h => ?_)
  refine q_callVi (As := [.int a1, .int 3]) (rest := [.ref (G.2.1 + 292)]) hx q_kR0 (c_X10_sv (q_Xl X) G x (q_up σ 292 14 q1) a1 3 hq2) q_ml_X10_111 q_mn_X10_sv q_mi_X10_sv q_se_X10_sv (by decide) rfl (Nat.le_of_ble_eq_true rfl) dX10_goesTo_14 (q_ne kd_292 (by decide)) (q_e10 kd_292) rfl rfl rfl ?_
  refine q_put (v := q2) hx q_fl_X10_57 q_fp_10_15 dX10_goesTo_17 (q_ne kd_292 (by decide)) (q_e10 kd_292) (by rw [q_l10]; decide) rfl rfl (by rw [q_e10 kd_292, q_s10_15]) ?_
  refine q_iconst (v := 0) hx dX10_goesTo_20 (by decide) ?_
  refine q_istore_n hx [(3, .int 0), (0, .ref (G.2.1 + 292)), (1, .int a1), (2, .int a2)] dX10_goesTo_21 (by decide) rfl ?_
  refine q_sub [1, 2, 3, 0] rfl ?_
  exact s_X10_goesTo_22 hx hr q_fu a1 a2 0 (q_up (q_up σ 292 14 q1) 292 15 q2) h
-- X10_marks
def f_X10_marks_64 (k45 : Int32 → Int32 → Int32 → q_S → Option (q_S)) : Nat → Int32 → Int32 → Int32 → Int32 → q_S → Option (q_S)
  | 0, _, _, _, _, _ => none
  | n + 1, v1, v2, v3, v4, σ =>
    Option.bind (f_X10_length σ v1 v3) (fun q8 => if q8 < v4 then (k45 v1 v2 (v3 + 1) σ) else (if v3 = v2 then (k45 v1 v2 (v3 + 1) σ) else (Option.bind (f_X10_way σ v1 v3) (fun q11 => Option.bind (f_X10_way σ v1 v3) (fun q12 => if ((((13 * ((σ 292 15) + (v4 * ((f_X10_stepY q11))))) + (σ 292 14)) + (v4 * ((f_X10_stepX q12)))) < 0 ∨ 117 ≤ (((13 * ((σ 292 15) + (v4 * ((f_X10_stepY q11))))) + (σ 292 14)) + (v4 * ((f_X10_stepX q12)))).toNatClampNeg) then none else f_X10_marks_64 k45 n v1 v2 v3 (v4 + 1) (q_up σ 297 (((13 * ((σ 292 15) + (v4 * ((f_X10_stepY q11))))) + (σ 292 14)) + (v4 * ((f_X10_stepX q12)))).toNatClampNeg (vp_nar .boolean 1)))))))
set_option maxHeartbeats 4000000 in
set_option maxRecDepth 100000 in
theorem s_X10_marks_64 {X : q_X} {G : q_G} {x : q_A} (hx : q_Cx X G RX10 cX10_marks 5 4) (hr : (q_Xm X).sig.returnType = none) {res : q_S} {k45 : Int32 → Int32 → Int32 → q_S → Option (q_S)} (hk45 : ∀ (v1 : Int32) (v2 : Int32) (v3 : Int32) (σ : q_S), k45 v1 v2 v3 σ = some res → q_Wq X G x 5 (q_MQ X G (q_Qv G x res)) 0 0 45 [(0, .ref (G.2.1 + 292)), (1, .int v1), (2, .int v2), (3, .int v3)] [] σ) : ∀ (n : Nat) (v1 : Int32) (v2 : Int32) (v3 : Int32) (v4 : Int32) (σ : q_S), f_X10_marks_64 k45 n v1 v2 v3 v4 σ = some res → q_Wq X G x 5 (q_MQ X G (q_Qv G x res)) 0 0 64 [(0, .ref (G.2.1 + 292)), (1, .int v1), (2, .int v2), (3, .int v3), (4, .int v4)] [] σ := by
  intro n
  induction n with
  | zero => exact fun _ _ _ _ _ h => nomatch (show (none : Option (q_S)) = some res from h)
  | succ n ih =>
    intro v1 v2 v3 v4 σ h
    rw [f_X10_marks_64] at h
    refine q_iload hx dX10_marks_64 4 rfl ?_
    refine q_aload_n hx dX10_marks_66 0 rfl ?_
    refine q_iload_n hx dX10_marks_67 1 rfl ?_
    refine q_iload_n hx dX10_marks_68 3 rfl ?_
    refine q_bindE h (fun q8 hq8 h => ?_)
    refine q_callVi (As := [.int v1, .int v3]) (rest := [.int v4]) hx q_kR0 (c_X10_length (q_Xl X) G x σ v1 v3 hq8) q_ml_X10_175 q_mn_X10_length q_mi_X10_length q_se_X10_length (by decide) rfl (Nat.le_of_ble_eq_true rfl) dX10_marks_69 (q_ne kd_292 (by decide)) (q_e10 kd_292) rfl rfl rfl ?_
    refine q_icmp_gt hx 130 dX10_marks_72 (by decide) (fun hc9 => ?_) (fun hc9 => ?_)
    · replace h := (if_pos hc9).symm.trans h
      refine q_iinc hx [(3, .int (v3 + 1)), (0, .ref (G.2.1 + 292)), (1, .int v1), (2, .int v2), (4, .int v4)] dX10_marks_130 3 rfl rfl (by decide) rfl ?_
      refine q_goto hx 45 dX10_marks_133 (by decide) ?_
      refine q_sub [1, 2, 3, 0] rfl ?_
      exact hk45 v1 v2 (v3 + 1) σ h
    · replace h := (if_neg hc9).symm.trans h
      refine q_iload_n hx dX10_marks_75 3 rfl ?_
      refine q_iload_n hx dX10_marks_76 2 rfl ?_
      refine q_icmp_eq hx 130 dX10_marks_77 (by decide) (fun hc10 => ?_) (fun hc10 => ?_)
      · replace h := (if_pos hc10).symm.trans h
        refine q_iinc hx [(3, .int (v3 + 1)), (0, .ref (G.2.1 + 292)), (1, .int v1), (2, .int v2), (4, .int v4)] dX10_marks_130 3 rfl rfl (by decide) rfl ?_
        refine q_goto hx 45 dX10_marks_133 (by decide) ?_
        refine q_sub [1, 2, 3, 0] rfl ?_
        exact hk45 v1 v2 (v3 + 1) σ h
      · replace h := (if_neg hc10).symm.trans h
        refine q_aload_n hx dX10_marks_80 0 rfl ?_
        refine q_get (v := .ref (G.2.1 + 297)) hx q_fl_X10_60 dX10_marks_81 (q_ne kd_292 (by decide)) (q_e10 kd_292) rfl ?_
        refine q_bipush (v := 13) hx dX10_marks_84 (by decide) ?_
        refine q_aload_n hx dX10_marks_86 0 rfl ?_
        refine q_get (v := .int (σ 292 15)) hx q_fl_X10_57 dX10_marks_87 (q_ne kd_292 (by decide)) (q_e10 kd_292) rfl ?_
        refine q_iload hx dX10_marks_90 4 rfl ?_
        refine q_aload_n hx dX10_marks_92 0 rfl ?_
        refine q_iload_n hx dX10_marks_93 1 rfl ?_
        refine q_iload_n hx dX10_marks_94 3 rfl ?_
        refine q_bindE h (fun q11 hq11 h => ?_)
        refine q_callVi (As := [.int v1, .int v3]) (rest := [.int v4, .int (σ 292 15), .int 13, .ref (G.2.1 + 297)]) hx q_kR0 (c_X10_way (q_Xl X) G x σ v1 v3 hq11) q_ml_X10_178 q_mn_X10_way q_mi_X10_way q_se_X10_way (by decide) rfl (Nat.le_of_ble_eq_true rfl) dX10_marks_95 (q_ne kd_292 (by decide)) (q_e10 kd_292) rfl rfl rfl ?_
        refine q_callSi (As := [.int q11]) (rest := [.int v4, .int (σ 292 15), .int 13, .ref (G.2.1 + 297)]) hx q_kR0 (c_X10_stepY (q_Xl X) G x σ q11) q_ml_X10_184 q_mn_X10_stepY q_ms_X10_stepY (by decide) rfl (Nat.le_of_ble_eq_true rfl) dX10_marks_98 rfl ?_
        refine q_imul hx dX10_marks_101 ?_
        refine q_iadd hx dX10_marks_102 ?_
        refine q_imul hx dX10_marks_103 ?_
        refine q_aload_n hx dX10_marks_104 0 rfl ?_
        refine q_get (v := .int (σ 292 14)) hx q_fl_X10_54 dX10_marks_105 (q_ne kd_292 (by decide)) (q_e10 kd_292) rfl ?_
        refine q_iadd hx dX10_marks_108 ?_
        refine q_iload hx dX10_marks_109 4 rfl ?_
        refine q_aload_n hx dX10_marks_111 0 rfl ?_
        refine q_iload_n hx dX10_marks_112 1 rfl ?_
        refine q_iload_n hx dX10_marks_113 3 rfl ?_
        refine q_bindE h (fun q12 hq12 h => ?_)
        refine q_callVi (As := [.int v1, .int v3]) (rest := [.int v4, .int ((13 * ((σ 292 15) + (v4 * ((f_X10_stepY q11))))) + (σ 292 14)), .ref (G.2.1 + 297)]) hx q_kR0 (c_X10_way (q_Xl X) G x σ v1 v3 hq12) q_ml_X10_178 q_mn_X10_way q_mi_X10_way q_se_X10_way (by decide) rfl (Nat.le_of_ble_eq_true rfl) dX10_marks_114 (q_ne kd_292 (by decide)) (q_e10 kd_292) rfl rfl rfl ?_
        refine q_callSi (As := [.int q12]) (rest := [.int v4, .int ((13 * ((σ 292 15) + (v4 * ((f_X10_stepY q11))))) + (σ 292 14)), .ref (G.2.1 + 297)]) hx q_kR0 (c_X10_stepX (q_Xl X) G x σ q12) q_ml_X10_181 q_mn_X10_stepX q_ms_X10_stepX (by decide) rfl (Nat.le_of_ble_eq_true rfl) dX10_marks_117 rfl ?_
        refine q_imul hx dX10_marks_120 ?_
        refine q_iadd hx dX10_marks_121 ?_
        refine q_iconst (v := 1) hx dX10_marks_122 (by decide) ?_
        by_cases hg13 : ((((13 * ((σ 292 15) + (v4 * ((f_X10_stepY q11))))) + (σ 292 14)) + (v4 * ((f_X10_stepX q12)))) < 0 ∨ 117 ≤ (((13 * ((σ 292 15) + (v4 * ((f_X10_stepY q11))))) + (σ 292 14)) + (v4 * ((f_X10_stepX q12)))).toNatClampNeg)
        · rw [if_pos hg13] at h; exact nomatch h
        replace h := (if_neg hg13).symm.trans h
        refine q_zast (N := 117) hx dX10_marks_123 kd_297 (by first | decide | assumption) hg13 ?_
        refine q_iinc hx [(4, .int (v4 + 1)), (0, .ref (G.2.1 + 292)), (1, .int v1), (2, .int v2), (3, .int v3)] dX10_marks_124 4 rfl rfl (by decide) rfl ?_
        refine q_goto hx 64 dX10_marks_127 (by decide) ?_
        refine q_sub [1, 2, 3, 4, 0] rfl ?_
        exact ih v1 v2 v3 (v4 + 1) (q_up σ 297 (((13 * ((σ 292 15) + (v4 * ((f_X10_stepY q11))))) + (σ 292 14)) + (v4 * ((f_X10_stepX q12)))).toNatClampNeg (vp_nar .boolean 1)) h
def f_X10_marks_45 : Nat → Int32 → Int32 → Int32 → q_S → Option (q_S)
  | 0, _, _, _, _ => none
  | n + 1, v1, v2, v3, σ =>
    Option.bind (f_X10_sv σ v1 4) (fun q5 => if q5 ≤ v3 then (some σ) else (Option.bind (f_X10_goesTo σ v1 v3) (fun q7 => f_X10_marks_64 (f_X10_marks_45 n) q_fu v1 v2 v3 0 q7)))
set_option maxHeartbeats 4000000 in
set_option maxRecDepth 100000 in
theorem s_X10_marks_45 {X : q_X} {G : q_G} {x : q_A} (hx : q_Cx X G RX10 cX10_marks 5 4) (hr : (q_Xm X).sig.returnType = none) {res : q_S} : ∀ (n : Nat) (v1 : Int32) (v2 : Int32) (v3 : Int32) (σ : q_S), f_X10_marks_45 n v1 v2 v3 σ = some res → q_Wq X G x 5 (q_MQ X G (q_Qv G x res)) 0 0 45 [(0, .ref (G.2.1 + 292)), (1, .int v1), (2, .int v2), (3, .int v3)] [] σ := by
  intro n
  induction n with
  | zero => exact fun _ _ _ _ h => nomatch (show (none : Option (q_S)) = some res from h)
  | succ n ih =>
    intro v1 v2 v3 σ h
    rw [f_X10_marks_45] at h
    refine q_iload_n hx dX10_marks_45 3 rfl ?_
    refine q_aload_n hx dX10_marks_46 0 rfl ?_
    refine q_iload_n hx dX10_marks_47 1 rfl ?_
    refine q_iconst (v := 4) hx dX10_marks_48 (by decide) ?_
    refine q_bindE h (fun q5 hq5 h => ?_)
    refine q_callVi (As := [.int v1, .int 4]) (rest := [.int v3]) hx q_kR0 (c_X10_sv (q_Xl X) G x σ v1 4 hq5) q_ml_X10_111 q_mn_X10_sv q_mi_X10_sv q_se_X10_sv (by decide) rfl (Nat.le_of_ble_eq_true rfl) dX10_marks_49 (q_ne kd_292 (by decide)) (q_e10 kd_292) rfl rfl rfl ?_
    refine q_icmp_ge hx 136 dX10_marks_52 (by decide) (fun hc6 => ?_) (fun hc6 => ?_)
    · replace h := (if_pos hc6).symm.trans h
      cases h
      exact q_vret hx hr dX10_marks_136
    · replace h := (if_neg hc6).symm.trans h
      refine q_aload_n hx dX10_marks_55 0 rfl ?_
      refine q_iload_n hx dX10_marks_56 1 rfl ?_
      refine q_iload_n hx dX10_marks_57 3 rfl ?_
      refine q_bindE h (fun q7 hq7 h => ?_)
      refine q_callVv (As := [.int v1, .int v3]) (rest := []) hx q_kR0 (c_X10_goesTo (q_Xl X) G x σ v1 v3 hq7) q_ml_X10_187 q_mn_X10_goesTo q_mi_X10_goesTo q_se_X10_goesTo (by decide) rfl (Nat.le_of_ble_eq_true rfl) dX10_marks_58 (q_ne kd_292 (by decide)) (q_e10 kd_292) rfl rfl rfl ?_
      refine q_iconst (v := 0) hx dX10_marks_61 (by decide) ?_
      refine q_istore hx [(4, .int 0), (0, .ref (G.2.1 + 292)), (1, .int v1), (2, .int v2), (3, .int v3)] dX10_marks_62 (by decide) rfl ?_
      refine q_sub [1, 2, 3, 4, 0] rfl ?_
      exact s_X10_marks_64 hx hr (fun v1 v2 v3 σ h => ih v1 v2 v3 σ h) q_fu v1 v2 v3 0 q7 h
def f_X10_marks_2 : Nat → Int32 → Int32 → Int32 → q_S → Option (q_S)
  | 0, _, _, _, _ => none
  | n + 1, v1, v2, v3, σ =>
    if 117 ≤ v3 then (Option.bind (f_X10_sv σ v1 3) (fun q2 => Option.bind (f_X10_sv σ v1 2) (fun q3 => if (((13 * q2) + q3) < 0 ∨ 117 ≤ ((13 * q2) + q3).toNatClampNeg) then none else f_X10_marks_45 q_fu v1 v2 0 (q_up σ 297 ((13 * q2) + q3).toNatClampNeg (vp_nar .boolean 1))))) else (if (v3 < 0 ∨ 117 ≤ v3.toNatClampNeg) then none else f_X10_marks_2 n v1 v2 (v3 + 1) (q_up σ 297 v3.toNatClampNeg (vp_nar .boolean 0)))
set_option maxHeartbeats 4000000 in
set_option maxRecDepth 100000 in
theorem s_X10_marks_2 {X : q_X} {G : q_G} {x : q_A} (hx : q_Cx X G RX10 cX10_marks 5 4) (hr : (q_Xm X).sig.returnType = none) {res : q_S} : ∀ (n : Nat) (v1 : Int32) (v2 : Int32) (v3 : Int32) (σ : q_S), f_X10_marks_2 n v1 v2 v3 σ = some res → q_Wq X G x 5 (q_MQ X G (q_Qv G x res)) 0 0 2 [(0, .ref (G.2.1 + 292)), (1, .int v1), (2, .int v2), (3, .int v3)] [] σ := by
  intro n
  induction n with
  | zero => exact fun _ _ _ _ h => nomatch (show (none : Option (q_S)) = some res from h)
  | succ n ih =>
    intro v1 v2 v3 σ h
    rw [f_X10_marks_2] at h
    refine q_iload_n hx dX10_marks_2 3 rfl ?_
    refine q_bipush (v := 117) hx dX10_marks_3 (by decide) ?_
    refine q_icmp_ge hx 21 dX10_marks_5 (by decide) (fun hc1 => ?_) (fun hc1 => ?_)
    · replace h := (if_pos hc1).symm.trans h
      refine q_aload_n hx dX10_marks_21 0 rfl ?_
      refine q_get (v := .ref (G.2.1 + 297)) hx q_fl_X10_60 dX10_marks_22 (q_ne kd_292 (by decide)) (q_e10 kd_292) rfl ?_
      refine q_bipush (v := 13) hx dX10_marks_25 (by decide) ?_
      refine q_aload_n hx dX10_marks_27 0 rfl ?_
      refine q_iload_n hx dX10_marks_28 1 rfl ?_
      refine q_iconst (v := 3) hx dX10_marks_29 (by decide) ?_
      refine q_bindE h (fun q2 hq2 h => ?_)
      refine q_callVi (As := [.int v1, .int 3]) (rest := [.int 13, .ref (G.2.1 + 297)]) hx q_kR0 (c_X10_sv (q_Xl X) G x σ v1 3 hq2) q_ml_X10_111 q_mn_X10_sv q_mi_X10_sv q_se_X10_sv (by decide) rfl (Nat.le_of_ble_eq_true rfl) dX10_marks_30 (q_ne kd_292 (by decide)) (q_e10 kd_292) rfl rfl rfl ?_
      refine q_imul hx dX10_marks_33 ?_
      refine q_aload_n hx dX10_marks_34 0 rfl ?_
      refine q_iload_n hx dX10_marks_35 1 rfl ?_
      refine q_iconst (v := 2) hx dX10_marks_36 (by decide) ?_
      refine q_bindE h (fun q3 hq3 h => ?_)
      refine q_callVi (As := [.int v1, .int 2]) (rest := [.int (13 * q2), .ref (G.2.1 + 297)]) hx q_kR0 (c_X10_sv (q_Xl X) G x σ v1 2 hq3) q_ml_X10_111 q_mn_X10_sv q_mi_X10_sv q_se_X10_sv (by decide) rfl (Nat.le_of_ble_eq_true rfl) dX10_marks_37 (q_ne kd_292 (by decide)) (q_e10 kd_292) rfl rfl rfl ?_
      refine q_iadd hx dX10_marks_40 ?_
      refine q_iconst (v := 1) hx dX10_marks_41 (by decide) ?_
      by_cases hg4 : (((13 * q2) + q3) < 0 ∨ 117 ≤ ((13 * q2) + q3).toNatClampNeg)
      · rw [if_pos hg4] at h; exact nomatch h
      replace h := (if_neg hg4).symm.trans h
      refine q_zast (N := 117) hx dX10_marks_42 kd_297 (by first | decide | assumption) hg4 ?_
      refine q_iconst (v := 0) hx dX10_marks_43 (by decide) ?_
      refine q_istore_n hx [(3, .int 0), (0, .ref (G.2.1 + 292)), (1, .int v1), (2, .int v2)] dX10_marks_44 (by decide) rfl ?_
      refine q_sub [1, 2, 3, 0] rfl ?_
      exact s_X10_marks_45 hx hr q_fu v1 v2 0 (q_up σ 297 ((13 * q2) + q3).toNatClampNeg (vp_nar .boolean 1)) h
    · replace h := (if_neg hc1).symm.trans h
      refine q_aload_n hx dX10_marks_8 0 rfl ?_
      refine q_get (v := .ref (G.2.1 + 297)) hx q_fl_X10_60 dX10_marks_9 (q_ne kd_292 (by decide)) (q_e10 kd_292) rfl ?_
      refine q_iload_n hx dX10_marks_12 3 rfl ?_
      refine q_iconst (v := 0) hx dX10_marks_13 (by decide) ?_
      by_cases hg14 : (v3 < 0 ∨ 117 ≤ v3.toNatClampNeg)
      · rw [if_pos hg14] at h; exact nomatch h
      replace h := (if_neg hg14).symm.trans h
      refine q_zast (N := 117) hx dX10_marks_14 kd_297 (by first | decide | assumption) hg14 ?_
      refine q_iinc hx [(3, .int (v3 + 1)), (0, .ref (G.2.1 + 292)), (1, .int v1), (2, .int v2)] dX10_marks_15 3 rfl rfl (by decide) rfl ?_
      refine q_goto hx 2 dX10_marks_18 (by decide) ?_
      refine q_sub [1, 2, 3, 0] rfl ?_
      exact ih v1 v2 (v3 + 1) (q_up σ 297 v3.toNatClampNeg (vp_nar .boolean 0)) h
def f_X10_marks (σ : q_S) (a1 : Int32) (a2 : Int32) : Option (q_S) :=
  f_X10_marks_2 q_fu a1 a2 0 σ
set_option maxHeartbeats 4000000 in
set_option maxRecDepth 100000 in
theorem c_X10_marks (l : Launch) (G : q_G) (x : q_A) (σ : q_S) (a1 : Int32) (a2 : Int32)  {res : q_S} (h : f_X10_marks σ a1 a2 = some res) : q_Met l yX10_marks cX10_marks 5 (none) 4 G [.ref (G.2.1 + 292), .int a1, .int a2] σ x (q_Qv G x res) := by
  refine q_of (by decide) (Nat.le_of_ble_eq_true rfl) (fun X hl0 hx hr => ?_)
  subst hl0
  have hx : q_Cx X G RX10 cX10_marks 5 4 := hx
  unfold f_X10_marks at h
  show q_Wq X G x 5 (q_MQ X G (q_Qv G x res)) 0 0 0 [(0, .ref (G.2.1 + 292)), (1, .int a1), (2, .int a2)] [] σ
  refine q_iconst (v := 0) hx dX10_marks_0 (by decide) ?_
  refine q_istore_n hx [(3, .int 0), (0, .ref (G.2.1 + 292)), (1, .int a1), (2, .int a2)] dX10_marks_1 (by decide) rfl ?_
  refine q_sub [1, 2, 3, 0] rfl ?_
  exact s_X10_marks_2 hx hr q_fu a1 a2 0 σ h
-- X10_isBarred
def f_X10_isBarred_48 (v1 : Int32) (v2 : Int32) (σ : q_S) : Option (Int32 × q_S) :=
  Option.bind (f_X10_pegAt σ v1 v2) (fun q4 => if q4 < 0 then (some ((0, σ))) else (Option.bind (f_X10_isLit σ q4) (fun q6 => if q6 = 0 then (some ((0, σ))) else (if ((f_X10_isBad σ 9 q4).1) = 0 then (some ((0, (f_X10_isBad σ 9 q4).2))) else (some ((1, (f_X10_isBad σ 9 q4).2)))))))
set_option maxHeartbeats 4000000 in
set_option maxRecDepth 100000 in
theorem s_X10_isBarred_48 {X : q_X} {G : q_G} {x : q_A} (hx : q_Cx X G RX10 cX10_isBarred 5 3) (hr : (q_Xm X).sig.returnType = some .boolean) {res : Int32 × q_S} : ∀ (v1 : Int32) (v2 : Int32) (σ : q_S), f_X10_isBarred_48 v1 v2 σ = some res → q_Wq X G x 5 (q_MQ X G (q_Qi G x res.1 res.2)) 0 0 48 [(0, .ref (G.2.1 + 292)), (1, .int v1), (2, .int v2)] [] σ := by
  intro v1 v2 σ h
  unfold f_X10_isBarred_48 at h
  refine q_aload_n hx dX10_isBarred_48 0 rfl ?_
  refine q_iload_n hx dX10_isBarred_49 1 rfl ?_
  refine q_iload_n hx dX10_isBarred_50 2 rfl ?_
  refine q_bindE h (fun q4 hq4 h => ?_)
  refine q_callVi (As := [.int v1, .int v2]) (rest := []) hx q_kR0 (c_X10_pegAt (q_Xl X) G x σ v1 v2 hq4) q_ml_X10_146 q_mn_X10_pegAt q_mi_X10_pegAt q_se_X10_pegAt (by decide) rfl (Nat.le_of_ble_eq_true rfl) dX10_isBarred_51 (q_ne kd_292 (by decide)) (q_e10 kd_292) rfl rfl rfl ?_
  refine q_istore hx [(4, .int q4), (0, .ref (G.2.1 + 292)), (1, .int v1), (2, .int v2)] dX10_isBarred_54 (by decide) rfl ?_
  refine q_iload hx dX10_isBarred_56 0 rfl ?_
  refine q_if_lt hx 85 dX10_isBarred_58 (by decide) (fun hc5 => ?_) (fun hc5 => ?_)
  · replace h := (if_pos hc5).symm.trans h
    refine q_iconst (v := 0) hx dX10_isBarred_85 (by decide) ?_
    cases h
    exact q_zret (v := 0) hx hr rfl dX10_isBarred_86
  · replace h := (if_neg hc5).symm.trans h
    refine q_aload_n hx dX10_isBarred_61 1 rfl ?_
    refine q_iload hx dX10_isBarred_62 0 rfl ?_
    refine q_bindE h (fun q6 hq6 h => ?_)
    refine q_callVi (As := [.int q4]) (rest := []) hx q_kR0 (c_X10_isLit (q_Xl X) G x σ q4 hq6) q_ml_X10_191 q_mn_X10_isLit q_mi_X10_isLit q_se_X10_isLit (by decide) rfl (Nat.le_of_ble_eq_true rfl) dX10_isBarred_64 (q_ne kd_292 (by decide)) (q_e10 kd_292) rfl rfl rfl ?_
    refine q_if_eq hx 85 dX10_isBarred_67 (by decide) (fun hc7 => ?_) (fun hc7 => ?_)
    · replace h := (if_pos hc7).symm.trans h
      refine q_iconst (v := 0) hx dX10_isBarred_85 (by decide) ?_
      cases h
      exact q_zret (v := 0) hx hr rfl dX10_isBarred_86
    · replace h := (if_neg hc7).symm.trans h
      refine q_aload_n hx dX10_isBarred_70 1 rfl ?_
      refine q_bipush (v := 9) hx dX10_isBarred_71 (by decide) ?_
      refine q_iload hx dX10_isBarred_73 0 rfl ?_
      refine q_callVi (As := [.int 9, .int q4]) (rest := []) hx q_kR0 (c_X10_isBad (q_Xl X) G x σ 9 q4) q_ml_X10_119 q_mn_X10_isBad q_mi_X10_isBad q_se_X10_isBad (by decide) rfl (Nat.le_of_ble_eq_true rfl) dX10_isBarred_75 (q_ne kd_292 (by decide)) (q_e10 kd_292) rfl rfl rfl ?_
      refine q_if_eq hx 85 dX10_isBarred_78 (by decide) (fun hc8 => ?_) (fun hc8 => ?_)
      · replace h := (if_pos hc8).symm.trans h
        refine q_iconst (v := 0) hx dX10_isBarred_85 (by decide) ?_
        cases h
        exact q_zret (v := 0) hx hr rfl dX10_isBarred_86
      · replace h := (if_neg hc8).symm.trans h
        refine q_iconst (v := 1) hx dX10_isBarred_81 (by decide) ?_
        refine q_goto hx 86 dX10_isBarred_82 (by decide) ?_
        cases h
        exact q_zret (v := 1) hx hr rfl dX10_isBarred_86
def f_X10_isBarred (σ : q_S) (a1 : Int32) (a2 : Int32) (a3 : Int32) : Option (Int32 × q_S) :=
  if ((f_X10_isCorner a1 a2)) = 0 then (if ((f_X10_isBad σ 7 (σ 292 17)).1 = 0 ∨ (f_X10_isBad σ 7 (σ 292 17)).1 = 1) then some (((f_X10_isBad σ 7 (σ 292 17)).1, (f_X10_isBad σ 7 (σ 292 17)).2)) else none) else (if (((13 * a2) + a1) < 0 ∨ 117 ≤ ((13 * a2) + a1).toNatClampNeg) then none else if (σ 297 ((13 * a2) + a1).toNatClampNeg) = 0 then (f_X10_isBarred_48 a1 a2 σ) else (if a3 = 0 then (if ((f_X10_isBad σ 8 (σ 292 17)).1 = 0 ∨ (f_X10_isBad σ 8 (σ 292 17)).1 = 1) then some (((f_X10_isBad σ 8 (σ 292 17)).1, (f_X10_isBad σ 8 (σ 292 17)).2)) else none) else (f_X10_isBarred_48 a1 a2 σ)))
set_option maxHeartbeats 4000000 in
set_option maxRecDepth 100000 in
theorem c_X10_isBarred (l : Launch) (G : q_G) (x : q_A) (σ : q_S) (a1 : Int32) (a2 : Int32) (a3 : Int32)  {res : Int32 × q_S} (h : f_X10_isBarred σ a1 a2 a3 = some res) : q_Met l yX10_isBarred cX10_isBarred 5 (some .boolean) 3 G [.ref (G.2.1 + 292), .int a1, .int a2, .int a3] σ x (q_Qi G x res.1 res.2) := by
  refine q_of (by decide) (Nat.le_of_ble_eq_true rfl) (fun X hl0 hx hr => ?_)
  subst hl0
  have hx : q_Cx X G RX10 cX10_isBarred 5 3 := hx
  unfold f_X10_isBarred at h
  show q_Wq X G x 5 (q_MQ X G (q_Qi G x res.1 res.2)) 0 0 0 [(0, .ref (G.2.1 + 292)), (1, .int a1), (2, .int a2), (3, .int a3)] [] σ
  refine q_iload_n hx dX10_isBarred_0 1 rfl ?_
  refine q_iload_n hx dX10_isBarred_1 2 rfl ?_
  refine q_callSi (As := [.int a1, .int a2]) (rest := []) hx q_kR0 (c_X10_isCorner (q_Xl X) G x σ a1 a2) q_ml_X10_149 q_mn_X10_isCorner q_ms_X10_isCorner (by decide) rfl (Nat.le_of_ble_eq_true rfl) dX10_isBarred_2 rfl ?_
  refine q_if_ne hx 19 dX10_isBarred_5 (by decide) (fun hc1 => ?_) (fun hc1 => ?_)
  · replace h := (if_neg hc1).symm.trans h
    refine q_aload_n hx dX10_isBarred_19 0 rfl ?_
    refine q_get (v := .ref (G.2.1 + 297)) hx q_fl_X10_60 dX10_isBarred_20 (q_ne kd_292 (by decide)) (q_e10 kd_292) rfl ?_
    refine q_bipush (v := 13) hx dX10_isBarred_23 (by decide) ?_
    refine q_iload_n hx dX10_isBarred_25 2 rfl ?_
    refine q_imul hx dX10_isBarred_26 ?_
    refine q_iload_n hx dX10_isBarred_27 1 rfl ?_
    refine q_iadd hx dX10_isBarred_28 ?_
    by_cases hg2 : (((13 * a2) + a1) < 0 ∨ 117 ≤ ((13 * a2) + a1).toNatClampNeg)
    · rw [if_pos hg2] at h; exact nomatch h
    replace h := (if_neg hg2).symm.trans h
    refine q_zald (N := 117) hx dX10_isBarred_29 kd_297 (by first | decide | assumption) hg2 ?_
    refine q_if_eq hx 48 dX10_isBarred_30 (by decide) (fun hc3 => ?_) (fun hc3 => ?_)
    · replace h := (if_pos hc3).symm.trans h
      refine q_sub [0, 1, 2] rfl ?_
      exact s_X10_isBarred_48 hx hr a1 a2 σ h
    · replace h := (if_neg hc3).symm.trans h
      refine q_iload_n hx dX10_isBarred_33 3 rfl ?_
      refine q_if_ne hx 48 dX10_isBarred_34 (by decide) (fun hc9 => ?_) (fun hc9 => ?_)
      · replace h := (if_neg hc9).symm.trans h
        refine q_sub [0, 1, 2] rfl ?_
        exact s_X10_isBarred_48 hx hr a1 a2 σ h
      · replace h := (if_pos hc9).symm.trans h
        refine q_aload_n hx dX10_isBarred_37 0 rfl ?_
        refine q_bipush (v := 8) hx dX10_isBarred_38 (by decide) ?_
        refine q_aload_n hx dX10_isBarred_40 0 rfl ?_
        refine q_get (v := .int (σ 292 17)) hx q_fl_X10_64 dX10_isBarred_41 (q_ne kd_292 (by decide)) (q_e10 kd_292) rfl ?_
        refine q_callVi (As := [.int 8, .int (σ 292 17)]) (rest := []) hx q_kR0 (c_X10_isBad (q_Xl X) G x σ 8 (σ 292 17)) q_ml_X10_119 q_mn_X10_isBad q_mi_X10_isBad q_se_X10_isBad (by decide) rfl (Nat.le_of_ble_eq_true rfl) dX10_isBarred_44 (q_ne kd_292 (by decide)) (q_e10 kd_292) rfl rfl rfl ?_
        by_cases hg10 : ((f_X10_isBad σ 8 (σ 292 17)).1 = 0 ∨ (f_X10_isBad σ 8 (σ 292 17)).1 = 1)
        case neg => rw [if_neg hg10] at h; exact nomatch h
        replace h := (if_pos hg10).symm.trans h
        cases h
        exact q_zret (v := (f_X10_isBad σ 8 (σ 292 17)).1) hx hr (q_zn hg10) dX10_isBarred_47
  · replace h := (if_pos hc1).symm.trans h
    refine q_aload_n hx dX10_isBarred_8 0 rfl ?_
    refine q_bipush (v := 7) hx dX10_isBarred_9 (by decide) ?_
    refine q_aload_n hx dX10_isBarred_11 0 rfl ?_
    refine q_get (v := .int (σ 292 17)) hx q_fl_X10_64 dX10_isBarred_12 (q_ne kd_292 (by decide)) (q_e10 kd_292) rfl ?_
    refine q_callVi (As := [.int 7, .int (σ 292 17)]) (rest := []) hx q_kR0 (c_X10_isBad (q_Xl X) G x σ 7 (σ 292 17)) q_ml_X10_119 q_mn_X10_isBad q_mi_X10_isBad q_se_X10_isBad (by decide) rfl (Nat.le_of_ble_eq_true rfl) dX10_isBarred_15 (q_ne kd_292 (by decide)) (q_e10 kd_292) rfl rfl rfl ?_
    by_cases hg11 : ((f_X10_isBad σ 7 (σ 292 17)).1 = 0 ∨ (f_X10_isBad σ 7 (σ 292 17)).1 = 1)
    case neg => rw [if_neg hg11] at h; exact nomatch h
    replace h := (if_pos hg11).symm.trans h
    cases h
    exact q_zret (v := (f_X10_isBad σ 7 (σ 292 17)).1) hx hr (q_zn hg11) dX10_isBarred_18
-- X10_isRefusedChain
def f_X10_isRefusedChain_159 (k82 : Int32 → Int32 → Int32 → Int32 → q_S → Option (Int32 × q_S)) (v1 : Int32) (v2 : Int32) (v3 : Int32) (v4 : Int32) (v5 : Int32) (v6 : Int32) (s0 : Int32) (σ : q_S) : Option (Int32 × q_S) :=
  Option.bind (f_X10_isBarred σ v5 v6 s0) (fun q12 => if q12.1 = 0 then (k82 v1 v2 v3 (v4 + 1) (q_up q12.2 292 17 ((q12.2 292 17) + 1))) else (some ((1, q12.2))))
set_option maxHeartbeats 4000000 in
set_option maxRecDepth 100000 in
theorem s_X10_isRefusedChain_159 {X : q_X} {G : q_G} {x : q_A} (hx : q_Cx X G RX10 cX10_isRefusedChain 8 5) (hr : (q_Xm X).sig.returnType = some .boolean) {res : Int32 × q_S} {k82 : Int32 → Int32 → Int32 → Int32 → q_S → Option (Int32 × q_S)} (hk82 : ∀ (v1 : Int32) (v2 : Int32) (v3 : Int32) (v4 : Int32) (σ : q_S), k82 v1 v2 v3 v4 σ = some res → q_Wq X G x 8 (q_MQ X G (q_Qi G x res.1 res.2)) 0 0 82 [(0, .ref (G.2.1 + 292)), (1, .int v1), (2, .int v2), (3, .int v3), (4, .int v4)] [] σ) : ∀ (v1 : Int32) (v2 : Int32) (v3 : Int32) (v4 : Int32) (v5 : Int32) (v6 : Int32) (s0 : Int32) (σ : q_S), f_X10_isRefusedChain_159 k82 v1 v2 v3 v4 v5 v6 s0 σ = some res → q_Wq X G x 8 (q_MQ X G (q_Qi G x res.1 res.2)) 0 0 159 [(0, .ref (G.2.1 + 292)), (1, .int v1), (2, .int v2), (3, .int v3), (4, .int v4), (5, .int v5), (6, .int v6)] [.int s0] σ := by
  intro v1 v2 v3 v4 v5 v6 s0 σ h
  unfold f_X10_isRefusedChain_159 at h
  refine q_istore hx [(7, .int s0), (0, .ref (G.2.1 + 292)), (1, .int v1), (2, .int v2), (3, .int v3), (4, .int v4), (5, .int v5), (6, .int v6)] dX10_isRefusedChain_159 (by decide) rfl ?_
  refine q_aload_n hx dX10_isRefusedChain_161 1 rfl ?_
  refine q_iload hx dX10_isRefusedChain_162 6 rfl ?_
  refine q_iload hx dX10_isRefusedChain_164 7 rfl ?_
  refine q_iload hx dX10_isRefusedChain_166 0 rfl ?_
  refine q_bindE h (fun q12 hq12 h => ?_)
  refine q_callVi (As := [.int v5, .int v6, .int s0]) (rest := []) hx q_kR0 (c_X10_isBarred (q_Xl X) G x σ v5 v6 s0 hq12) q_ml_X10_197 q_mn_X10_isBarred q_mi_X10_isBarred q_se_X10_isBarred (by decide) rfl (Nat.le_of_ble_eq_true rfl) dX10_isRefusedChain_168 (q_ne kd_292 (by decide)) (q_e10 kd_292) rfl rfl rfl ?_
  refine q_if_eq hx 176 dX10_isRefusedChain_171 (by decide) (fun hc13 => ?_) (fun hc13 => ?_)
  · replace h := (if_pos hc13).symm.trans h
    refine q_aload_n hx dX10_isRefusedChain_176 1 rfl ?_
    refine q_dup hx dX10_isRefusedChain_177 rfl ?_
    refine q_get (v := .int (q12.2 292 17)) hx q_fl_X10_64 dX10_isRefusedChain_178 (q_ne kd_292 (by decide)) (q_e10 kd_292) rfl ?_
    refine q_iconst (v := 1) hx dX10_isRefusedChain_181 (by decide) ?_
    refine q_iadd hx dX10_isRefusedChain_182 ?_
    refine q_put (v := (q12.2 292 17) + 1) hx q_fl_X10_64 q_fp_10_17 dX10_isRefusedChain_183 (q_ne kd_292 (by decide)) (q_e10 kd_292) (by rw [q_l10]; decide) rfl rfl (by rw [q_e10 kd_292, q_s10_17]) ?_
    refine q_iinc hx [(4, .int (v4 + 1)), (7, .int s0), (0, .ref (G.2.1 + 292)), (1, .int v1), (2, .int v2), (3, .int v3), (5, .int v5), (6, .int v6)] dX10_isRefusedChain_186 5 rfl rfl (by decide) rfl ?_
    refine q_goto hx 82 dX10_isRefusedChain_189 (by decide) ?_
    refine q_sub [2, 3, 4, 5, 0] rfl ?_
    exact hk82 v1 v2 v3 (v4 + 1) (q_up q12.2 292 17 ((q12.2 292 17) + 1)) h
  · replace h := (if_neg hc13).symm.trans h
    refine q_iconst (v := 1) hx dX10_isRefusedChain_174 (by decide) ?_
    cases h
    exact q_zret (v := 1) hx hr rfl dX10_isRefusedChain_175
def f_X10_isRefusedChain_158 (k82 : Int32 → Int32 → Int32 → Int32 → q_S → Option (Int32 × q_S)) (v1 : Int32) (v2 : Int32) (v3 : Int32) (v4 : Int32) (v5 : Int32) (v6 : Int32) (σ : q_S) : Option (Int32 × q_S) :=
  f_X10_isRefusedChain_159 k82 v1 v2 v3 v4 v5 v6 0 σ
set_option maxHeartbeats 4000000 in
set_option maxRecDepth 100000 in
theorem s_X10_isRefusedChain_158 {X : q_X} {G : q_G} {x : q_A} (hx : q_Cx X G RX10 cX10_isRefusedChain 8 5) (hr : (q_Xm X).sig.returnType = some .boolean) {res : Int32 × q_S} {k82 : Int32 → Int32 → Int32 → Int32 → q_S → Option (Int32 × q_S)} (hk82 : ∀ (v1 : Int32) (v2 : Int32) (v3 : Int32) (v4 : Int32) (σ : q_S), k82 v1 v2 v3 v4 σ = some res → q_Wq X G x 8 (q_MQ X G (q_Qi G x res.1 res.2)) 0 0 82 [(0, .ref (G.2.1 + 292)), (1, .int v1), (2, .int v2), (3, .int v3), (4, .int v4)] [] σ) : ∀ (v1 : Int32) (v2 : Int32) (v3 : Int32) (v4 : Int32) (v5 : Int32) (v6 : Int32) (σ : q_S), f_X10_isRefusedChain_158 k82 v1 v2 v3 v4 v5 v6 σ = some res → q_Wq X G x 8 (q_MQ X G (q_Qi G x res.1 res.2)) 0 0 158 [(0, .ref (G.2.1 + 292)), (1, .int v1), (2, .int v2), (3, .int v3), (4, .int v4), (5, .int v5), (6, .int v6)] [] σ := by
  intro v1 v2 v3 v4 v5 v6 σ h
  unfold f_X10_isRefusedChain_158 at h
  refine q_iconst (v := 0) hx dX10_isRefusedChain_158 (by decide) ?_
  refine q_sub [0, 1, 2, 3, 4, 5, 6] rfl ?_
  exact s_X10_isRefusedChain_159 hx hr hk82 v1 v2 v3 v4 v5 v6 0 σ h
def f_X10_isRefusedChain_82 : Nat → Int32 → Int32 → Int32 → Int32 → q_S → Option (Int32 × q_S)
  | 0, _, _, _, _, _ => none
  | n + 1, v1, v2, v3, v4, σ =>
    if v3 < v4 then (some ((0, σ))) else (if v4 = v3 then (Option.bind (f_X10_sv σ v1 4) (fun q14 => if q14 < 3 then (f_X10_isRefusedChain_158 (f_X10_isRefusedChain_82 n) v1 v2 v3 v4 ((σ 292 14) + (v4 * ((f_X10_stepX v2)))) ((σ 292 15) + (v4 * ((f_X10_stepY v2)))) σ) else (Option.bind (f_X10_sv σ v1 2) (fun q16 => if ((σ 292 14) + (v4 * ((f_X10_stepX v2)))) = q16 then (Option.bind (f_X10_sv σ v1 3) (fun q18 => if ((σ 292 15) + (v4 * ((f_X10_stepY v2)))) = q18 then (f_X10_isRefusedChain_159 (f_X10_isRefusedChain_82 n) v1 v2 v3 v4 ((σ 292 14) + (v4 * ((f_X10_stepX v2)))) ((σ 292 15) + (v4 * ((f_X10_stepY v2)))) 1 σ) else (f_X10_isRefusedChain_158 (f_X10_isRefusedChain_82 n) v1 v2 v3 v4 ((σ 292 14) + (v4 * ((f_X10_stepX v2)))) ((σ 292 15) + (v4 * ((f_X10_stepY v2)))) σ))) else (f_X10_isRefusedChain_158 (f_X10_isRefusedChain_82 n) v1 v2 v3 v4 ((σ 292 14) + (v4 * ((f_X10_stepX v2)))) ((σ 292 15) + (v4 * ((f_X10_stepY v2)))) σ))))) else (f_X10_isRefusedChain_158 (f_X10_isRefusedChain_82 n) v1 v2 v3 v4 ((σ 292 14) + (v4 * ((f_X10_stepX v2)))) ((σ 292 15) + (v4 * ((f_X10_stepY v2)))) σ))
set_option maxHeartbeats 4000000 in
set_option maxRecDepth 100000 in
theorem s_X10_isRefusedChain_82 {X : q_X} {G : q_G} {x : q_A} (hx : q_Cx X G RX10 cX10_isRefusedChain 8 5) (hr : (q_Xm X).sig.returnType = some .boolean) {res : Int32 × q_S} : ∀ (n : Nat) (v1 : Int32) (v2 : Int32) (v3 : Int32) (v4 : Int32) (σ : q_S), f_X10_isRefusedChain_82 n v1 v2 v3 v4 σ = some res → q_Wq X G x 8 (q_MQ X G (q_Qi G x res.1 res.2)) 0 0 82 [(0, .ref (G.2.1 + 292)), (1, .int v1), (2, .int v2), (3, .int v3), (4, .int v4)] [] σ := by
  intro n
  induction n with
  | zero => exact fun _ _ _ _ _ h => nomatch (show (none : Option (Int32 × q_S)) = some res from h)
  | succ n ih =>
    intro v1 v2 v3 v4 σ h
    rw [f_X10_isRefusedChain_82] at h
    refine q_iload hx dX10_isRefusedChain_82 4 rfl ?_
    refine q_iload_n hx dX10_isRefusedChain_84 3 rfl ?_
    refine q_icmp_gt hx 192 dX10_isRefusedChain_85 (by decide) (fun hc10 => ?_) (fun hc10 => ?_)
    · replace h := (if_pos hc10).symm.trans h
      refine q_iconst (v := 0) hx dX10_isRefusedChain_192 (by decide) ?_
      cases h
      exact q_zret (v := 0) hx hr rfl dX10_isRefusedChain_193
    · replace h := (if_neg hc10).symm.trans h
      refine q_aload_n hx dX10_isRefusedChain_88 0 rfl ?_
      refine q_get (v := .int (σ 292 14)) hx q_fl_X10_54 dX10_isRefusedChain_89 (q_ne kd_292 (by decide)) (q_e10 kd_292) rfl ?_
      refine q_iload hx dX10_isRefusedChain_92 4 rfl ?_
      refine q_iload_n hx dX10_isRefusedChain_94 2 rfl ?_
      refine q_callSi (As := [.int v2]) (rest := [.int v4, .int (σ 292 14)]) hx q_kR0 (c_X10_stepX (q_Xl X) G x σ v2) q_ml_X10_181 q_mn_X10_stepX q_ms_X10_stepX (by decide) rfl (Nat.le_of_ble_eq_true rfl) dX10_isRefusedChain_95 rfl ?_
      refine q_imul hx dX10_isRefusedChain_98 ?_
      refine q_iadd hx dX10_isRefusedChain_99 ?_
      refine q_istore hx [(5, .int ((σ 292 14) + (v4 * ((f_X10_stepX v2))))), (0, .ref (G.2.1 + 292)), (1, .int v1), (2, .int v2), (3, .int v3), (4, .int v4)] dX10_isRefusedChain_100 (by decide) rfl ?_
      refine q_aload_n hx dX10_isRefusedChain_102 1 rfl ?_
      refine q_get (v := .int (σ 292 15)) hx q_fl_X10_57 dX10_isRefusedChain_103 (q_ne kd_292 (by decide)) (q_e10 kd_292) rfl ?_
      refine q_iload hx dX10_isRefusedChain_106 5 rfl ?_
      refine q_iload_n hx dX10_isRefusedChain_108 3 rfl ?_
      refine q_callSi (As := [.int v2]) (rest := [.int v4, .int (σ 292 15)]) hx q_kR0 (c_X10_stepY (q_Xl X) G x σ v2) q_ml_X10_184 q_mn_X10_stepY q_ms_X10_stepY (by decide) rfl (Nat.le_of_ble_eq_true rfl) dX10_isRefusedChain_109 rfl ?_
      refine q_imul hx dX10_isRefusedChain_112 ?_
      refine q_iadd hx dX10_isRefusedChain_113 ?_
      refine q_istore hx [(6, .int ((σ 292 15) + (v4 * ((f_X10_stepY v2))))), (5, .int ((σ 292 14) + (v4 * ((f_X10_stepX v2))))), (0, .ref (G.2.1 + 292)), (1, .int v1), (2, .int v2), (3, .int v3), (4, .int v4)] dX10_isRefusedChain_114 (by decide) rfl ?_
      refine q_iload hx dX10_isRefusedChain_116 6 rfl ?_
      refine q_iload_n hx dX10_isRefusedChain_118 5 rfl ?_
      refine q_icmp_ne hx 158 dX10_isRefusedChain_119 (by decide) (fun hc11 => ?_) (fun hc11 => ?_)
      · replace h := (if_neg hc11).symm.trans h
        refine q_sub [2, 3, 4, 5, 6, 1, 0] rfl ?_
        exact s_X10_isRefusedChain_158 hx hr (fun v1 v2 v3 v4 σ h => ih v1 v2 v3 v4 σ h) v1 v2 v3 v4 ((σ 292 14) + (v4 * ((f_X10_stepX v2)))) ((σ 292 15) + (v4 * ((f_X10_stepY v2)))) σ h
      · replace h := (if_pos hc11).symm.trans h
        refine q_aload_n hx dX10_isRefusedChain_122 2 rfl ?_
        refine q_iload_n hx dX10_isRefusedChain_123 3 rfl ?_
        refine q_iconst (v := 4) hx dX10_isRefusedChain_124 (by decide) ?_
        refine q_bindE h (fun q14 hq14 h => ?_)
        refine q_callVi (As := [.int v1, .int 4]) (rest := []) hx q_kR0 (c_X10_sv (q_Xl X) G x σ v1 4 hq14) q_ml_X10_111 q_mn_X10_sv q_mi_X10_sv q_se_X10_sv (by decide) rfl (Nat.le_of_ble_eq_true rfl) dX10_isRefusedChain_125 (q_ne kd_292 (by decide)) (q_e10 kd_292) rfl rfl rfl ?_
        refine q_iconst (v := 3) hx dX10_isRefusedChain_128 (by decide) ?_
        refine q_icmp_lt hx 158 dX10_isRefusedChain_129 (by decide) (fun hc15 => ?_) (fun hc15 => ?_)
        · replace h := (if_pos hc15).symm.trans h
          refine q_sub [2, 3, 4, 5, 6, 1, 0] rfl ?_
          exact s_X10_isRefusedChain_158 hx hr (fun v1 v2 v3 v4 σ h => ih v1 v2 v3 v4 σ h) v1 v2 v3 v4 ((σ 292 14) + (v4 * ((f_X10_stepX v2)))) ((σ 292 15) + (v4 * ((f_X10_stepY v2)))) σ h
        · replace h := (if_neg hc15).symm.trans h
          refine q_iload hx dX10_isRefusedChain_132 1 rfl ?_
          refine q_aload_n hx dX10_isRefusedChain_134 2 rfl ?_
          refine q_iload_n hx dX10_isRefusedChain_135 3 rfl ?_
          refine q_iconst (v := 2) hx dX10_isRefusedChain_136 (by decide) ?_
          refine q_bindE h (fun q16 hq16 h => ?_)
          refine q_callVi (As := [.int v1, .int 2]) (rest := [.int ((σ 292 14) + (v4 * ((f_X10_stepX v2))))]) hx q_kR0 (c_X10_sv (q_Xl X) G x σ v1 2 hq16) q_ml_X10_111 q_mn_X10_sv q_mi_X10_sv q_se_X10_sv (by decide) rfl (Nat.le_of_ble_eq_true rfl) dX10_isRefusedChain_137 (q_ne kd_292 (by decide)) (q_e10 kd_292) rfl rfl rfl ?_
          refine q_icmp_ne hx 158 dX10_isRefusedChain_140 (by decide) (fun hc17 => ?_) (fun hc17 => ?_)
          · replace h := (if_neg hc17).symm.trans h
            refine q_sub [2, 3, 4, 5, 6, 1, 0] rfl ?_
            exact s_X10_isRefusedChain_158 hx hr (fun v1 v2 v3 v4 σ h => ih v1 v2 v3 v4 σ h) v1 v2 v3 v4 ((σ 292 14) + (v4 * ((f_X10_stepX v2)))) ((σ 292 15) + (v4 * ((f_X10_stepY v2)))) σ h
          · replace h := (if_pos hc17).symm.trans h
            refine q_iload hx dX10_isRefusedChain_143 0 rfl ?_
            refine q_aload_n hx dX10_isRefusedChain_145 2 rfl ?_
            refine q_iload_n hx dX10_isRefusedChain_146 3 rfl ?_
            refine q_iconst (v := 3) hx dX10_isRefusedChain_147 (by decide) ?_
            refine q_bindE h (fun q18 hq18 h => ?_)
            refine q_callVi (As := [.int v1, .int 3]) (rest := [.int ((σ 292 15) + (v4 * ((f_X10_stepY v2))))]) hx q_kR0 (c_X10_sv (q_Xl X) G x σ v1 3 hq18) q_ml_X10_111 q_mn_X10_sv q_mi_X10_sv q_se_X10_sv (by decide) rfl (Nat.le_of_ble_eq_true rfl) dX10_isRefusedChain_148 (q_ne kd_292 (by decide)) (q_e10 kd_292) rfl rfl rfl ?_
            refine q_icmp_ne hx 158 dX10_isRefusedChain_151 (by decide) (fun hc19 => ?_) (fun hc19 => ?_)
            · replace h := (if_neg hc19).symm.trans h
              refine q_sub [2, 3, 4, 5, 6, 1, 0] rfl ?_
              exact s_X10_isRefusedChain_158 hx hr (fun v1 v2 v3 v4 σ h => ih v1 v2 v3 v4 σ h) v1 v2 v3 v4 ((σ 292 14) + (v4 * ((f_X10_stepX v2)))) ((σ 292 15) + (v4 * ((f_X10_stepY v2)))) σ h
            · replace h := (if_pos hc19).symm.trans h
              refine q_iconst (v := 1) hx dX10_isRefusedChain_154 (by decide) ?_
              refine q_goto hx 159 dX10_isRefusedChain_155 (by decide) ?_
              refine q_sub [2, 3, 4, 5, 6, 1, 0] rfl ?_
              exact s_X10_isRefusedChain_159 hx hr (fun v1 v2 v3 v4 σ h => ih v1 v2 v3 v4 σ h) v1 v2 v3 v4 ((σ 292 14) + (v4 * ((f_X10_stepX v2)))) ((σ 292 15) + (v4 * ((f_X10_stepY v2)))) 1 σ h
def f_X10_isRefusedChain (σ : q_S) (a1 : Int32) (a2 : Int32) (a3 : Int32) : Option (Int32 × q_S) :=
  Option.bind (f_X10_sv σ a1 1) (fun q1 => if q1 = 0 then (if ((f_X10_isBad σ 4 a1).1 = 0 ∨ (f_X10_isBad σ 4 a1).1 = 1) then some (((f_X10_isBad σ 4 a1).1, (f_X10_isBad σ 4 a1).2)) else none) else (Option.bind (f_X10_sv σ a1 1) (fun q3 => if q3 = 2 then (Option.bind (f_X10_sv σ a1 4) (fun q21 => if ((f_X10_isBad σ 5 q21).1 = 0 ∨ (f_X10_isBad σ 5 q21).1 = 1) then some (((f_X10_isBad σ 5 q21).1, (f_X10_isBad σ 5 q21).2)) else none)) else (Option.bind (f_X10_sv σ a1 4) (fun q5 => if q5 = 16 then (if ((f_X10_isBad σ 1 16).1 = 0 ∨ (f_X10_isBad σ 1 16).1 = 1) then some (((f_X10_isBad σ 1 16).1, (f_X10_isBad σ 1 16).2)) else none) else (Option.bind (f_X10_marks σ a1 ((-1))) (fun q7 => Option.bind (f_X10_sv q7 a1 4) (fun q8 => Option.bind (f_X10_goesTo q7 a1 q8) (fun q9 => f_X10_isRefusedChain_82 q_fu a1 a2 a3 1 (q_up q9 292 17 0))))))))))
set_option maxHeartbeats 4000000 in
set_option maxRecDepth 100000 in
theorem c_X10_isRefusedChain (l : Launch) (G : q_G) (x : q_A) (σ : q_S) (a1 : Int32) (a2 : Int32) (a3 : Int32)  {res : Int32 × q_S} (h : f_X10_isRefusedChain σ a1 a2 a3 = some res) : q_Met l yX10_isRefusedChain cX10_isRefusedChain 8 (some .boolean) 5 G [.ref (G.2.1 + 292), .int a1, .int a2, .int a3] σ x (q_Qi G x res.1 res.2) := by
  refine q_of (by decide) (Nat.le_of_ble_eq_true rfl) (fun X hl0 hx hr => ?_)
  subst hl0
  have hx : q_Cx X G RX10 cX10_isRefusedChain 8 5 := hx
  unfold f_X10_isRefusedChain at h
  show q_Wq X G x 8 (q_MQ X G (q_Qi G x res.1 res.2)) 0 0 0 [(0, .ref (G.2.1 + 292)), (1, .int a1), (2, .int a2), (3, .int a3)] [] σ
  refine q_aload_n hx dX10_isRefusedChain_0 0 rfl ?_
  refine q_iload_n hx dX10_isRefusedChain_1 1 rfl ?_
  refine q_iconst (v := 1) hx dX10_isRefusedChain_2 (by decide) ?_
  refine q_bindE h (fun q1 hq1 h => ?_)
  refine q_callVi (As := [.int a1, .int 1]) (rest := []) hx q_kR0 (c_X10_sv (q_Xl X) G x σ a1 1 hq1) q_ml_X10_111 q_mn_X10_sv q_mi_X10_sv q_se_X10_sv (by decide) rfl (Nat.le_of_ble_eq_true rfl) dX10_isRefusedChain_3 (q_ne kd_292 (by decide)) (q_e10 kd_292) rfl rfl rfl ?_
  refine q_if_ne hx 16 dX10_isRefusedChain_6 (by decide) (fun hc2 => ?_) (fun hc2 => ?_)
  · replace h := (if_neg hc2).symm.trans h
    refine q_aload_n hx dX10_isRefusedChain_16 0 rfl ?_
    refine q_iload_n hx dX10_isRefusedChain_17 1 rfl ?_
    refine q_iconst (v := 1) hx dX10_isRefusedChain_18 (by decide) ?_
    refine q_bindE h (fun q3 hq3 h => ?_)
    refine q_callVi (As := [.int a1, .int 1]) (rest := []) hx q_kR0 (c_X10_sv (q_Xl X) G x σ a1 1 hq3) q_ml_X10_111 q_mn_X10_sv q_mi_X10_sv q_se_X10_sv (by decide) rfl (Nat.le_of_ble_eq_true rfl) dX10_isRefusedChain_19 (q_ne kd_292 (by decide)) (q_e10 kd_292) rfl rfl rfl ?_
    refine q_iconst (v := 2) hx dX10_isRefusedChain_22 (by decide) ?_
    refine q_icmp_ne hx 38 dX10_isRefusedChain_23 (by decide) (fun hc4 => ?_) (fun hc4 => ?_)
    · replace h := (if_neg hc4).symm.trans h
      refine q_aload_n hx dX10_isRefusedChain_38 0 rfl ?_
      refine q_iload_n hx dX10_isRefusedChain_39 1 rfl ?_
      refine q_iconst (v := 4) hx dX10_isRefusedChain_40 (by decide) ?_
      refine q_bindE h (fun q5 hq5 h => ?_)
      refine q_callVi (As := [.int a1, .int 4]) (rest := []) hx q_kR0 (c_X10_sv (q_Xl X) G x σ a1 4 hq5) q_ml_X10_111 q_mn_X10_sv q_mi_X10_sv q_se_X10_sv (by decide) rfl (Nat.le_of_ble_eq_true rfl) dX10_isRefusedChain_41 (q_ne kd_292 (by decide)) (q_e10 kd_292) rfl rfl rfl ?_
      refine q_bipush (v := 16) hx dX10_isRefusedChain_44 (by decide) ?_
      refine q_icmp_ne hx 57 dX10_isRefusedChain_46 (by decide) (fun hc6 => ?_) (fun hc6 => ?_)
      · replace h := (if_neg hc6).symm.trans h
        refine q_aload_n hx dX10_isRefusedChain_57 0 rfl ?_
        refine q_iload_n hx dX10_isRefusedChain_58 1 rfl ?_
        refine q_iconst (v := (-1)) hx dX10_isRefusedChain_59 (by decide) ?_
        refine q_bindE h (fun q7 hq7 h => ?_)
        refine q_callVv (As := [.int a1, .int ((-1))]) (rest := []) hx q_kR0 (c_X10_marks (q_Xl X) G x σ a1 ((-1)) hq7) q_ml_X10_194 q_mn_X10_marks q_mi_X10_marks q_se_X10_marks (by decide) rfl (Nat.le_of_ble_eq_true rfl) dX10_isRefusedChain_60 (q_ne kd_292 (by decide)) (q_e10 kd_292) rfl rfl rfl ?_
        refine q_aload_n hx dX10_isRefusedChain_63 0 rfl ?_
        refine q_iload_n hx dX10_isRefusedChain_64 1 rfl ?_
        refine q_aload_n hx dX10_isRefusedChain_65 0 rfl ?_
        refine q_iload_n hx dX10_isRefusedChain_66 1 rfl ?_
        refine q_iconst (v := 4) hx dX10_isRefusedChain_67 (by decide) ?_
        refine q_bindE h (fun q8 hq8 h => ?_)
        refine q_callVi (As := [.int a1, .int 4]) (rest := [.int a1, .ref (G.2.1 + 292)]) hx q_kR0 (c_X10_sv (q_Xl X) G x q7 a1 4 hq8) q_ml_X10_111 q_mn_X10_sv q_mi_X10_sv q_se_X10_sv (by decide) rfl (Nat.le_of_ble_eq_true rfl) dX10_isRefusedChain_68 (q_ne kd_292 (by decide)) (q_e10 kd_292) rfl rfl rfl ?_
        refine q_bindE h (fun q9 hq9 h => ?_)
        refine q_callVv (As := [.int a1, .int q8]) (rest := []) hx q_kR0 (c_X10_goesTo (q_Xl X) G x q7 a1 q8 hq9) q_ml_X10_187 q_mn_X10_goesTo q_mi_X10_goesTo q_se_X10_goesTo (by decide) rfl (Nat.le_of_ble_eq_true rfl) dX10_isRefusedChain_71 (q_ne kd_292 (by decide)) (q_e10 kd_292) rfl rfl rfl ?_
        refine q_aload_n hx dX10_isRefusedChain_74 0 rfl ?_
        refine q_iconst (v := 0) hx dX10_isRefusedChain_75 (by decide) ?_
        refine q_put (v := 0) hx q_fl_X10_64 q_fp_10_17 dX10_isRefusedChain_76 (q_ne kd_292 (by decide)) (q_e10 kd_292) (by rw [q_l10]; decide) rfl rfl (by rw [q_e10 kd_292, q_s10_17]) ?_
        refine q_iconst (v := 1) hx dX10_isRefusedChain_79 (by decide) ?_
        refine q_istore hx [(4, .int 1), (0, .ref (G.2.1 + 292)), (1, .int a1), (2, .int a2), (3, .int a3)] dX10_isRefusedChain_80 (by decide) rfl ?_
        refine q_sub [1, 2, 3, 4, 0] rfl ?_
        exact s_X10_isRefusedChain_82 hx hr q_fu a1 a2 a3 1 (q_up q9 292 17 0) h
      · replace h := (if_pos hc6).symm.trans h
        refine q_aload_n hx dX10_isRefusedChain_49 0 rfl ?_
        refine q_iconst (v := 1) hx dX10_isRefusedChain_50 (by decide) ?_
        refine q_bipush (v := 16) hx dX10_isRefusedChain_51 (by decide) ?_
        refine q_callVi (As := [.int 1, .int 16]) (rest := []) hx q_kR0 (c_X10_isBad (q_Xl X) G x σ 1 16) q_ml_X10_119 q_mn_X10_isBad q_mi_X10_isBad q_se_X10_isBad (by decide) rfl (Nat.le_of_ble_eq_true rfl) dX10_isRefusedChain_53 (q_ne kd_292 (by decide)) (q_e10 kd_292) rfl rfl rfl ?_
        by_cases hg20 : ((f_X10_isBad σ 1 16).1 = 0 ∨ (f_X10_isBad σ 1 16).1 = 1)
        case neg => rw [if_neg hg20] at h; exact nomatch h
        replace h := (if_pos hg20).symm.trans h
        cases h
        exact q_zret (v := (f_X10_isBad σ 1 16).1) hx hr (q_zn hg20) dX10_isRefusedChain_56
    · replace h := (if_pos hc4).symm.trans h
      refine q_aload_n hx dX10_isRefusedChain_26 0 rfl ?_
      refine q_iconst (v := 5) hx dX10_isRefusedChain_27 (by decide) ?_
      refine q_aload_n hx dX10_isRefusedChain_28 0 rfl ?_
      refine q_iload_n hx dX10_isRefusedChain_29 1 rfl ?_
      refine q_iconst (v := 4) hx dX10_isRefusedChain_30 (by decide) ?_
      refine q_bindE h (fun q21 hq21 h => ?_)
      refine q_callVi (As := [.int a1, .int 4]) (rest := [.int 5, .ref (G.2.1 + 292)]) hx q_kR0 (c_X10_sv (q_Xl X) G x σ a1 4 hq21) q_ml_X10_111 q_mn_X10_sv q_mi_X10_sv q_se_X10_sv (by decide) rfl (Nat.le_of_ble_eq_true rfl) dX10_isRefusedChain_31 (q_ne kd_292 (by decide)) (q_e10 kd_292) rfl rfl rfl ?_
      refine q_callVi (As := [.int 5, .int q21]) (rest := []) hx q_kR0 (c_X10_isBad (q_Xl X) G x σ 5 q21) q_ml_X10_119 q_mn_X10_isBad q_mi_X10_isBad q_se_X10_isBad (by decide) rfl (Nat.le_of_ble_eq_true rfl) dX10_isRefusedChain_34 (q_ne kd_292 (by decide)) (q_e10 kd_292) rfl rfl rfl ?_
      by_cases hg22 : ((f_X10_isBad σ 5 q21).1 = 0 ∨ (f_X10_isBad σ 5 q21).1 = 1)
      case neg => rw [if_neg hg22] at h; exact nomatch h
      replace h := (if_pos hg22).symm.trans h
      cases h
      exact q_zret (v := (f_X10_isBad σ 5 q21).1) hx hr (q_zn hg22) dX10_isRefusedChain_37
  · replace h := (if_pos hc2).symm.trans h
    refine q_aload_n hx dX10_isRefusedChain_9 0 rfl ?_
    refine q_iconst (v := 4) hx dX10_isRefusedChain_10 (by decide) ?_
    refine q_iload_n hx dX10_isRefusedChain_11 1 rfl ?_
    refine q_callVi (As := [.int 4, .int a1]) (rest := []) hx q_kR0 (c_X10_isBad (q_Xl X) G x σ 4 a1) q_ml_X10_119 q_mn_X10_isBad q_mi_X10_isBad q_se_X10_isBad (by decide) rfl (Nat.le_of_ble_eq_true rfl) dX10_isRefusedChain_12 (q_ne kd_292 (by decide)) (q_e10 kd_292) rfl rfl rfl ?_
    by_cases hg23 : ((f_X10_isBad σ 4 a1).1 = 0 ∨ (f_X10_isBad σ 4 a1).1 = 1)
    case neg => rw [if_neg hg23] at h; exact nomatch h
    replace h := (if_pos hg23).symm.trans h
    cases h
    exact q_zret (v := (f_X10_isBad σ 4 a1).1) hx hr (q_zn hg23) dX10_isRefusedChain_15
-- X10_size
def f_X10_size (a0 : Int32) : Int32 :=
  if 0 ≤ a0 then (a0) else (-a0)
set_option maxHeartbeats 4000000 in
set_option maxRecDepth 100000 in
theorem ca_X10_size (l : Launch) (G : q_G) (x : q_A) (σ : q_S) (a0 : Int32)  {res : Int32} (h : f_X10_size a0 = res) : q_Met l yX10_size cX10_size 1 (some .int) 1 G [.int a0] σ x (q_Qi G x res σ) := by
  refine q_of (by decide) (Nat.le_of_ble_eq_true rfl) (fun X hl0 hx hr => ?_)
  subst hl0
  have hx : q_Cx X G RX10 cX10_size 1 1 := hx
  unfold f_X10_size at h
  show q_Wq X G x 1 (q_MQ X G (q_Qi G x res σ)) 0 0 0 [(0, .int a0)] [] σ
  refine q_iload_n hx dX10_size_0 0 rfl ?_
  refine q_if_ge hx 9 dX10_size_1 (by decide) (fun hc1 => ?_) (fun hc1 => ?_)
  · replace h := (if_pos hc1).symm.trans h
    refine q_iload_n hx dX10_size_9 0 rfl ?_
    subst h
    exact q_iret hx hr dX10_size_10
  · replace h := (if_neg hc1).symm.trans h
    refine q_iload_n hx dX10_size_4 0 rfl ?_
    refine q_ineg hx dX10_size_5 ?_
    refine q_goto hx 10 dX10_size_6 (by decide) ?_
    subst h
    exact q_iret hx hr dX10_size_10
theorem c_X10_size (l : Launch) (G : q_G) (x : q_A) (σ : q_S) (a0 : Int32)  : q_Met l yX10_size cX10_size 1 (some .int) 1 G [.int a0] σ x (q_Qi G x (f_X10_size a0) σ) := ca_X10_size l G x σ a0 rfl
-- X10_lays
def f_X10_lays (σ : q_S) (a1 : Int32) (a2 : Int32) (a3 : Int32) : Option (Int32 × q_S) :=
  Option.bind (f_X10_sv σ a1 4) (fun q1 => Option.bind (f_X10_ls σ a1 (5 + (2 * q1)) a2) (fun q2 => Option.bind (f_X10_ls q2 a1 ((5 + (2 * q1)) + 1) a3) (fun q3 => Option.bind (f_X10_ls q3 a1 4 (q1 + 1)) (fun q4 => Option.bind (f_X10_goesTo q4 a1 (q1 + 1)) (fun q5 => Option.bind (f_X10_sv q5 a1 2) (fun q6 => Option.bind (f_X10_sv q5 a1 3) (fun q7 => if (((f_X10_size ((q5 292 14) - q6))) + ((f_X10_size ((q5 292 15) - q7)))) = 0 then (Option.bind (f_X10_ls q5 a1 1 2) (fun q9 => some ((((f_X10_size ((q5 292 14) - q6))) + ((f_X10_size ((q5 292 15) - q7))), q9)))) else (some ((((f_X10_size ((q5 292 14) - q6))) + ((f_X10_size ((q5 292 15) - q7))), q5))))))))))
set_option maxHeartbeats 4000000 in
set_option maxRecDepth 100000 in
theorem c_X10_lays (l : Launch) (G : q_G) (x : q_A) (σ : q_S) (a1 : Int32) (a2 : Int32) (a3 : Int32)  {res : Int32 × q_S} (h : f_X10_lays σ a1 a2 a3 = some res) : q_Met l yX10_lays cX10_lays 6 (some .int) 4 G [.ref (G.2.1 + 292), .int a1, .int a2, .int a3] σ x (q_Qi G x res.1 res.2) := by
  refine q_of (by decide) (Nat.le_of_ble_eq_true rfl) (fun X hl0 hx hr => ?_)
  subst hl0
  have hx : q_Cx X G RX10 cX10_lays 6 4 := hx
  unfold f_X10_lays at h
  show q_Wq X G x 6 (q_MQ X G (q_Qi G x res.1 res.2)) 0 0 0 [(0, .ref (G.2.1 + 292)), (1, .int a1), (2, .int a2), (3, .int a3)] [] σ
  refine q_aload_n hx dX10_lays_0 0 rfl ?_
  refine q_iload_n hx dX10_lays_1 1 rfl ?_
  refine q_iconst (v := 4) hx dX10_lays_2 (by decide) ?_
  refine q_bindE h (fun q1 hq1 h => ?_)
  refine q_callVi (As := [.int a1, .int 4]) (rest := []) hx q_kR0 (c_X10_sv (q_Xl X) G x σ a1 4 hq1) q_ml_X10_111 q_mn_X10_sv q_mi_X10_sv q_se_X10_sv (by decide) rfl (Nat.le_of_ble_eq_true rfl) dX10_lays_3 (q_ne kd_292 (by decide)) (q_e10 kd_292) rfl rfl rfl ?_
  refine q_istore hx [(4, .int q1), (0, .ref (G.2.1 + 292)), (1, .int a1), (2, .int a2), (3, .int a3)] dX10_lays_6 (by decide) rfl ?_
  refine q_aload_n hx dX10_lays_8 1 rfl ?_
  refine q_iload_n hx dX10_lays_9 2 rfl ?_
  refine q_iconst (v := 5) hx dX10_lays_10 (by decide) ?_
  refine q_iconst (v := 2) hx dX10_lays_11 (by decide) ?_
  refine q_iload hx dX10_lays_12 0 rfl ?_
  refine q_imul hx dX10_lays_14 ?_
  refine q_iadd hx dX10_lays_15 ?_
  refine q_iload_n hx dX10_lays_16 3 rfl ?_
  refine q_bindE h (fun q2 hq2 h => ?_)
  refine q_callVv (As := [.int a1, .int (5 + (2 * q1)), .int a2]) (rest := []) hx q_kR0 (c_X10_ls (q_Xl X) G x σ a1 (5 + (2 * q1)) a2 hq2) q_ml_X10_123 q_mn_X10_ls q_mi_X10_ls q_se_X10_ls (by decide) rfl (Nat.le_of_ble_eq_true rfl) dX10_lays_17 (q_ne kd_292 (by decide)) (q_e10 kd_292) rfl rfl rfl ?_
  refine q_aload_n hx dX10_lays_20 1 rfl ?_
  refine q_iload_n hx dX10_lays_21 2 rfl ?_
  refine q_iconst (v := 5) hx dX10_lays_22 (by decide) ?_
  refine q_iconst (v := 2) hx dX10_lays_23 (by decide) ?_
  refine q_iload hx dX10_lays_24 0 rfl ?_
  refine q_imul hx dX10_lays_26 ?_
  refine q_iadd hx dX10_lays_27 ?_
  refine q_iconst (v := 1) hx dX10_lays_28 (by decide) ?_
  refine q_iadd hx dX10_lays_29 ?_
  refine q_iload_n hx dX10_lays_30 4 rfl ?_
  refine q_bindE h (fun q3 hq3 h => ?_)
  refine q_callVv (As := [.int a1, .int ((5 + (2 * q1)) + 1), .int a3]) (rest := []) hx q_kR0 (c_X10_ls (q_Xl X) G x q2 a1 ((5 + (2 * q1)) + 1) a3 hq3) q_ml_X10_123 q_mn_X10_ls q_mi_X10_ls q_se_X10_ls (by decide) rfl (Nat.le_of_ble_eq_true rfl) dX10_lays_31 (q_ne kd_292 (by decide)) (q_e10 kd_292) rfl rfl rfl ?_
  refine q_aload_n hx dX10_lays_34 1 rfl ?_
  refine q_iload_n hx dX10_lays_35 2 rfl ?_
  refine q_iconst (v := 4) hx dX10_lays_36 (by decide) ?_
  refine q_iload hx dX10_lays_37 0 rfl ?_
  refine q_iconst (v := 1) hx dX10_lays_39 (by decide) ?_
  refine q_iadd hx dX10_lays_40 ?_
  refine q_bindE h (fun q4 hq4 h => ?_)
  refine q_callVv (As := [.int a1, .int 4, .int (q1 + 1)]) (rest := []) hx q_kR0 (c_X10_ls (q_Xl X) G x q3 a1 4 (q1 + 1) hq4) q_ml_X10_123 q_mn_X10_ls q_mi_X10_ls q_se_X10_ls (by decide) rfl (Nat.le_of_ble_eq_true rfl) dX10_lays_41 (q_ne kd_292 (by decide)) (q_e10 kd_292) rfl rfl rfl ?_
  refine q_aload_n hx dX10_lays_44 1 rfl ?_
  refine q_iload_n hx dX10_lays_45 2 rfl ?_
  refine q_iload hx dX10_lays_46 0 rfl ?_
  refine q_iconst (v := 1) hx dX10_lays_48 (by decide) ?_
  refine q_iadd hx dX10_lays_49 ?_
  refine q_bindE h (fun q5 hq5 h => ?_)
  refine q_callVv (As := [.int a1, .int (q1 + 1)]) (rest := []) hx q_kR0 (c_X10_goesTo (q_Xl X) G x q4 a1 (q1 + 1) hq5) q_ml_X10_187 q_mn_X10_goesTo q_mi_X10_goesTo q_se_X10_goesTo (by decide) rfl (Nat.le_of_ble_eq_true rfl) dX10_lays_50 (q_ne kd_292 (by decide)) (q_e10 kd_292) rfl rfl rfl ?_
  refine q_aload_n hx dX10_lays_53 1 rfl ?_
  refine q_get (v := .int (q5 292 14)) hx q_fl_X10_54 dX10_lays_54 (q_ne kd_292 (by decide)) (q_e10 kd_292) rfl ?_
  refine q_aload_n hx dX10_lays_57 1 rfl ?_
  refine q_iload_n hx dX10_lays_58 2 rfl ?_
  refine q_iconst (v := 2) hx dX10_lays_59 (by decide) ?_
  refine q_bindE h (fun q6 hq6 h => ?_)
  refine q_callVi (As := [.int a1, .int 2]) (rest := [.int (q5 292 14)]) hx q_kR0 (c_X10_sv (q_Xl X) G x q5 a1 2 hq6) q_ml_X10_111 q_mn_X10_sv q_mi_X10_sv q_se_X10_sv (by decide) rfl (Nat.le_of_ble_eq_true rfl) dX10_lays_60 (q_ne kd_292 (by decide)) (q_e10 kd_292) rfl rfl rfl ?_
  refine q_isub hx dX10_lays_63 ?_
  refine q_callSi (As := [.int ((q5 292 14) - q6)]) (rest := []) hx q_kR0 (c_X10_size (q_Xl X) G x q5 ((q5 292 14) - q6)) q_ml_X10_201 q_mn_X10_size q_ms_X10_size (by decide) rfl (Nat.le_of_ble_eq_true rfl) dX10_lays_64 rfl ?_
  refine q_aload_n hx dX10_lays_67 1 rfl ?_
  refine q_get (v := .int (q5 292 15)) hx q_fl_X10_57 dX10_lays_68 (q_ne kd_292 (by decide)) (q_e10 kd_292) rfl ?_
  refine q_aload_n hx dX10_lays_71 1 rfl ?_
  refine q_iload_n hx dX10_lays_72 2 rfl ?_
  refine q_iconst (v := 3) hx dX10_lays_73 (by decide) ?_
  refine q_bindE h (fun q7 hq7 h => ?_)
  refine q_callVi (As := [.int a1, .int 3]) (rest := [.int (q5 292 15), .int ((f_X10_size ((q5 292 14) - q6)))]) hx q_kR0 (c_X10_sv (q_Xl X) G x q5 a1 3 hq7) q_ml_X10_111 q_mn_X10_sv q_mi_X10_sv q_se_X10_sv (by decide) rfl (Nat.le_of_ble_eq_true rfl) dX10_lays_74 (q_ne kd_292 (by decide)) (q_e10 kd_292) rfl rfl rfl ?_
  refine q_isub hx dX10_lays_77 ?_
  refine q_callSi (As := [.int ((q5 292 15) - q7)]) (rest := [.int ((f_X10_size ((q5 292 14) - q6)))]) hx q_kR0 (c_X10_size (q_Xl X) G x q5 ((q5 292 15) - q7)) q_ml_X10_201 q_mn_X10_size q_ms_X10_size (by decide) rfl (Nat.le_of_ble_eq_true rfl) dX10_lays_78 rfl ?_
  refine q_iadd hx dX10_lays_81 ?_
  refine q_istore hx [(5, .int (((f_X10_size ((q5 292 14) - q6))) + ((f_X10_size ((q5 292 15) - q7))))), (4, .int q1), (0, .ref (G.2.1 + 292)), (1, .int a1), (2, .int a2), (3, .int a3)] dX10_lays_82 (by decide) rfl ?_
  refine q_iload hx dX10_lays_84 0 rfl ?_
  refine q_if_ne hx 96 dX10_lays_86 (by decide) (fun hc8 => ?_) (fun hc8 => ?_)
  · replace h := (if_neg hc8).symm.trans h
    refine q_iload hx dX10_lays_96 0 rfl ?_
    cases h
    exact q_iret hx hr dX10_lays_98
  · replace h := (if_pos hc8).symm.trans h
    refine q_aload_n hx dX10_lays_89 2 rfl ?_
    refine q_iload_n hx dX10_lays_90 3 rfl ?_
    refine q_iconst (v := 1) hx dX10_lays_91 (by decide) ?_
    refine q_iconst (v := 2) hx dX10_lays_92 (by decide) ?_
    refine q_bindE h (fun q9 hq9 h => ?_)
    refine q_callVv (As := [.int a1, .int 1, .int 2]) (rest := []) hx q_kR0 (c_X10_ls (q_Xl X) G x q5 a1 1 2 hq9) q_ml_X10_123 q_mn_X10_ls q_mi_X10_ls q_se_X10_ls (by decide) rfl (Nat.le_of_ble_eq_true rfl) dX10_lays_93 (q_ne kd_292 (by decide)) (q_e10 kd_292) rfl rfl rfl ?_
    refine q_iload hx dX10_lays_96 0 rfl ?_
    cases h
    exact q_iret hx hr dX10_lays_98
-- X10_directionOf
def f_X10_directionOf (a0 : Int32) : Int32 :=
  if a0 = 110 then (0) else (if a0 = 101 then (1) else (if a0 = 115 then (2) else (if a0 = 119 then (3) else ((-1)))))
set_option maxHeartbeats 4000000 in
set_option maxRecDepth 100000 in
theorem ca_X10_directionOf (l : Launch) (G : q_G) (x : q_A) (σ : q_S) (a0 : Int32)  {res : Int32} (h : f_X10_directionOf a0 = res) : q_Met l yX10_directionOf cX10_directionOf 1 (some .int) 1 G [.int a0] σ x (q_Qi G x res σ) := by
  refine q_of (by decide) (Nat.le_of_ble_eq_true rfl) (fun X hl0 hx hr => ?_)
  subst hl0
  have hx : q_Cx X G RX10 cX10_directionOf 1 1 := hx
  unfold f_X10_directionOf at h
  show q_Wq X G x 1 (q_MQ X G (q_Qi G x res σ)) 0 0 0 [(0, .int a0)] [] σ
  refine q_iload_n hx dX10_directionOf_0 0 rfl ?_
  refine q_bipush (v := 110) hx dX10_directionOf_1 (by decide) ?_
  refine q_icmp_ne hx 10 dX10_directionOf_3 (by decide) (fun hc1 => ?_) (fun hc1 => ?_)
  · replace h := (if_neg hc1).symm.trans h
    refine q_iload_n hx dX10_directionOf_10 0 rfl ?_
    refine q_bipush (v := 101) hx dX10_directionOf_11 (by decide) ?_
    refine q_icmp_ne hx 20 dX10_directionOf_13 (by decide) (fun hc2 => ?_) (fun hc2 => ?_)
    · replace h := (if_neg hc2).symm.trans h
      refine q_iload_n hx dX10_directionOf_20 0 rfl ?_
      refine q_bipush (v := 115) hx dX10_directionOf_21 (by decide) ?_
      refine q_icmp_ne hx 30 dX10_directionOf_23 (by decide) (fun hc3 => ?_) (fun hc3 => ?_)
      · replace h := (if_neg hc3).symm.trans h
        refine q_iload_n hx dX10_directionOf_30 0 rfl ?_
        refine q_bipush (v := 119) hx dX10_directionOf_31 (by decide) ?_
        refine q_icmp_ne hx 40 dX10_directionOf_33 (by decide) (fun hc4 => ?_) (fun hc4 => ?_)
        · replace h := (if_neg hc4).symm.trans h
          refine q_iconst (v := (-1)) hx dX10_directionOf_40 (by decide) ?_
          subst h
          exact q_iret hx hr dX10_directionOf_41
        · replace h := (if_pos hc4).symm.trans h
          refine q_iconst (v := 3) hx dX10_directionOf_36 (by decide) ?_
          refine q_goto hx 41 dX10_directionOf_37 (by decide) ?_
          subst h
          exact q_iret hx hr dX10_directionOf_41
      · replace h := (if_pos hc3).symm.trans h
        refine q_iconst (v := 2) hx dX10_directionOf_26 (by decide) ?_
        refine q_goto hx 41 dX10_directionOf_27 (by decide) ?_
        subst h
        exact q_iret hx hr dX10_directionOf_41
    · replace h := (if_pos hc2).symm.trans h
      refine q_iconst (v := 1) hx dX10_directionOf_16 (by decide) ?_
      refine q_goto hx 41 dX10_directionOf_17 (by decide) ?_
      subst h
      exact q_iret hx hr dX10_directionOf_41
  · replace h := (if_pos hc1).symm.trans h
    refine q_iconst (v := 0) hx dX10_directionOf_6 (by decide) ?_
    refine q_goto hx 41 dX10_directionOf_7 (by decide) ?_
    subst h
    exact q_iret hx hr dX10_directionOf_41
theorem c_X10_directionOf (l : Launch) (G : q_G) (x : q_A) (σ : q_S) (a0 : Int32)  : q_Met l yX10_directionOf cX10_directionOf 1 (some .int) 1 G [.int a0] σ x (q_Qi G x (f_X10_directionOf a0) σ) := ca_X10_directionOf l G x σ a0 rfl
-- X10_isLength
def f_X10_isLength (a0 : Int32) : Option (Int32) :=
  if ((f_X10_in a0 1 9) = 0 ∨ (f_X10_in a0 1 9) = 1) then some ((f_X10_in a0 1 9)) else none
set_option maxHeartbeats 4000000 in
set_option maxRecDepth 100000 in
theorem c_X10_isLength (l : Launch) (G : q_G) (x : q_A) (σ : q_S) (a0 : Int32)  {res : Int32} (h : f_X10_isLength a0 = some res) : q_Met l yX10_isLength cX10_isLength 1 (some .boolean) 2 G [.int a0] σ x (q_Qi G x res σ) := by
  refine q_of (by decide) (Nat.le_of_ble_eq_true rfl) (fun X hl0 hx hr => ?_)
  subst hl0
  have hx : q_Cx X G RX10 cX10_isLength 1 2 := hx
  unfold f_X10_isLength at h
  show q_Wq X G x 1 (q_MQ X G (q_Qi G x res σ)) 0 0 0 [(0, .int a0)] [] σ
  refine q_iload_n hx dX10_isLength_0 0 rfl ?_
  refine q_iconst (v := 1) hx dX10_isLength_1 (by decide) ?_
  refine q_bipush (v := 9) hx dX10_isLength_2 (by decide) ?_
  refine q_callSi (As := [.int a0, .int 1, .int 9]) (rest := []) hx q_kR0 (c_X10_in (q_Xl X) G x σ a0 1 9) q_ml_X10_115 q_mn_X10_in q_ms_X10_in (by decide) rfl (Nat.le_of_ble_eq_true rfl) dX10_isLength_4 rfl ?_
  by_cases hg1 : ((f_X10_in a0 1 9) = 0 ∨ (f_X10_in a0 1 9) = 1)
  case neg => rw [if_neg hg1] at h; exact nomatch h
  replace h := (if_pos hg1).symm.trans h
  cases h
  exact q_zret hx hr (q_zn hg1) dX10_isLength_7
-- X10_chain
def f_X10_chain (σ : q_S) (a1 : Int32) (a2 : Int32) (a3 : Int32) : Option (Int32 × q_S) :=
  Option.bind (f_X10_begins σ) (fun q1 => Option.bind (f_X10_isSleeper q1 a1) (fun q2 => if q2 = 0 then (some (((f_X10_no q1 1).1, (f_X10_no q1 1).2))) else (if ((f_X10_directionOf a2)) < 0 then (some (((f_X10_no q1 2).1, (f_X10_no q1 2).2))) else (Option.bind (f_X10_isLength a3) (fun q5 => if q5 = 0 then (some (((f_X10_no q1 2).1, (f_X10_no q1 2).2))) else (Option.bind (f_X10_isRefusedChain q1 a1 ((f_X10_directionOf a2)) a3) (fun q7 => if q7.1 = 0 then (Option.bind (f_X10_lays q7.2 a1 ((f_X10_directionOf a2)) a3) (fun q9 => Option.bind (f_X10_keeps q9.2 q9.1) (fun q10 => some ((q10.1, q10.2))))) else (some (((f_X10_refused q7.2 3).1, (f_X10_refused q7.2 3).2))))))))))
set_option maxHeartbeats 4000000 in
set_option maxRecDepth 100000 in
theorem c_X10_chain (l : Launch) (G : q_G) (x : q_A) (σ : q_S) (a1 : Int32) (a2 : Int32) (a3 : Int32)  {res : Int32 × q_S} (h : f_X10_chain σ a1 a2 a3 = some res) : q_Met l yX10_chain cX10_chain 4 (some .int) 6 G [.ref (G.2.1 + 292), .int a1, .int a2, .int a3] σ x (q_Qi G x res.1 res.2) := by
  refine q_of (by decide) (Nat.le_of_ble_eq_true rfl) (fun X hl0 hx hr => ?_)
  subst hl0
  have hx : q_Cx X G RX10 cX10_chain 4 6 := hx
  unfold f_X10_chain at h
  show q_Wq X G x 4 (q_MQ X G (q_Qi G x res.1 res.2)) 0 0 0 [(0, .ref (G.2.1 + 292)), (1, .int a1), (2, .int a2), (3, .int a3)] [] σ
  refine q_aload_n hx dX10_chain_0 0 rfl ?_
  refine q_bindE h (fun q1 hq1 h => ?_)
  refine q_callVv (As := []) (rest := []) hx q_kR0 (c_X10_begins (q_Xl X) G x σ  hq1) q_ml_X10_127 q_mn_X10_begins q_mi_X10_begins q_se_X10_begins (by decide) rfl (Nat.le_of_ble_eq_true rfl) dX10_chain_1 (q_ne kd_292 (by decide)) (q_e10 kd_292) rfl rfl rfl ?_
  refine q_aload_n hx dX10_chain_4 0 rfl ?_
  refine q_iload_n hx dX10_chain_5 1 rfl ?_
  refine q_bindE h (fun q2 hq2 h => ?_)
  refine q_callVi (As := [.int a1]) (rest := []) hx q_kR0 (c_X10_isSleeper (q_Xl X) G x q1 a1 hq2) q_ml_X10_166 q_mn_X10_isSleeper q_mi_X10_isSleeper q_se_X10_isSleeper (by decide) rfl (Nat.le_of_ble_eq_true rfl) dX10_chain_6 (q_ne kd_292 (by decide)) (q_e10 kd_292) rfl rfl rfl ?_
  refine q_if_ne hx 18 dX10_chain_9 (by decide) (fun hc3 => ?_) (fun hc3 => ?_)
  · replace h := (if_neg hc3).symm.trans h
    refine q_iload_n hx dX10_chain_18 2 rfl ?_
    refine q_callSi (As := [.int a2]) (rest := []) hx q_kR0 (c_X10_directionOf (q_Xl X) G x q1 a2) q_ml_X10_204 q_mn_X10_directionOf q_ms_X10_directionOf (by decide) rfl (Nat.le_of_ble_eq_true rfl) dX10_chain_19 rfl ?_
    refine q_if_lt hx 32 dX10_chain_22 (by decide) (fun hc4 => ?_) (fun hc4 => ?_)
    · replace h := (if_pos hc4).symm.trans h
      refine q_aload_n hx dX10_chain_32 0 rfl ?_
      refine q_iconst (v := 2) hx dX10_chain_33 (by decide) ?_
      refine q_callVi (As := [.int 2]) (rest := []) hx q_kR0 (c_X10_no (q_Xl X) G x q1 2) q_ml_X10_103 q_mn_X10_no q_mi_X10_no q_se_X10_no (by decide) rfl (Nat.le_of_ble_eq_true rfl) dX10_chain_34 (q_ne kd_292 (by decide)) (q_e10 kd_292) rfl rfl rfl ?_
      cases h
      exact q_iret hx hr dX10_chain_37
    · replace h := (if_neg hc4).symm.trans h
      refine q_iload_n hx dX10_chain_25 3 rfl ?_
      refine q_bindE h (fun q5 hq5 h => ?_)
      refine q_callSi (As := [.int a3]) (rest := []) hx q_kR0 (c_X10_isLength (q_Xl X) G x q1 a3 hq5) q_ml_X10_207 q_mn_X10_isLength q_ms_X10_isLength (by decide) rfl (Nat.le_of_ble_eq_true rfl) dX10_chain_26 rfl ?_
      refine q_if_ne hx 38 dX10_chain_29 (by decide) (fun hc6 => ?_) (fun hc6 => ?_)
      · replace h := (if_neg hc6).symm.trans h
        refine q_aload_n hx dX10_chain_38 0 rfl ?_
        refine q_iload_n hx dX10_chain_39 1 rfl ?_
        refine q_iload_n hx dX10_chain_40 2 rfl ?_
        refine q_callSi (As := [.int a2]) (rest := [.int a1, .ref (G.2.1 + 292)]) hx q_kR0 (c_X10_directionOf (q_Xl X) G x q1 a2) q_ml_X10_204 q_mn_X10_directionOf q_ms_X10_directionOf (by decide) rfl (Nat.le_of_ble_eq_true rfl) dX10_chain_41 rfl ?_
        refine q_iload_n hx dX10_chain_44 3 rfl ?_
        refine q_bindE h (fun q7 hq7 h => ?_)
        refine q_callVi (As := [.int a1, .int ((f_X10_directionOf a2)), .int a3]) (rest := []) hx q_kR0 (c_X10_isRefusedChain (q_Xl X) G x q1 a1 ((f_X10_directionOf a2)) a3 hq7) q_ml_X10_210 q_mn_X10_isRefusedChain q_mi_X10_isRefusedChain q_se_X10_isRefusedChain (by decide) rfl (Nat.le_of_ble_eq_true rfl) dX10_chain_45 (q_ne kd_292 (by decide)) (q_e10 kd_292) rfl rfl rfl ?_
        refine q_if_eq hx 59 dX10_chain_48 (by decide) (fun hc8 => ?_) (fun hc8 => ?_)
        · replace h := (if_pos hc8).symm.trans h
          refine q_aload_n hx dX10_chain_59 0 rfl ?_
          refine q_aload_n hx dX10_chain_60 0 rfl ?_
          refine q_iload_n hx dX10_chain_61 1 rfl ?_
          refine q_iload_n hx dX10_chain_62 2 rfl ?_
          refine q_callSi (As := [.int a2]) (rest := [.int a1, .ref (G.2.1 + 292), .ref (G.2.1 + 292)]) hx q_kR0 (c_X10_directionOf (q_Xl X) G x q7.2 a2) q_ml_X10_204 q_mn_X10_directionOf q_ms_X10_directionOf (by decide) rfl (Nat.le_of_ble_eq_true rfl) dX10_chain_63 rfl ?_
          refine q_iload_n hx dX10_chain_66 3 rfl ?_
          refine q_bindE h (fun q9 hq9 h => ?_)
          refine q_callVi (As := [.int a1, .int ((f_X10_directionOf a2)), .int a3]) (rest := [.ref (G.2.1 + 292)]) hx q_kR0 (c_X10_lays (q_Xl X) G x q7.2 a1 ((f_X10_directionOf a2)) a3 hq9) q_ml_X10_213 q_mn_X10_lays q_mi_X10_lays q_se_X10_lays (by decide) rfl (Nat.le_of_ble_eq_true rfl) dX10_chain_67 (q_ne kd_292 (by decide)) (q_e10 kd_292) rfl rfl rfl ?_
          refine q_bindE h (fun q10 hq10 h => ?_)
          refine q_callVi (As := [.int q9.1]) (rest := []) hx q_kR0 (c_X10_keeps (q_Xl X) G x q9.2 q9.1 hq10) q_ml_X10_140 q_mn_X10_keeps q_mi_X10_keeps q_se_X10_keeps (by decide) rfl (Nat.le_of_ble_eq_true rfl) dX10_chain_70 (q_ne kd_292 (by decide)) (q_e10 kd_292) rfl rfl rfl ?_
          cases h
          exact q_iret hx hr dX10_chain_73
        · replace h := (if_neg hc8).symm.trans h
          refine q_aload_n hx dX10_chain_51 0 rfl ?_
          refine q_iconst (v := 3) hx dX10_chain_52 (by decide) ?_
          refine q_callVi (As := [.int 3]) (rest := []) hx q_kR0 (c_X10_refused (q_Xl X) G x q7.2 3) q_ml_X10_134 q_mn_X10_refused q_mi_X10_refused q_se_X10_refused (by decide) rfl (Nat.le_of_ble_eq_true rfl) dX10_chain_53 (q_ne kd_292 (by decide)) (q_e10 kd_292) rfl rfl rfl ?_
          refine q_goto hx 73 dX10_chain_56 (by decide) ?_
          cases h
          exact q_iret hx hr dX10_chain_73
      · replace h := (if_pos hc6).symm.trans h
        refine q_aload_n hx dX10_chain_32 0 rfl ?_
        refine q_iconst (v := 2) hx dX10_chain_33 (by decide) ?_
        refine q_callVi (As := [.int 2]) (rest := []) hx q_kR0 (c_X10_no (q_Xl X) G x q1 2) q_ml_X10_103 q_mn_X10_no q_mi_X10_no q_se_X10_no (by decide) rfl (Nat.le_of_ble_eq_true rfl) dX10_chain_34 (q_ne kd_292 (by decide)) (q_e10 kd_292) rfl rfl rfl ?_
        cases h
        exact q_iret hx hr dX10_chain_37
  · replace h := (if_pos hc3).symm.trans h
    refine q_aload_n hx dX10_chain_12 0 rfl ?_
    refine q_iconst (v := 1) hx dX10_chain_13 (by decide) ?_
    refine q_callVi (As := [.int 1]) (rest := []) hx q_kR0 (c_X10_no (q_Xl X) G x q1 1) q_ml_X10_103 q_mn_X10_no q_mi_X10_no q_se_X10_no (by decide) rfl (Nat.le_of_ble_eq_true rfl) dX10_chain_14 (q_ne kd_292 (by decide)) (q_e10 kd_292) rfl rfl rfl ?_
    cases h
    exact q_iret hx hr dX10_chain_17
-- X10_hasChain
def f_X10_hasChain (σ : q_S) (a1 : Int32) (a2 : Int32) : Option (Int32) :=
  Option.bind (f_X10_isSleeper σ a1) (fun q1 => if q1 = 0 then (some 0) else (Option.bind (f_X10_sv σ a1 4) (fun q3 => if ((f_X10_in a2 0 (q3 - 1))) = 0 then (some 0) else (some 1))))
set_option maxHeartbeats 4000000 in
set_option maxRecDepth 100000 in
theorem c_X10_hasChain (l : Launch) (G : q_G) (x : q_A) (σ : q_S) (a1 : Int32) (a2 : Int32)  {res : Int32} (h : f_X10_hasChain σ a1 a2 = some res) : q_Met l yX10_hasChain cX10_hasChain 3 (some .boolean) 3 G [.ref (G.2.1 + 292), .int a1, .int a2] σ x (q_Qi G x res σ) := by
  refine q_of (by decide) (Nat.le_of_ble_eq_true rfl) (fun X hl0 hx hr => ?_)
  subst hl0
  have hx : q_Cx X G RX10 cX10_hasChain 3 3 := hx
  unfold f_X10_hasChain at h
  show q_Wq X G x 3 (q_MQ X G (q_Qi G x res σ)) 0 0 0 [(0, .ref (G.2.1 + 292)), (1, .int a1), (2, .int a2)] [] σ
  refine q_aload_n hx dX10_hasChain_0 0 rfl ?_
  refine q_iload_n hx dX10_hasChain_1 1 rfl ?_
  refine q_bindE h (fun q1 hq1 h => ?_)
  refine q_callVi (As := [.int a1]) (rest := []) hx q_kR0 (c_X10_isSleeper (q_Xl X) G x σ a1 hq1) q_ml_X10_166 q_mn_X10_isSleeper q_mi_X10_isSleeper q_se_X10_isSleeper (by decide) rfl (Nat.le_of_ble_eq_true rfl) dX10_hasChain_2 (q_ne kd_292 (by decide)) (q_e10 kd_292) rfl rfl rfl ?_
  refine q_if_eq hx 28 dX10_hasChain_5 (by decide) (fun hc2 => ?_) (fun hc2 => ?_)
  · replace h := (if_pos hc2).symm.trans h
    refine q_iconst (v := 0) hx dX10_hasChain_28 (by decide) ?_
    cases h
    exact q_zret hx hr rfl dX10_hasChain_29
  · replace h := (if_neg hc2).symm.trans h
    refine q_iload_n hx dX10_hasChain_8 2 rfl ?_
    refine q_iconst (v := 0) hx dX10_hasChain_9 (by decide) ?_
    refine q_aload_n hx dX10_hasChain_10 0 rfl ?_
    refine q_iload_n hx dX10_hasChain_11 1 rfl ?_
    refine q_iconst (v := 4) hx dX10_hasChain_12 (by decide) ?_
    refine q_bindE h (fun q3 hq3 h => ?_)
    refine q_callVi (As := [.int a1, .int 4]) (rest := [.int 0, .int a2]) hx q_kR0 (c_X10_sv (q_Xl X) G x σ a1 4 hq3) q_ml_X10_111 q_mn_X10_sv q_mi_X10_sv q_se_X10_sv (by decide) rfl (Nat.le_of_ble_eq_true rfl) dX10_hasChain_13 (q_ne kd_292 (by decide)) (q_e10 kd_292) rfl rfl rfl ?_
    refine q_iconst (v := 1) hx dX10_hasChain_16 (by decide) ?_
    refine q_isub hx dX10_hasChain_17 ?_
    refine q_callSi (As := [.int a2, .int 0, .int (q3 - 1)]) (rest := []) hx q_kR0 (c_X10_in (q_Xl X) G x σ a2 0 (q3 - 1)) q_ml_X10_115 q_mn_X10_in q_ms_X10_in (by decide) rfl (Nat.le_of_ble_eq_true rfl) dX10_hasChain_18 rfl ?_
    refine q_if_eq hx 28 dX10_hasChain_21 (by decide) (fun hc4 => ?_) (fun hc4 => ?_)
    · replace h := (if_pos hc4).symm.trans h
      refine q_iconst (v := 0) hx dX10_hasChain_28 (by decide) ?_
      cases h
      exact q_zret hx hr rfl dX10_hasChain_29
    · replace h := (if_neg hc4).symm.trans h
      refine q_iconst (v := 1) hx dX10_hasChain_24 (by decide) ?_
      refine q_goto hx 29 dX10_hasChain_25 (by decide) ?_
      cases h
      exact q_zret hx hr rfl dX10_hasChain_29
-- X10_isBend
def f_X10_isBend (a0 : Int32) : Int32 :=
  if ((f_X10_in a0 ((-9)) 9)) = 0 then (0) else (if a0 = 0 then (0) else (1))
set_option maxHeartbeats 4000000 in
set_option maxRecDepth 100000 in
theorem ca_X10_isBend (l : Launch) (G : q_G) (x : q_A) (σ : q_S) (a0 : Int32)  {res : Int32} (h : f_X10_isBend a0 = res) : q_Met l yX10_isBend cX10_isBend 1 (some .boolean) 2 G [.int a0] σ x (q_Qi G x res σ) := by
  refine q_of (by decide) (Nat.le_of_ble_eq_true rfl) (fun X hl0 hx hr => ?_)
  subst hl0
  have hx : q_Cx X G RX10 cX10_isBend 1 2 := hx
  unfold f_X10_isBend at h
  show q_Wq X G x 1 (q_MQ X G (q_Qi G x res σ)) 0 0 0 [(0, .int a0)] [] σ
  refine q_iload_n hx dX10_isBend_0 0 rfl ?_
  refine q_bipush (v := (-9)) hx dX10_isBend_1 (by decide) ?_
  refine q_bipush (v := 9) hx dX10_isBend_3 (by decide) ?_
  refine q_callSi (As := [.int a0, .int ((-9)), .int 9]) (rest := []) hx q_kR0 (c_X10_in (q_Xl X) G x σ a0 ((-9)) 9) q_ml_X10_115 q_mn_X10_in q_ms_X10_in (by decide) rfl (Nat.le_of_ble_eq_true rfl) dX10_isBend_5 rfl ?_
  refine q_if_eq hx 19 dX10_isBend_8 (by decide) (fun hc1 => ?_) (fun hc1 => ?_)
  · replace h := (if_pos hc1).symm.trans h
    refine q_iconst (v := 0) hx dX10_isBend_19 (by decide) ?_
    subst h
    exact q_zret hx hr rfl dX10_isBend_20
  · replace h := (if_neg hc1).symm.trans h
    refine q_iload_n hx dX10_isBend_11 0 rfl ?_
    refine q_if_eq hx 19 dX10_isBend_12 (by decide) (fun hc2 => ?_) (fun hc2 => ?_)
    · replace h := (if_pos hc2).symm.trans h
      refine q_iconst (v := 0) hx dX10_isBend_19 (by decide) ?_
      subst h
      exact q_zret hx hr rfl dX10_isBend_20
    · replace h := (if_neg hc2).symm.trans h
      refine q_iconst (v := 1) hx dX10_isBend_15 (by decide) ?_
      refine q_goto hx 20 dX10_isBend_16 (by decide) ?_
      subst h
      exact q_zret hx hr rfl dX10_isBend_20
theorem c_X10_isBend (l : Launch) (G : q_G) (x : q_A) (σ : q_S) (a0 : Int32)  : q_Met l yX10_isBend cX10_isBend 1 (some .boolean) 2 G [.int a0] σ x (q_Qi G x (f_X10_isBend a0) σ) := ca_X10_isBend l G x σ a0 rfl
-- X10_sideOf
def f_X10_sideOf (a0 : Int32) (a1 : Int32) : Int32 :=
  if a1 ≤ 0 then ((a0 + 1) - (a0 + 1) / 4 * 4) else ((a0 + 3) - (a0 + 3) / 4 * 4)
set_option maxHeartbeats 4000000 in
set_option maxRecDepth 100000 in
theorem ca_X10_sideOf (l : Launch) (G : q_G) (x : q_A) (σ : q_S) (a0 : Int32) (a1 : Int32)  {res : Int32} (h : f_X10_sideOf a0 a1 = res) : q_Met l yX10_sideOf cX10_sideOf 2 (some .int) 1 G [.int a0, .int a1] σ x (q_Qi G x res σ) := by
  refine q_of (by decide) (Nat.le_of_ble_eq_true rfl) (fun X hl0 hx hr => ?_)
  subst hl0
  have hx : q_Cx X G RX10 cX10_sideOf 2 1 := hx
  unfold f_X10_sideOf at h
  show q_Wq X G x 2 (q_MQ X G (q_Qi G x res σ)) 0 0 0 [(0, .int a0), (1, .int a1)] [] σ
  refine q_iload_n hx dX10_sideOf_0 1 rfl ?_
  refine q_if_le hx 12 dX10_sideOf_1 (by decide) (fun hc1 => ?_) (fun hc1 => ?_)
  · replace h := (if_pos hc1).symm.trans h
    refine q_iload_n hx dX10_sideOf_12 0 rfl ?_
    refine q_iconst (v := 1) hx dX10_sideOf_13 (by decide) ?_
    refine q_iadd hx dX10_sideOf_14 ?_
    refine q_iconst (v := 4) hx dX10_sideOf_15 (by decide) ?_
    refine q_irem hx dX10_sideOf_16 (by decide) ?_
    subst h
    exact q_iret hx hr dX10_sideOf_17
  · replace h := (if_neg hc1).symm.trans h
    refine q_iload_n hx dX10_sideOf_4 0 rfl ?_
    refine q_iconst (v := 3) hx dX10_sideOf_5 (by decide) ?_
    refine q_iadd hx dX10_sideOf_6 ?_
    refine q_iconst (v := 4) hx dX10_sideOf_7 (by decide) ?_
    refine q_irem hx dX10_sideOf_8 (by decide) ?_
    refine q_goto hx 17 dX10_sideOf_9 (by decide) ?_
    subst h
    exact q_iret hx hr dX10_sideOf_17
theorem c_X10_sideOf (l : Launch) (G : q_G) (x : q_A) (σ : q_S) (a0 : Int32) (a1 : Int32)  : q_Met l yX10_sideOf cX10_sideOf 2 (some .int) 1 G [.int a0, .int a1] σ x (q_Qi G x (f_X10_sideOf a0 a1) σ) := ca_X10_sideOf l G x σ a0 a1 rfl
-- X10_isRefusedBend
def f_X10_isRefusedBend_155 (k107 : Int32 → Int32 → Int32 → Int32 → Int32 → Int32 → Int32 → Int32 → Int32 → q_S → Option (Int32 × q_S)) (v1 : Int32) (v2 : Int32) (v3 : Int32) (v4 : Int32) (v5 : Int32) (v6 : Int32) (v7 : Int32) (v8 : Int32) (v9 : Int32) (s0 : Int32) (σ : q_S) : Option (Int32 × q_S) :=
  Option.bind (f_X10_isBarred σ (v7 + ((f_X10_stepX s0))) (v8 + ((f_X10_stepY s0))) 0) (fun q13 => if q13.1 = 0 then (k107 v1 v2 v3 v4 v5 v6 (v7 + ((f_X10_stepX s0))) (v8 + ((f_X10_stepY s0))) (v9 + 1) (q_up q13.2 292 17 ((q13.2 292 17) + 1))) else (some ((1, q13.2))))
set_option maxHeartbeats 4000000 in
set_option maxRecDepth 100000 in
theorem s_X10_isRefusedBend_155 {X : q_X} {G : q_G} {x : q_A} (hx : q_Cx X G RX10 cX10_isRefusedBend 11 5) (hr : (q_Xm X).sig.returnType = some .boolean) {res : Int32 × q_S} {k107 : Int32 → Int32 → Int32 → Int32 → Int32 → Int32 → Int32 → Int32 → Int32 → q_S → Option (Int32 × q_S)} (hk107 : ∀ (v1 : Int32) (v2 : Int32) (v3 : Int32) (v4 : Int32) (v5 : Int32) (v6 : Int32) (v7 : Int32) (v8 : Int32) (v9 : Int32) (σ : q_S), k107 v1 v2 v3 v4 v5 v6 v7 v8 v9 σ = some res → q_Wq X G x 11 (q_MQ X G (q_Qi G x res.1 res.2)) 0 0 107 [(0, .ref (G.2.1 + 292)), (1, .int v1), (2, .int v2), (3, .int v3), (4, .int v4), (5, .int v5), (6, .int v6), (7, .int v7), (8, .int v8), (9, .int v9)] [] σ) : ∀ (v1 : Int32) (v2 : Int32) (v3 : Int32) (v4 : Int32) (v5 : Int32) (v6 : Int32) (v7 : Int32) (v8 : Int32) (v9 : Int32) (s0 : Int32) (σ : q_S), f_X10_isRefusedBend_155 k107 v1 v2 v3 v4 v5 v6 v7 v8 v9 s0 σ = some res → q_Wq X G x 11 (q_MQ X G (q_Qi G x res.1 res.2)) 0 0 155 [(0, .ref (G.2.1 + 292)), (1, .int v1), (2, .int v2), (3, .int v3), (4, .int v4), (5, .int v5), (6, .int v6), (7, .int v7), (8, .int v8), (9, .int v9)] [.int s0] σ := by
  intro v1 v2 v3 v4 v5 v6 v7 v8 v9 s0 σ h
  unfold f_X10_isRefusedBend_155 at h
  refine q_istore hx [(10, .int s0), (0, .ref (G.2.1 + 292)), (1, .int v1), (2, .int v2), (3, .int v3), (4, .int v4), (5, .int v5), (6, .int v6), (7, .int v7), (8, .int v8), (9, .int v9)] dX10_isRefusedBend_155 (by decide) rfl ?_
  refine q_iload hx dX10_isRefusedBend_157 8 rfl ?_
  refine q_iload hx dX10_isRefusedBend_159 0 rfl ?_
  refine q_callSi (As := [.int s0]) (rest := [.int v7]) hx q_kR0 (c_X10_stepX (q_Xl X) G x σ s0) q_ml_X10_181 q_mn_X10_stepX q_ms_X10_stepX (by decide) rfl (Nat.le_of_ble_eq_true rfl) dX10_isRefusedBend_161 rfl ?_
  refine q_iadd hx dX10_isRefusedBend_164 ?_
  refine q_istore hx [(7, .int (v7 + ((f_X10_stepX s0)))), (10, .int s0), (0, .ref (G.2.1 + 292)), (1, .int v1), (2, .int v2), (3, .int v3), (4, .int v4), (5, .int v5), (6, .int v6), (8, .int v8), (9, .int v9)] dX10_isRefusedBend_165 (by decide) rfl ?_
  refine q_iload hx dX10_isRefusedBend_167 9 rfl ?_
  refine q_iload hx dX10_isRefusedBend_169 1 rfl ?_
  refine q_callSi (As := [.int s0]) (rest := [.int v8]) hx q_kR0 (c_X10_stepY (q_Xl X) G x σ s0) q_ml_X10_184 q_mn_X10_stepY q_ms_X10_stepY (by decide) rfl (Nat.le_of_ble_eq_true rfl) dX10_isRefusedBend_171 rfl ?_
  refine q_iadd hx dX10_isRefusedBend_174 ?_
  refine q_istore hx [(8, .int (v8 + ((f_X10_stepY s0)))), (7, .int (v7 + ((f_X10_stepX s0)))), (10, .int s0), (0, .ref (G.2.1 + 292)), (1, .int v1), (2, .int v2), (3, .int v3), (4, .int v4), (5, .int v5), (6, .int v6), (9, .int v9)] dX10_isRefusedBend_175 (by decide) rfl ?_
  refine q_aload_n hx dX10_isRefusedBend_177 3 rfl ?_
  refine q_iload hx dX10_isRefusedBend_178 1 rfl ?_
  refine q_iload hx dX10_isRefusedBend_180 0 rfl ?_
  refine q_iconst (v := 0) hx dX10_isRefusedBend_182 (by decide) ?_
  refine q_bindE h (fun q13 hq13 h => ?_)
  refine q_callVi (As := [.int (v7 + ((f_X10_stepX s0))), .int (v8 + ((f_X10_stepY s0))), .int 0]) (rest := []) hx q_kR0 (c_X10_isBarred (q_Xl X) G x σ (v7 + ((f_X10_stepX s0))) (v8 + ((f_X10_stepY s0))) 0 hq13) q_ml_X10_197 q_mn_X10_isBarred q_mi_X10_isBarred q_se_X10_isBarred (by decide) rfl (Nat.le_of_ble_eq_true rfl) dX10_isRefusedBend_183 (q_ne kd_292 (by decide)) (q_e10 kd_292) rfl rfl rfl ?_
  refine q_if_eq hx 191 dX10_isRefusedBend_186 (by decide) (fun hc14 => ?_) (fun hc14 => ?_)
  · replace h := (if_pos hc14).symm.trans h
    refine q_aload_n hx dX10_isRefusedBend_191 3 rfl ?_
    refine q_dup hx dX10_isRefusedBend_192 rfl ?_
    refine q_get (v := .int (q13.2 292 17)) hx q_fl_X10_64 dX10_isRefusedBend_193 (q_ne kd_292 (by decide)) (q_e10 kd_292) rfl ?_
    refine q_iconst (v := 1) hx dX10_isRefusedBend_196 (by decide) ?_
    refine q_iadd hx dX10_isRefusedBend_197 ?_
    refine q_put (v := (q13.2 292 17) + 1) hx q_fl_X10_64 q_fp_10_17 dX10_isRefusedBend_198 (q_ne kd_292 (by decide)) (q_e10 kd_292) (by rw [q_l10]; decide) rfl rfl (by rw [q_e10 kd_292, q_s10_17]) ?_
    refine q_iinc hx [(9, .int (v9 + 1)), (8, .int (v8 + ((f_X10_stepY s0)))), (7, .int (v7 + ((f_X10_stepX s0)))), (10, .int s0), (0, .ref (G.2.1 + 292)), (1, .int v1), (2, .int v2), (3, .int v3), (4, .int v4), (5, .int v5), (6, .int v6)] dX10_isRefusedBend_201 10 rfl rfl (by decide) rfl ?_
    refine q_goto hx 107 dX10_isRefusedBend_204 (by decide) ?_
    refine q_sub [4, 5, 6, 7, 8, 9, 10, 2, 1, 0] rfl ?_
    exact hk107 v1 v2 v3 v4 v5 v6 (v7 + ((f_X10_stepX s0))) (v8 + ((f_X10_stepY s0))) (v9 + 1) (q_up q13.2 292 17 ((q13.2 292 17) + 1)) h
  · replace h := (if_neg hc14).symm.trans h
    refine q_iconst (v := 1) hx dX10_isRefusedBend_189 (by decide) ?_
    cases h
    exact q_zret (v := 1) hx hr rfl dX10_isRefusedBend_190
def f_X10_isRefusedBend_107 : Nat → Int32 → Int32 → Int32 → Int32 → Int32 → Int32 → Int32 → Int32 → Int32 → q_S → Option (Int32 × q_S)
  | 0, _, _, _, _, _, _, _, _, _, _ => none
  | n + 1, v1, v2, v3, v4, v5, v6, v7, v8, v9, σ =>
    if v6 ≤ v9 then (some ((0, σ))) else (if ((f_X10_size v3)) < v9 then (Option.bind (f_X10_length σ v1 v2) (fun q11 => if (((f_X10_size v3)) + q11) < v9 then (f_X10_isRefusedBend_155 (f_X10_isRefusedBend_107 n) v1 v2 v3 v4 v5 v6 v7 v8 v9 ((v5 + 2) - (v5 + 2) / 4 * 4) σ) else (f_X10_isRefusedBend_155 (f_X10_isRefusedBend_107 n) v1 v2 v3 v4 v5 v6 v7 v8 v9 v4 σ))) else (f_X10_isRefusedBend_155 (f_X10_isRefusedBend_107 n) v1 v2 v3 v4 v5 v6 v7 v8 v9 v5 σ))
set_option maxHeartbeats 4000000 in
set_option maxRecDepth 100000 in
theorem s_X10_isRefusedBend_107 {X : q_X} {G : q_G} {x : q_A} (hx : q_Cx X G RX10 cX10_isRefusedBend 11 5) (hr : (q_Xm X).sig.returnType = some .boolean) {res : Int32 × q_S} : ∀ (n : Nat) (v1 : Int32) (v2 : Int32) (v3 : Int32) (v4 : Int32) (v5 : Int32) (v6 : Int32) (v7 : Int32) (v8 : Int32) (v9 : Int32) (σ : q_S), f_X10_isRefusedBend_107 n v1 v2 v3 v4 v5 v6 v7 v8 v9 σ = some res → q_Wq X G x 11 (q_MQ X G (q_Qi G x res.1 res.2)) 0 0 107 [(0, .ref (G.2.1 + 292)), (1, .int v1), (2, .int v2), (3, .int v3), (4, .int v4), (5, .int v5), (6, .int v6), (7, .int v7), (8, .int v8), (9, .int v9)] [] σ := by
  intro n
  induction n with
  | zero => exact fun _ _ _ _ _ _ _ _ _ _ h => nomatch (show (none : Option (Int32 × q_S)) = some res from h)
  | succ n ih =>
    intro v1 v2 v3 v4 v5 v6 v7 v8 v9 σ h
    rw [f_X10_isRefusedBend_107] at h
    refine q_iload hx dX10_isRefusedBend_107 9 rfl ?_
    refine q_iload hx dX10_isRefusedBend_109 6 rfl ?_
    refine q_icmp_ge hx 207 dX10_isRefusedBend_111 (by decide) (fun hc9 => ?_) (fun hc9 => ?_)
    · replace h := (if_pos hc9).symm.trans h
      refine q_iconst (v := 0) hx dX10_isRefusedBend_207 (by decide) ?_
      cases h
      exact q_zret (v := 0) hx hr rfl dX10_isRefusedBend_208
    · replace h := (if_neg hc9).symm.trans h
      refine q_iload hx dX10_isRefusedBend_114 9 rfl ?_
      refine q_iload_n hx dX10_isRefusedBend_116 3 rfl ?_
      refine q_callSi (As := [.int v3]) (rest := [.int v9]) hx q_kR0 (c_X10_size (q_Xl X) G x σ v3) q_ml_X10_201 q_mn_X10_size q_ms_X10_size (by decide) rfl (Nat.le_of_ble_eq_true rfl) dX10_isRefusedBend_117 rfl ?_
      refine q_icmp_gt hx 128 dX10_isRefusedBend_120 (by decide) (fun hc10 => ?_) (fun hc10 => ?_)
      · replace h := (if_pos hc10).symm.trans h
        refine q_iload hx dX10_isRefusedBend_128 9 rfl ?_
        refine q_iload_n hx dX10_isRefusedBend_130 3 rfl ?_
        refine q_callSi (As := [.int v3]) (rest := [.int v9]) hx q_kR0 (c_X10_size (q_Xl X) G x σ v3) q_ml_X10_201 q_mn_X10_size q_ms_X10_size (by decide) rfl (Nat.le_of_ble_eq_true rfl) dX10_isRefusedBend_131 rfl ?_
        refine q_aload_n hx dX10_isRefusedBend_134 0 rfl ?_
        refine q_iload_n hx dX10_isRefusedBend_135 1 rfl ?_
        refine q_iload_n hx dX10_isRefusedBend_136 2 rfl ?_
        refine q_bindE h (fun q11 hq11 h => ?_)
        refine q_callVi (As := [.int v1, .int v2]) (rest := [.int ((f_X10_size v3)), .int v9]) hx q_kR0 (c_X10_length (q_Xl X) G x σ v1 v2 hq11) q_ml_X10_175 q_mn_X10_length q_mi_X10_length q_se_X10_length (by decide) rfl (Nat.le_of_ble_eq_true rfl) dX10_isRefusedBend_137 (q_ne kd_292 (by decide)) (q_e10 kd_292) rfl rfl rfl ?_
        refine q_iadd hx dX10_isRefusedBend_140 ?_
        refine q_icmp_gt hx 149 dX10_isRefusedBend_141 (by decide) (fun hc12 => ?_) (fun hc12 => ?_)
        · replace h := (if_pos hc12).symm.trans h
          refine q_iload hx dX10_isRefusedBend_149 5 rfl ?_
          refine q_iconst (v := 2) hx dX10_isRefusedBend_151 (by decide) ?_
          refine q_iadd hx dX10_isRefusedBend_152 ?_
          refine q_iconst (v := 4) hx dX10_isRefusedBend_153 (by decide) ?_
          refine q_irem hx dX10_isRefusedBend_154 (by decide) ?_
          refine q_sub [0, 1, 2, 3, 4, 5, 6, 7, 8, 9] rfl ?_
          exact s_X10_isRefusedBend_155 hx hr (fun v1 v2 v3 v4 v5 v6 v7 v8 v9 σ h => ih v1 v2 v3 v4 v5 v6 v7 v8 v9 σ h) v1 v2 v3 v4 v5 v6 v7 v8 v9 ((v5 + 2) - (v5 + 2) / 4 * 4) σ h
        · replace h := (if_neg hc12).symm.trans h
          refine q_iload hx dX10_isRefusedBend_144 4 rfl ?_
          refine q_goto hx 155 dX10_isRefusedBend_146 (by decide) ?_
          refine q_sub [0, 1, 2, 3, 4, 5, 6, 7, 8, 9] rfl ?_
          exact s_X10_isRefusedBend_155 hx hr (fun v1 v2 v3 v4 v5 v6 v7 v8 v9 σ h => ih v1 v2 v3 v4 v5 v6 v7 v8 v9 σ h) v1 v2 v3 v4 v5 v6 v7 v8 v9 v4 σ h
      · replace h := (if_neg hc10).symm.trans h
        refine q_iload hx dX10_isRefusedBend_123 5 rfl ?_
        refine q_goto hx 155 dX10_isRefusedBend_125 (by decide) ?_
        refine q_sub [0, 1, 2, 3, 4, 5, 6, 7, 8, 9] rfl ?_
        exact s_X10_isRefusedBend_155 hx hr (fun v1 v2 v3 v4 v5 v6 v7 v8 v9 σ h => ih v1 v2 v3 v4 v5 v6 v7 v8 v9 σ h) v1 v2 v3 v4 v5 v6 v7 v8 v9 v5 σ h
def f_X10_isRefusedBend (σ : q_S) (a1 : Int32) (a2 : Int32) (a3 : Int32) : Option (Int32 × q_S) :=
  Option.bind (f_X10_sv σ a1 1) (fun q1 => if q1 = 2 then (Option.bind (f_X10_sv σ a1 4) (fun q3 => if (q3 + 2) ≤ 16 then (Option.bind (f_X10_marks σ a1 a2) (fun q5 => Option.bind (f_X10_goesTo q5 a1 a2) (fun q6 => Option.bind (f_X10_way (q_up q6 292 17 0) a1 a2) (fun q7 => Option.bind (f_X10_length (q_up q6 292 17 0) a1 a2) (fun q8 => f_X10_isRefusedBend_107 q_fu a1 a2 a3 q7 ((f_X10_sideOf q7 a3)) ((2 * ((f_X10_size a3))) + q8) ((q_up q6 292 17 0) 292 14) ((q_up q6 292 17 0) 292 15) 1 (q_up q6 292 17 0)))))) else (if ((f_X10_isBad σ 1 16).1 = 0 ∨ (f_X10_isBad σ 1 16).1 = 1) then some (((f_X10_isBad σ 1 16).1, (f_X10_isBad σ 1 16).2)) else none))) else (Option.bind (f_X10_sv σ a1 4) (fun q16 => if ((f_X10_isBad σ 6 q16).1 = 0 ∨ (f_X10_isBad σ 6 q16).1 = 1) then some (((f_X10_isBad σ 6 q16).1, (f_X10_isBad σ 6 q16).2)) else none)))
set_option maxHeartbeats 4000000 in
set_option maxRecDepth 100000 in
theorem c_X10_isRefusedBend (l : Launch) (G : q_G) (x : q_A) (σ : q_S) (a1 : Int32) (a2 : Int32) (a3 : Int32)  {res : Int32 × q_S} (h : f_X10_isRefusedBend σ a1 a2 a3 = some res) : q_Met l yX10_isRefusedBend cX10_isRefusedBend 11 (some .boolean) 5 G [.ref (G.2.1 + 292), .int a1, .int a2, .int a3] σ x (q_Qi G x res.1 res.2) := by
  refine q_of (by decide) (Nat.le_of_ble_eq_true rfl) (fun X hl0 hx hr => ?_)
  subst hl0
  have hx : q_Cx X G RX10 cX10_isRefusedBend 11 5 := hx
  unfold f_X10_isRefusedBend at h
  show q_Wq X G x 11 (q_MQ X G (q_Qi G x res.1 res.2)) 0 0 0 [(0, .ref (G.2.1 + 292)), (1, .int a1), (2, .int a2), (3, .int a3)] [] σ
  refine q_aload_n hx dX10_isRefusedBend_0 0 rfl ?_
  refine q_iload_n hx dX10_isRefusedBend_1 1 rfl ?_
  refine q_iconst (v := 1) hx dX10_isRefusedBend_2 (by decide) ?_
  refine q_bindE h (fun q1 hq1 h => ?_)
  refine q_callVi (As := [.int a1, .int 1]) (rest := []) hx q_kR0 (c_X10_sv (q_Xl X) G x σ a1 1 hq1) q_ml_X10_111 q_mn_X10_sv q_mi_X10_sv q_se_X10_sv (by decide) rfl (Nat.le_of_ble_eq_true rfl) dX10_isRefusedBend_3 (q_ne kd_292 (by decide)) (q_e10 kd_292) rfl rfl rfl ?_
  refine q_iconst (v := 2) hx dX10_isRefusedBend_6 (by decide) ?_
  refine q_icmp_eq hx 23 dX10_isRefusedBend_7 (by decide) (fun hc2 => ?_) (fun hc2 => ?_)
  · replace h := (if_pos hc2).symm.trans h
    refine q_aload_n hx dX10_isRefusedBend_23 0 rfl ?_
    refine q_iload_n hx dX10_isRefusedBend_24 1 rfl ?_
    refine q_iconst (v := 4) hx dX10_isRefusedBend_25 (by decide) ?_
    refine q_bindE h (fun q3 hq3 h => ?_)
    refine q_callVi (As := [.int a1, .int 4]) (rest := []) hx q_kR0 (c_X10_sv (q_Xl X) G x σ a1 4 hq3) q_ml_X10_111 q_mn_X10_sv q_mi_X10_sv q_se_X10_sv (by decide) rfl (Nat.le_of_ble_eq_true rfl) dX10_isRefusedBend_26 (q_ne kd_292 (by decide)) (q_e10 kd_292) rfl rfl rfl ?_
    refine q_iconst (v := 2) hx dX10_isRefusedBend_29 (by decide) ?_
    refine q_iadd hx dX10_isRefusedBend_30 ?_
    refine q_bipush (v := 16) hx dX10_isRefusedBend_31 (by decide) ?_
    refine q_icmp_le hx 44 dX10_isRefusedBend_33 (by decide) (fun hc4 => ?_) (fun hc4 => ?_)
    · replace h := (if_pos hc4).symm.trans h
      refine q_aload_n hx dX10_isRefusedBend_44 0 rfl ?_
      refine q_iload_n hx dX10_isRefusedBend_45 1 rfl ?_
      refine q_iload_n hx dX10_isRefusedBend_46 2 rfl ?_
      refine q_bindE h (fun q5 hq5 h => ?_)
      refine q_callVv (As := [.int a1, .int a2]) (rest := []) hx q_kR0 (c_X10_marks (q_Xl X) G x σ a1 a2 hq5) q_ml_X10_194 q_mn_X10_marks q_mi_X10_marks q_se_X10_marks (by decide) rfl (Nat.le_of_ble_eq_true rfl) dX10_isRefusedBend_47 (q_ne kd_292 (by decide)) (q_e10 kd_292) rfl rfl rfl ?_
      refine q_aload_n hx dX10_isRefusedBend_50 0 rfl ?_
      refine q_iload_n hx dX10_isRefusedBend_51 1 rfl ?_
      refine q_iload_n hx dX10_isRefusedBend_52 2 rfl ?_
      refine q_bindE h (fun q6 hq6 h => ?_)
      refine q_callVv (As := [.int a1, .int a2]) (rest := []) hx q_kR0 (c_X10_goesTo (q_Xl X) G x q5 a1 a2 hq6) q_ml_X10_187 q_mn_X10_goesTo q_mi_X10_goesTo q_se_X10_goesTo (by decide) rfl (Nat.le_of_ble_eq_true rfl) dX10_isRefusedBend_53 (q_ne kd_292 (by decide)) (q_e10 kd_292) rfl rfl rfl ?_
      refine q_aload_n hx dX10_isRefusedBend_56 0 rfl ?_
      refine q_iconst (v := 0) hx dX10_isRefusedBend_57 (by decide) ?_
      refine q_put (v := 0) hx q_fl_X10_64 q_fp_10_17 dX10_isRefusedBend_58 (q_ne kd_292 (by decide)) (q_e10 kd_292) (by rw [q_l10]; decide) rfl rfl (by rw [q_e10 kd_292, q_s10_17]) ?_
      refine q_aload_n hx dX10_isRefusedBend_61 0 rfl ?_
      refine q_iload_n hx dX10_isRefusedBend_62 1 rfl ?_
      refine q_iload_n hx dX10_isRefusedBend_63 2 rfl ?_
      refine q_bindE h (fun q7 hq7 h => ?_)
      refine q_callVi (As := [.int a1, .int a2]) (rest := []) hx q_kR0 (c_X10_way (q_Xl X) G x (q_up q6 292 17 0) a1 a2 hq7) q_ml_X10_178 q_mn_X10_way q_mi_X10_way q_se_X10_way (by decide) rfl (Nat.le_of_ble_eq_true rfl) dX10_isRefusedBend_64 (q_ne kd_292 (by decide)) (q_e10 kd_292) rfl rfl rfl ?_
      refine q_istore hx [(4, .int q7), (0, .ref (G.2.1 + 292)), (1, .int a1), (2, .int a2), (3, .int a3)] dX10_isRefusedBend_67 (by decide) rfl ?_
      refine q_iload hx dX10_isRefusedBend_69 0 rfl ?_
      refine q_iload_n hx dX10_isRefusedBend_71 4 rfl ?_
      refine q_callSi (As := [.int q7, .int a3]) (rest := []) hx q_kR0 (c_X10_sideOf (q_Xl X) G x (q_up q6 292 17 0) q7 a3) q_ml_X10_216 q_mn_X10_sideOf q_ms_X10_sideOf (by decide) rfl (Nat.le_of_ble_eq_true rfl) dX10_isRefusedBend_72 rfl ?_
      refine q_istore hx [(5, .int ((f_X10_sideOf q7 a3))), (4, .int q7), (0, .ref (G.2.1 + 292)), (1, .int a1), (2, .int a2), (3, .int a3)] dX10_isRefusedBend_75 (by decide) rfl ?_
      refine q_iconst (v := 2) hx dX10_isRefusedBend_77 (by decide) ?_
      refine q_iload_n hx dX10_isRefusedBend_78 5 rfl ?_
      refine q_callSi (As := [.int a3]) (rest := [.int 2]) hx q_kR0 (c_X10_size (q_Xl X) G x (q_up q6 292 17 0) a3) q_ml_X10_201 q_mn_X10_size q_ms_X10_size (by decide) rfl (Nat.le_of_ble_eq_true rfl) dX10_isRefusedBend_79 rfl ?_
      refine q_imul hx dX10_isRefusedBend_82 ?_
      refine q_aload_n hx dX10_isRefusedBend_83 2 rfl ?_
      refine q_iload_n hx dX10_isRefusedBend_84 3 rfl ?_
      refine q_iload_n hx dX10_isRefusedBend_85 4 rfl ?_
      refine q_bindE h (fun q8 hq8 h => ?_)
      refine q_callVi (As := [.int a1, .int a2]) (rest := [.int (2 * ((f_X10_size a3)))]) hx q_kR0 (c_X10_length (q_Xl X) G x (q_up q6 292 17 0) a1 a2 hq8) q_ml_X10_175 q_mn_X10_length q_mi_X10_length q_se_X10_length (by decide) rfl (Nat.le_of_ble_eq_true rfl) dX10_isRefusedBend_86 (q_ne kd_292 (by decide)) (q_e10 kd_292) rfl rfl rfl ?_
      refine q_iadd hx dX10_isRefusedBend_89 ?_
      refine q_istore hx [(6, .int ((2 * ((f_X10_size a3))) + q8)), (5, .int ((f_X10_sideOf q7 a3))), (4, .int q7), (0, .ref (G.2.1 + 292)), (1, .int a1), (2, .int a2), (3, .int a3)] dX10_isRefusedBend_90 (by decide) rfl ?_
      refine q_aload_n hx dX10_isRefusedBend_92 3 rfl ?_
      refine q_get (v := .int ((q_up q6 292 17 0) 292 14)) hx q_fl_X10_54 dX10_isRefusedBend_93 (q_ne kd_292 (by decide)) (q_e10 kd_292) rfl ?_
      refine q_istore hx [(7, .int ((q_up q6 292 17 0) 292 14)), (6, .int ((2 * ((f_X10_size a3))) + q8)), (5, .int ((f_X10_sideOf q7 a3))), (4, .int q7), (0, .ref (G.2.1 + 292)), (1, .int a1), (2, .int a2), (3, .int a3)] dX10_isRefusedBend_96 (by decide) rfl ?_
      refine q_aload_n hx dX10_isRefusedBend_98 4 rfl ?_
      refine q_get (v := .int ((q_up q6 292 17 0) 292 15)) hx q_fl_X10_57 dX10_isRefusedBend_99 (q_ne kd_292 (by decide)) (q_e10 kd_292) rfl ?_
      refine q_istore hx [(8, .int ((q_up q6 292 17 0) 292 15)), (7, .int ((q_up q6 292 17 0) 292 14)), (6, .int ((2 * ((f_X10_size a3))) + q8)), (5, .int ((f_X10_sideOf q7 a3))), (4, .int q7), (0, .ref (G.2.1 + 292)), (1, .int a1), (2, .int a2), (3, .int a3)] dX10_isRefusedBend_102 (by decide) rfl ?_
      refine q_iconst (v := 1) hx dX10_isRefusedBend_104 (by decide) ?_
      refine q_istore hx [(9, .int 1), (8, .int ((q_up q6 292 17 0) 292 15)), (7, .int ((q_up q6 292 17 0) 292 14)), (6, .int ((2 * ((f_X10_size a3))) + q8)), (5, .int ((f_X10_sideOf q7 a3))), (4, .int q7), (0, .ref (G.2.1 + 292)), (1, .int a1), (2, .int a2), (3, .int a3)] dX10_isRefusedBend_105 (by decide) rfl ?_
      refine q_sub [6, 7, 8, 9, 5, 4, 3, 2, 1, 0] rfl ?_
      exact s_X10_isRefusedBend_107 hx hr q_fu a1 a2 a3 q7 ((f_X10_sideOf q7 a3)) ((2 * ((f_X10_size a3))) + q8) ((q_up q6 292 17 0) 292 14) ((q_up q6 292 17 0) 292 15) 1 (q_up q6 292 17 0) h
    · replace h := (if_neg hc4).symm.trans h
      refine q_aload_n hx dX10_isRefusedBend_36 0 rfl ?_
      refine q_iconst (v := 1) hx dX10_isRefusedBend_37 (by decide) ?_
      refine q_bipush (v := 16) hx dX10_isRefusedBend_38 (by decide) ?_
      refine q_callVi (As := [.int 1, .int 16]) (rest := []) hx q_kR0 (c_X10_isBad (q_Xl X) G x σ 1 16) q_ml_X10_119 q_mn_X10_isBad q_mi_X10_isBad q_se_X10_isBad (by decide) rfl (Nat.le_of_ble_eq_true rfl) dX10_isRefusedBend_40 (q_ne kd_292 (by decide)) (q_e10 kd_292) rfl rfl rfl ?_
      by_cases hg15 : ((f_X10_isBad σ 1 16).1 = 0 ∨ (f_X10_isBad σ 1 16).1 = 1)
      case neg => rw [if_neg hg15] at h; exact nomatch h
      replace h := (if_pos hg15).symm.trans h
      cases h
      exact q_zret (v := (f_X10_isBad σ 1 16).1) hx hr (q_zn hg15) dX10_isRefusedBend_43
  · replace h := (if_neg hc2).symm.trans h
    refine q_aload_n hx dX10_isRefusedBend_10 0 rfl ?_
    refine q_bipush (v := 6) hx dX10_isRefusedBend_11 (by decide) ?_
    refine q_aload_n hx dX10_isRefusedBend_13 0 rfl ?_
    refine q_iload_n hx dX10_isRefusedBend_14 1 rfl ?_
    refine q_iconst (v := 4) hx dX10_isRefusedBend_15 (by decide) ?_
    refine q_bindE h (fun q16 hq16 h => ?_)
    refine q_callVi (As := [.int a1, .int 4]) (rest := [.int 6, .ref (G.2.1 + 292)]) hx q_kR0 (c_X10_sv (q_Xl X) G x σ a1 4 hq16) q_ml_X10_111 q_mn_X10_sv q_mi_X10_sv q_se_X10_sv (by decide) rfl (Nat.le_of_ble_eq_true rfl) dX10_isRefusedBend_16 (q_ne kd_292 (by decide)) (q_e10 kd_292) rfl rfl rfl ?_
    refine q_callVi (As := [.int 6, .int q16]) (rest := []) hx q_kR0 (c_X10_isBad (q_Xl X) G x σ 6 q16) q_ml_X10_119 q_mn_X10_isBad q_mi_X10_isBad q_se_X10_isBad (by decide) rfl (Nat.le_of_ble_eq_true rfl) dX10_isRefusedBend_19 (q_ne kd_292 (by decide)) (q_e10 kd_292) rfl rfl rfl ?_
    by_cases hg17 : ((f_X10_isBad σ 6 q16).1 = 0 ∨ (f_X10_isBad σ 6 q16).1 = 1)
    case neg => rw [if_neg hg17] at h; exact nomatch h
    replace h := (if_pos hg17).symm.trans h
    cases h
    exact q_zret (v := (f_X10_isBad σ 6 q16).1) hx hr (q_zn hg17) dX10_isRefusedBend_22
