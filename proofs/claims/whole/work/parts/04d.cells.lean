-- X0_countOf
def f_X0_countOf (σ : q_S) (a1 : Int32) : Int32 :=
  (f_X9_numberAt σ 282 5 a1)
set_option maxHeartbeats 4000000 in
set_option maxRecDepth 100000 in
theorem ca_X0_countOf (l : Launch) (G : q_G) (x : q_A) (σ : q_S) (a1 : Int32)  {res : Int32} (h : f_X0_countOf σ a1 = res) : q_Met l yX0_countOf cX0_countOf 2 (some .int) 2 G [.ref (G.2.1 + 280), .int a1] σ x (q_Qi G x res σ) := by
  refine q_of (by decide) (Nat.le_of_ble_eq_true rfl) (fun X hl0 hx hr => ?_)
  subst hl0
  have hx : q_Cx X G RX0 cX0_countOf 2 2 := hx
  unfold f_X0_countOf at h
  show q_Wq X G x 2 (q_MQ X G (q_Qi G x res σ)) 0 0 0 [(0, .ref (G.2.1 + 280)), (1, .int a1)] [] σ
  refine q_aload_n hx dX0_countOf_0 0 rfl ?_
  refine q_get (v := .ref (G.2.1 + 282)) hx q_fl_X0_15 dX0_countOf_1 (q_ne kd_280 (by decide)) (q_e0 kd_280) rfl ?_
  refine q_iload_n hx dX0_countOf_4 1 rfl ?_
  refine q_callSi (As := [.ref (G.2.1 + 282), .int a1]) (rest := []) hx q_kR0 (c_X9_numberAt (q_Xl X) G x σ 282 5 a1 kd_282) q_ml_X0_36 q_mn_X9_numberAt q_ms_X9_numberAt (by decide) rfl (Nat.le_of_ble_eq_true rfl) dX0_countOf_5 rfl ?_
  subst h
  exact q_iret hx hr dX0_countOf_8
theorem c_X0_countOf (l : Launch) (G : q_G) (x : q_A) (σ : q_S) (a1 : Int32)  : q_Met l yX0_countOf cX0_countOf 2 (some .int) 2 G [.ref (G.2.1 + 280), .int a1] σ x (q_Qi G x (f_X0_countOf σ a1) σ) := ca_X0_countOf l G x σ a1 rfl
-- X0_survey
def f_X0_survey_35 (z1 : Nat) (k26 : Int32 → Int32 → q_S → Option (q_S)) : Nat → Int32 → Int32 → Int32 → q_S → Option (q_S)
  | 0, _, _, _, _ => none
  | n + 1, v2, v3, v4, σ =>
    if 12 ≤ v4 then (k26 v2 (v3 + 1) σ) else (Option.bind (f_X2_deepestAt σ z1 v4 v3 v2) (fun q4 => if q4 = ((-1)) then (f_X0_survey_35 z1 k26 n v2 v3 (v4 + 1) ((f_X9_setNumberAt σ 281 96 ((v3 * 12) + v4) q4))) else (f_X0_survey_35 z1 k26 n v2 v3 (v4 + 1) ((f_X9_setNumberAt ((f_X9_setNumberAt σ 281 96 ((v3 * 12) + v4) q4)) 282 5 q4 (((f_X0_countOf ((f_X9_setNumberAt σ 281 96 ((v3 * 12) + v4) q4)) q4)) + 1))))))
set_option maxHeartbeats 4000000 in
set_option maxRecDepth 100000 in
theorem s_X0_survey_35 {X : q_X} {G : q_G} {x : q_A} (z1 : Nat) (hx : q_Cx X G RX0 cX0_survey 6 5) (hr : (q_Xm X).sig.returnType = none) (hz1 : q_isDream z1) {res : q_S} {k26 : Int32 → Int32 → q_S → Option (q_S)} (hk26 : ∀ (v2 : Int32) (v3 : Int32) (σ : q_S), k26 v2 v3 σ = some res → q_Wq X G x 6 (q_MQ X G (q_Qv G x res)) 0 0 26 [(0, .ref (G.2.1 + 280)), (1, .ref (G.2.1 + z1)), (2, .int v2), (3, .int v3)] [] σ) : ∀ (n : Nat) (v2 : Int32) (v3 : Int32) (v4 : Int32) (σ : q_S), f_X0_survey_35 z1 k26 n v2 v3 v4 σ = some res → q_Wq X G x 6 (q_MQ X G (q_Qv G x res)) 0 0 35 [(0, .ref (G.2.1 + 280)), (1, .ref (G.2.1 + z1)), (2, .int v2), (3, .int v3), (4, .int v4)] [] σ := by
  intro n
  induction n with
  | zero => exact fun _ _ _ _ h => nomatch (show (none : Option (q_S)) = some res from h)
  | succ n ih =>
    intro v2 v3 v4 σ h
    rw [f_X0_survey_35] at h
    refine q_iload hx dX0_survey_35 4 rfl ?_
    refine q_bipush (v := 12) hx dX0_survey_37 (by decide) ?_
    refine q_icmp_ge hx 97 dX0_survey_39 (by decide) (fun hc3 => ?_) (fun hc3 => ?_)
    · replace h := (if_pos hc3).symm.trans h
      refine q_iinc hx [(3, .int (v3 + 1)), (0, .ref (G.2.1 + 280)), (1, .ref (G.2.1 + z1)), (2, .int v2), (4, .int v4)] dX0_survey_97 3 rfl rfl (by decide) rfl ?_
      refine q_goto hx 26 dX0_survey_100 (by decide) ?_
      refine q_sub [1, 2, 3, 0] rfl ?_
      exact hk26 v2 (v3 + 1) σ h
    · replace h := (if_neg hc3).symm.trans h
      refine q_aload_n hx dX0_survey_42 1 rfl ?_
      refine q_iload hx dX0_survey_43 4 rfl ?_
      refine q_iload_n hx dX0_survey_45 3 rfl ?_
      refine q_iload_n hx dX0_survey_46 2 rfl ?_
      refine q_bindE h (fun q4 hq4 h => ?_)
      refine q_callVi (As := [.int v4, .int v3, .int v2]) (rest := []) hx q_kR0 (c_X2_deepestAt (q_Xl X) G x σ z1 v4 v3 v2 hz1 hq4) q_ml_X0_18 q_mn_X2_deepestAt q_mi_X2_deepestAt q_se_X2_deepestAt (by decide) rfl (Nat.le_of_ble_eq_true rfl) dX0_survey_47 (q_ne hz1.1 (by decide)) (q_e2 hz1.1) rfl rfl rfl ?_
      refine q_istore hx [(5, .int q4), (0, .ref (G.2.1 + 280)), (1, .ref (G.2.1 + z1)), (2, .int v2), (3, .int v3), (4, .int v4)] dX0_survey_50 (by decide) rfl ?_
      refine q_aload_n hx dX0_survey_52 1 rfl ?_
      refine q_get (v := .ref (G.2.1 + 281)) hx q_fl_X0_9 dX0_survey_53 (q_ne kd_280 (by decide)) (q_e0 kd_280) rfl ?_
      refine q_iload_n hx dX0_survey_56 4 rfl ?_
      refine q_bipush (v := 12) hx dX0_survey_57 (by decide) ?_
      refine q_imul hx dX0_survey_59 ?_
      refine q_iload hx dX0_survey_60 5 rfl ?_
      refine q_iadd hx dX0_survey_62 ?_
      refine q_iload hx dX0_survey_63 0 rfl ?_
      refine q_callSv (As := [.ref (G.2.1 + 281), .int ((v3 * 12) + v4), .int q4]) (rest := []) hx q_kR0 (c_X9_setNumberAt (q_Xl X) G x σ 281 96 ((v3 * 12) + v4) q4 kd_281) q_ml_X0_24 q_mn_X9_setNumberAt q_ms_X9_setNumberAt (by decide) rfl (Nat.le_of_ble_eq_true rfl) dX0_survey_65 rfl ?_
      refine q_iload hx dX0_survey_68 0 rfl ?_
      refine q_iconst (v := (-1)) hx dX0_survey_70 (by decide) ?_
      refine q_icmp_eq hx 91 dX0_survey_71 (by decide) (fun hc5 => ?_) (fun hc5 => ?_)
      · replace h := (if_pos hc5).symm.trans h
        refine q_iinc hx [(4, .int (v4 + 1)), (5, .int q4), (0, .ref (G.2.1 + 280)), (1, .ref (G.2.1 + z1)), (2, .int v2), (3, .int v3)] dX0_survey_91 5 rfl rfl (by decide) rfl ?_
        refine q_goto hx 35 dX0_survey_94 (by decide) ?_
        refine q_sub [2, 3, 4, 5, 0] rfl ?_
        exact ih v2 v3 (v4 + 1) ((f_X9_setNumberAt σ 281 96 ((v3 * 12) + v4) q4)) h
      · replace h := (if_neg hc5).symm.trans h
        refine q_aload_n hx dX0_survey_74 1 rfl ?_
        refine q_get (v := .ref (G.2.1 + 282)) hx q_fl_X0_15 dX0_survey_75 (q_ne kd_280 (by decide)) (q_e0 kd_280) rfl ?_
        refine q_iload hx dX0_survey_78 0 rfl ?_
        refine q_aload_n hx dX0_survey_80 1 rfl ?_
        refine q_iload hx dX0_survey_81 0 rfl ?_
        refine q_callVi (As := [.int q4]) (rest := [.int q4, .ref (G.2.1 + 282)]) hx q_kR0 (c_X0_countOf (q_Xl X) G x ((f_X9_setNumberAt σ 281 96 ((v3 * 12) + v4) q4)) q4) q_ml_X0_28 q_mn_X0_countOf q_mi_X0_countOf q_se_X0_countOf (by decide) rfl (Nat.le_of_ble_eq_true rfl) dX0_survey_83 (q_ne kd_280 (by decide)) (q_e0 kd_280) rfl rfl rfl ?_
        refine q_iconst (v := 1) hx dX0_survey_86 (by decide) ?_
        refine q_iadd hx dX0_survey_87 ?_
        refine q_callSv (As := [.ref (G.2.1 + 282), .int q4, .int (((f_X0_countOf ((f_X9_setNumberAt σ 281 96 ((v3 * 12) + v4) q4)) q4)) + 1)]) (rest := []) hx q_kR0 (c_X9_setNumberAt (q_Xl X) G x ((f_X9_setNumberAt σ 281 96 ((v3 * 12) + v4) q4)) 282 5 q4 (((f_X0_countOf ((f_X9_setNumberAt σ 281 96 ((v3 * 12) + v4) q4)) q4)) + 1) kd_282) q_ml_X0_24 q_mn_X9_setNumberAt q_ms_X9_setNumberAt (by decide) rfl (Nat.le_of_ble_eq_true rfl) dX0_survey_88 rfl ?_
        refine q_iinc hx [(4, .int (v4 + 1)), (5, .int q4), (0, .ref (G.2.1 + 280)), (1, .ref (G.2.1 + z1)), (2, .int v2), (3, .int v3)] dX0_survey_91 5 rfl rfl (by decide) rfl ?_
        refine q_goto hx 35 dX0_survey_94 (by decide) ?_
        refine q_sub [2, 3, 4, 5, 0] rfl ?_
        exact ih v2 v3 (v4 + 1) ((f_X9_setNumberAt ((f_X9_setNumberAt σ 281 96 ((v3 * 12) + v4) q4)) 282 5 q4 (((f_X0_countOf ((f_X9_setNumberAt σ 281 96 ((v3 * 12) + v4) q4)) q4)) + 1))) h
def f_X0_survey_26 (z1 : Nat) : Nat → Int32 → Int32 → q_S → Option (q_S)
  | 0, _, _, _ => none
  | n + 1, v2, v3, σ =>
    if 8 ≤ v3 then (some σ) else (f_X0_survey_35 z1 (f_X0_survey_26 z1 n) q_fu v2 v3 0 σ)
set_option maxHeartbeats 4000000 in
set_option maxRecDepth 100000 in
theorem s_X0_survey_26 {X : q_X} {G : q_G} {x : q_A} (z1 : Nat) (hx : q_Cx X G RX0 cX0_survey 6 5) (hr : (q_Xm X).sig.returnType = none) (hz1 : q_isDream z1) {res : q_S} : ∀ (n : Nat) (v2 : Int32) (v3 : Int32) (σ : q_S), f_X0_survey_26 z1 n v2 v3 σ = some res → q_Wq X G x 6 (q_MQ X G (q_Qv G x res)) 0 0 26 [(0, .ref (G.2.1 + 280)), (1, .ref (G.2.1 + z1)), (2, .int v2), (3, .int v3)] [] σ := by
  intro n
  induction n with
  | zero => exact fun _ _ _ h => nomatch (show (none : Option (q_S)) = some res from h)
  | succ n ih =>
    intro v2 v3 σ h
    rw [f_X0_survey_26] at h
    refine q_iload_n hx dX0_survey_26 3 rfl ?_
    refine q_bipush (v := 8) hx dX0_survey_27 (by decide) ?_
    refine q_icmp_ge hx 103 dX0_survey_29 (by decide) (fun hc2 => ?_) (fun hc2 => ?_)
    · replace h := (if_pos hc2).symm.trans h
      cases h
      exact q_vret hx hr dX0_survey_103
    · replace h := (if_neg hc2).symm.trans h
      refine q_iconst (v := 0) hx dX0_survey_32 (by decide) ?_
      refine q_istore hx [(4, .int 0), (0, .ref (G.2.1 + 280)), (1, .ref (G.2.1 + z1)), (2, .int v2), (3, .int v3)] dX0_survey_33 (by decide) rfl ?_
      refine q_sub [1, 2, 3, 4, 0] rfl ?_
      exact s_X0_survey_35 z1 hx hr hz1 (fun v2 v3 σ h => ih v2 v3 σ h) q_fu v2 v3 0 σ h
def f_X0_survey_2 (z1 : Nat) : Nat → Int32 → Int32 → q_S → Option (q_S)
  | 0, _, _, _ => none
  | n + 1, v2, v3, σ =>
    if 5 ≤ v3 then (f_X0_survey_26 z1 q_fu v2 0 σ) else (if (v3 < 0 ∨ 5 ≤ v3.toNatClampNeg) then none else f_X0_survey_2 z1 n v2 (v3 + 1) (q_up σ 282 v3.toNatClampNeg 0))
set_option maxHeartbeats 4000000 in
set_option maxRecDepth 100000 in
theorem s_X0_survey_2 {X : q_X} {G : q_G} {x : q_A} (z1 : Nat) (hx : q_Cx X G RX0 cX0_survey 6 5) (hr : (q_Xm X).sig.returnType = none) (hz1 : q_isDream z1) {res : q_S} : ∀ (n : Nat) (v2 : Int32) (v3 : Int32) (σ : q_S), f_X0_survey_2 z1 n v2 v3 σ = some res → q_Wq X G x 6 (q_MQ X G (q_Qv G x res)) 0 0 2 [(0, .ref (G.2.1 + 280)), (1, .ref (G.2.1 + z1)), (2, .int v2), (3, .int v3)] [] σ := by
  intro n
  induction n with
  | zero => exact fun _ _ _ h => nomatch (show (none : Option (q_S)) = some res from h)
  | succ n ih =>
    intro v2 v3 σ h
    rw [f_X0_survey_2] at h
    refine q_iload_n hx dX0_survey_2 3 rfl ?_
    refine q_aload_n hx dX0_survey_3 0 rfl ?_
    refine q_get (v := .ref (G.2.1 + 282)) hx q_fl_X0_15 dX0_survey_4 (q_ne kd_280 (by decide)) (q_e0 kd_280) rfl ?_
    refine q_alen0 (N := 5) (v := 5) hx dX0_survey_7 kd_282 (by decide) (by decide) ?_
    refine q_icmp_ge hx 24 dX0_survey_8 (by decide) (fun hc1 => ?_) (fun hc1 => ?_)
    · replace h := (if_pos hc1).symm.trans h
      refine q_iconst (v := 0) hx dX0_survey_24 (by decide) ?_
      refine q_istore_n hx [(3, .int 0), (0, .ref (G.2.1 + 280)), (1, .ref (G.2.1 + z1)), (2, .int v2)] dX0_survey_25 (by decide) rfl ?_
      refine q_sub [1, 2, 3, 0] rfl ?_
      exact s_X0_survey_26 z1 hx hr hz1 q_fu v2 0 σ h
    · replace h := (if_neg hc1).symm.trans h
      refine q_aload_n hx dX0_survey_11 0 rfl ?_
      refine q_get (v := .ref (G.2.1 + 282)) hx q_fl_X0_15 dX0_survey_12 (q_ne kd_280 (by decide)) (q_e0 kd_280) rfl ?_
      refine q_iload_n hx dX0_survey_15 3 rfl ?_
      refine q_iconst (v := 0) hx dX0_survey_16 (by decide) ?_
      by_cases hg6 : (v3 < 0 ∨ 5 ≤ v3.toNatClampNeg)
      · rw [if_pos hg6] at h; exact nomatch h
      replace h := (if_neg hg6).symm.trans h
      refine q_iast (N := 5) hx dX0_survey_17 kd_282 (by first | decide | assumption) hg6 ?_
      refine q_iinc hx [(3, .int (v3 + 1)), (0, .ref (G.2.1 + 280)), (1, .ref (G.2.1 + z1)), (2, .int v2)] dX0_survey_18 3 rfl rfl (by decide) rfl ?_
      refine q_goto hx 2 dX0_survey_21 (by decide) ?_
      refine q_sub [1, 2, 3, 0] rfl ?_
      exact ih v2 (v3 + 1) (q_up σ 282 v3.toNatClampNeg 0) h
def f_X0_survey (σ : q_S) (z1 : Nat) (a2 : Int32) : Option (q_S) :=
  f_X0_survey_2 z1 q_fu a2 0 σ
set_option maxHeartbeats 4000000 in
set_option maxRecDepth 100000 in
theorem c_X0_survey (l : Launch) (G : q_G) (x : q_A) (σ : q_S) (z1 : Nat) (a2 : Int32) (hz1 : q_isDream z1) {res : q_S} (h : f_X0_survey σ z1 a2 = some res) : q_Met l yX0_survey cX0_survey 6 (none) 5 G [.ref (G.2.1 + 280), .ref (G.2.1 + z1), .int a2] σ x (q_Qv G x res) := by
  refine q_of (by decide) (Nat.le_of_ble_eq_true rfl) (fun X hl0 hx hr => ?_)
  subst hl0
  have hx : q_Cx X G RX0 cX0_survey 6 5 := hx
  unfold f_X0_survey at h
  show q_Wq X G x 6 (q_MQ X G (q_Qv G x res)) 0 0 0 [(0, .ref (G.2.1 + 280)), (1, .ref (G.2.1 + z1)), (2, .int a2)] [] σ
  refine q_iconst (v := 0) hx dX0_survey_0 (by decide) ?_
  refine q_istore_n hx [(3, .int 0), (0, .ref (G.2.1 + 280)), (1, .ref (G.2.1 + z1)), (2, .int a2)] dX0_survey_1 (by decide) rfl ?_
  refine q_sub [1, 2, 3, 0] rfl ?_
  exact s_X0_survey_2 z1 hx hr hz1 q_fu a2 0 σ h
-- X0_ownerAt
def f_X0_ownerAt (σ : q_S) (a1 : Int32) (a2 : Int32) : Int32 :=
  if ((f_X9_isCell a1 a2)) = 0 then ((-1)) else ((f_X9_numberAt σ 281 96 ((a2 * 12) + a1)))
set_option maxHeartbeats 4000000 in
set_option maxRecDepth 100000 in
theorem ca_X0_ownerAt (l : Launch) (G : q_G) (x : q_A) (σ : q_S) (a1 : Int32) (a2 : Int32)  {res : Int32} (h : f_X0_ownerAt σ a1 a2 = res) : q_Met l yX0_ownerAt cX0_ownerAt 3 (some .int) 3 G [.ref (G.2.1 + 280), .int a1, .int a2] σ x (q_Qi G x res σ) := by
  refine q_of (by decide) (Nat.le_of_ble_eq_true rfl) (fun X hl0 hx hr => ?_)
  subst hl0
  have hx : q_Cx X G RX0 cX0_ownerAt 3 3 := hx
  unfold f_X0_ownerAt at h
  show q_Wq X G x 3 (q_MQ X G (q_Qi G x res σ)) 0 0 0 [(0, .ref (G.2.1 + 280)), (1, .int a1), (2, .int a2)] [] σ
  refine q_iload_n hx dX0_ownerAt_0 1 rfl ?_
  refine q_iload_n hx dX0_ownerAt_1 2 rfl ?_
  refine q_callSi (As := [.int a1, .int a2]) (rest := []) hx q_kR0 (c_X9_isCell (q_Xl X) G x σ a1 a2) q_ml_X0_32 q_mn_X9_isCell q_ms_X9_isCell (by decide) rfl (Nat.le_of_ble_eq_true rfl) dX0_ownerAt_2 rfl ?_
  refine q_if_eq hx 24 dX0_ownerAt_5 (by decide) (fun hc1 => ?_) (fun hc1 => ?_)
  · replace h := (if_pos hc1).symm.trans h
    refine q_iconst (v := (-1)) hx dX0_ownerAt_24 (by decide) ?_
    subst h
    exact q_iret hx hr dX0_ownerAt_25
  · replace h := (if_neg hc1).symm.trans h
    refine q_aload_n hx dX0_ownerAt_8 0 rfl ?_
    refine q_get (v := .ref (G.2.1 + 281)) hx q_fl_X0_9 dX0_ownerAt_9 (q_ne kd_280 (by decide)) (q_e0 kd_280) rfl ?_
    refine q_iload_n hx dX0_ownerAt_12 2 rfl ?_
    refine q_bipush (v := 12) hx dX0_ownerAt_13 (by decide) ?_
    refine q_imul hx dX0_ownerAt_15 ?_
    refine q_iload_n hx dX0_ownerAt_16 1 rfl ?_
    refine q_iadd hx dX0_ownerAt_17 ?_
    refine q_callSi (As := [.ref (G.2.1 + 281), .int ((a2 * 12) + a1)]) (rest := []) hx q_kR0 (c_X9_numberAt (q_Xl X) G x σ 281 96 ((a2 * 12) + a1) kd_281) q_ml_X0_36 q_mn_X9_numberAt q_ms_X9_numberAt (by decide) rfl (Nat.le_of_ble_eq_true rfl) dX0_ownerAt_18 rfl ?_
    refine q_goto hx 25 dX0_ownerAt_21 (by decide) ?_
    subst h
    exact q_iret hx hr dX0_ownerAt_25
theorem c_X0_ownerAt (l : Launch) (G : q_G) (x : q_A) (σ : q_S) (a1 : Int32) (a2 : Int32)  : q_Met l yX0_ownerAt cX0_ownerAt 3 (some .int) 3 G [.ref (G.2.1 + 280), .int a1, .int a2] σ x (q_Qi G x (f_X0_ownerAt σ a1 a2) σ) := ca_X0_ownerAt l G x σ a1 a2 rfl
-- X0_countOwned
def f_X0_countOwned_4 (σ : q_S) : Nat → Int32 → Int32 → Option (Int32)
  | 0, _, _ => none
  | n + 1, v1, v2 =>
    if 5 ≤ v2 then (some v1) else (if (v2 < 0 ∨ 5 ≤ v2.toNatClampNeg) then none else f_X0_countOwned_4 σ n (v1 + (σ 282 v2.toNatClampNeg)) (v2 + 1))
set_option maxHeartbeats 4000000 in
set_option maxRecDepth 100000 in
theorem s_X0_countOwned_4 {X : q_X} {G : q_G} {x : q_A} (σ : q_S) (hx : q_Cx X G RX0 cX0_countOwned 3 1) (hr : (q_Xm X).sig.returnType = some .int) {res : Int32} : ∀ (n : Nat) (v1 : Int32) (v2 : Int32), f_X0_countOwned_4 σ n v1 v2 = some res → q_Wq X G x 3 (q_MQ X G (q_Qi G x res σ)) 0 0 4 [(0, .ref (G.2.1 + 280)), (1, .int v1), (2, .int v2)] [] σ := by
  intro n
  induction n with
  | zero => exact fun _ _ h => nomatch (show (none : Option (Int32)) = some res from h)
  | succ n ih =>
    intro v1 v2 h
    rw [f_X0_countOwned_4] at h
    refine q_iload_n hx dX0_countOwned_4 2 rfl ?_
    refine q_aload_n hx dX0_countOwned_5 0 rfl ?_
    refine q_get (v := .ref (G.2.1 + 282)) hx q_fl_X0_15 dX0_countOwned_6 (q_ne kd_280 (by decide)) (q_e0 kd_280) rfl ?_
    refine q_alen0 (N := 5) (v := 5) hx dX0_countOwned_9 kd_282 (by decide) (by decide) ?_
    refine q_icmp_ge hx 28 dX0_countOwned_10 (by decide) (fun hc1 => ?_) (fun hc1 => ?_)
    · replace h := (if_pos hc1).symm.trans h
      refine q_iload_n hx dX0_countOwned_28 1 rfl ?_
      cases h
      exact q_iret hx hr dX0_countOwned_29
    · replace h := (if_neg hc1).symm.trans h
      refine q_iload_n hx dX0_countOwned_13 1 rfl ?_
      refine q_aload_n hx dX0_countOwned_14 0 rfl ?_
      refine q_get (v := .ref (G.2.1 + 282)) hx q_fl_X0_15 dX0_countOwned_15 (q_ne kd_280 (by decide)) (q_e0 kd_280) rfl ?_
      refine q_iload_n hx dX0_countOwned_18 2 rfl ?_
      by_cases hg2 : (v2 < 0 ∨ 5 ≤ v2.toNatClampNeg)
      · rw [if_pos hg2] at h; exact nomatch h
      replace h := (if_neg hg2).symm.trans h
      refine q_iald (N := 5) hx dX0_countOwned_19 kd_282 (by first | decide | assumption) hg2 ?_
      refine q_iadd hx dX0_countOwned_20 ?_
      refine q_istore_n hx [(1, .int (v1 + (σ 282 v2.toNatClampNeg))), (0, .ref (G.2.1 + 280)), (2, .int v2)] dX0_countOwned_21 (by decide) rfl ?_
      refine q_iinc hx [(2, .int (v2 + 1)), (1, .int (v1 + (σ 282 v2.toNatClampNeg))), (0, .ref (G.2.1 + 280))] dX0_countOwned_22 2 rfl rfl (by decide) rfl ?_
      refine q_goto hx 4 dX0_countOwned_25 (by decide) ?_
      refine q_sub [2, 1, 0] rfl ?_
      exact ih (v1 + (σ 282 v2.toNatClampNeg)) (v2 + 1) h
def f_X0_countOwned (σ : q_S) : Option (Int32) :=
  f_X0_countOwned_4 σ q_fu 0 0
set_option maxHeartbeats 4000000 in
set_option maxRecDepth 100000 in
theorem c_X0_countOwned (l : Launch) (G : q_G) (x : q_A) (σ : q_S)   {res : Int32} (h : f_X0_countOwned σ = some res) : q_Met l yX0_countOwned cX0_countOwned 3 (some .int) 1 G [.ref (G.2.1 + 280)] σ x (q_Qi G x res σ) := by
  refine q_of (by decide) (Nat.le_of_ble_eq_true rfl) (fun X hl0 hx hr => ?_)
  subst hl0
  have hx : q_Cx X G RX0 cX0_countOwned 3 1 := hx
  unfold f_X0_countOwned at h
  show q_Wq X G x 3 (q_MQ X G (q_Qi G x res σ)) 0 0 0 [(0, .ref (G.2.1 + 280))] [] σ
  refine q_iconst (v := 0) hx dX0_countOwned_0 (by decide) ?_
  refine q_istore_n hx [(1, .int 0), (0, .ref (G.2.1 + 280))] dX0_countOwned_1 (by decide) rfl ?_
  refine q_iconst (v := 0) hx dX0_countOwned_2 (by decide) ?_
  refine q_istore_n hx [(2, .int 0), (1, .int 0), (0, .ref (G.2.1 + 280))] dX0_countOwned_3 (by decide) rfl ?_
  refine q_sub [2, 1, 0] rfl ?_
  exact s_X0_countOwned_4 σ hx hr q_fu 0 0 h
-- X0_areBoth
def f_X0_areBoth_15 (v0 : Int32) (v1 : Int32) (v2 : Int32) (v3 : Int32) : Int32 :=
  if v0 = v3 then (if v1 = v2 then (1) else (0)) else (0)
set_option maxHeartbeats 4000000 in
set_option maxRecDepth 100000 in
theorem s_X0_areBoth_15 {X : q_X} {G : q_G} {x : q_A} (σ : q_S) (hx : q_Cx X G RX0 cX0_areBoth 4 1) (hr : (q_Xm X).sig.returnType = some .boolean) {res : Int32} : ∀ (v0 : Int32) (v1 : Int32) (v2 : Int32) (v3 : Int32), f_X0_areBoth_15 v0 v1 v2 v3 = res → q_Wq X G x 4 (q_MQ X G (q_Qi G x res σ)) 0 0 15 [(0, .int v0), (1, .int v1), (2, .int v2), (3, .int v3)] [] σ := by
  intro v0 v1 v2 v3 h
  unfold f_X0_areBoth_15 at h
  refine q_iload_n hx dX0_areBoth_15 0 rfl ?_
  refine q_iload_n hx dX0_areBoth_16 3 rfl ?_
  refine q_icmp_ne hx 29 dX0_areBoth_17 (by decide) (fun hc3 => ?_) (fun hc3 => ?_)
  · replace h := (if_neg hc3).symm.trans h
    refine q_iconst (v := 0) hx dX0_areBoth_29 (by decide) ?_
    subst h
    exact q_zret hx hr rfl dX0_areBoth_30
  · replace h := (if_pos hc3).symm.trans h
    refine q_iload_n hx dX0_areBoth_20 1 rfl ?_
    refine q_iload_n hx dX0_areBoth_21 2 rfl ?_
    refine q_icmp_ne hx 29 dX0_areBoth_22 (by decide) (fun hc4 => ?_) (fun hc4 => ?_)
    · replace h := (if_neg hc4).symm.trans h
      refine q_iconst (v := 0) hx dX0_areBoth_29 (by decide) ?_
      subst h
      exact q_zret hx hr rfl dX0_areBoth_30
    · replace h := (if_pos hc4).symm.trans h
      refine q_iconst (v := 1) hx dX0_areBoth_25 (by decide) ?_
      refine q_goto hx 30 dX0_areBoth_26 (by decide) ?_
      subst h
      exact q_zret hx hr rfl dX0_areBoth_30
def f_X0_areBoth (a0 : Int32) (a1 : Int32) (a2 : Int32) (a3 : Int32) : Int32 :=
  if a0 = a1 then (0) else (if a0 = a2 then (if a1 = a3 then (1) else (f_X0_areBoth_15 a0 a1 a2 a3)) else (f_X0_areBoth_15 a0 a1 a2 a3))
set_option maxHeartbeats 4000000 in
set_option maxRecDepth 100000 in
theorem ca_X0_areBoth (l : Launch) (G : q_G) (x : q_A) (σ : q_S) (a0 : Int32) (a1 : Int32) (a2 : Int32) (a3 : Int32)  {res : Int32} (h : f_X0_areBoth a0 a1 a2 a3 = res) : q_Met l yX0_areBoth cX0_areBoth 4 (some .boolean) 1 G [.int a0, .int a1, .int a2, .int a3] σ x (q_Qi G x res σ) := by
  refine q_of (by decide) (Nat.le_of_ble_eq_true rfl) (fun X hl0 hx hr => ?_)
  subst hl0
  have hx : q_Cx X G RX0 cX0_areBoth 4 1 := hx
  unfold f_X0_areBoth at h
  show q_Wq X G x 4 (q_MQ X G (q_Qi G x res σ)) 0 0 0 [(0, .int a0), (1, .int a1), (2, .int a2), (3, .int a3)] [] σ
  refine q_iload_n hx dX0_areBoth_0 0 rfl ?_
  refine q_iload_n hx dX0_areBoth_1 1 rfl ?_
  refine q_icmp_eq hx 29 dX0_areBoth_2 (by decide) (fun hc1 => ?_) (fun hc1 => ?_)
  · replace h := (if_pos hc1).symm.trans h
    refine q_iconst (v := 0) hx dX0_areBoth_29 (by decide) ?_
    subst h
    exact q_zret hx hr rfl dX0_areBoth_30
  · replace h := (if_neg hc1).symm.trans h
    refine q_iload_n hx dX0_areBoth_5 0 rfl ?_
    refine q_iload_n hx dX0_areBoth_6 2 rfl ?_
    refine q_icmp_ne hx 15 dX0_areBoth_7 (by decide) (fun hc2 => ?_) (fun hc2 => ?_)
    · replace h := (if_neg hc2).symm.trans h
      refine q_sub [0, 1, 2, 3] rfl ?_
      exact s_X0_areBoth_15 σ hx hr a0 a1 a2 a3 h
    · replace h := (if_pos hc2).symm.trans h
      refine q_iload_n hx dX0_areBoth_10 1 rfl ?_
      refine q_iload_n hx dX0_areBoth_11 3 rfl ?_
      refine q_icmp_eq hx 25 dX0_areBoth_12 (by decide) (fun hc5 => ?_) (fun hc5 => ?_)
      · replace h := (if_pos hc5).symm.trans h
        refine q_iconst (v := 1) hx dX0_areBoth_25 (by decide) ?_
        refine q_goto hx 30 dX0_areBoth_26 (by decide) ?_
        subst h
        exact q_zret hx hr rfl dX0_areBoth_30
      · replace h := (if_neg hc5).symm.trans h
        refine q_sub [0, 1, 2, 3] rfl ?_
        exact s_X0_areBoth_15 σ hx hr a0 a1 a2 a3 h
theorem c_X0_areBoth (l : Launch) (G : q_G) (x : q_A) (σ : q_S) (a0 : Int32) (a1 : Int32) (a2 : Int32) (a3 : Int32)  : q_Met l yX0_areBoth cX0_areBoth 4 (some .boolean) 1 G [.int a0, .int a1, .int a2, .int a3] σ x (q_Qi G x (f_X0_areBoth a0 a1 a2 a3) σ) := ca_X0_areBoth l G x σ a0 a1 a2 a3 rfl
-- X0_borderByCells
def f_X0_borderByCells_55 (σ : q_S) (k15 : Int32 → Int32 → Int32 → Int32 → Int32 → Option (Int32)) (v1 : Int32) (v2 : Int32) (v3 : Int32) (v4 : Int32) (v5 : Int32) (v6 : Int32) : Option (Int32) :=
  if ((f_X0_areBoth v6 ((f_X0_ownerAt σ v5 (v4 + 1))) v1 v2)) = 0 then (k15 v1 v2 v3 v4 (v5 + 1)) else (k15 v1 v2 (v3 + 1) v4 (v5 + 1))
set_option maxHeartbeats 4000000 in
set_option maxRecDepth 100000 in
theorem s_X0_borderByCells_55 {X : q_X} {G : q_G} {x : q_A} (σ : q_S) (hx : q_Cx X G RX0 cX0_borderByCells 7 4) (hr : (q_Xm X).sig.returnType = some .int) {res : Int32} {k15 : Int32 → Int32 → Int32 → Int32 → Int32 → Option (Int32)} (hk15 : ∀ (v1 : Int32) (v2 : Int32) (v3 : Int32) (v4 : Int32) (v5 : Int32), k15 v1 v2 v3 v4 v5 = some res → q_Wq X G x 7 (q_MQ X G (q_Qi G x res σ)) 0 0 15 [(0, .ref (G.2.1 + 280)), (1, .int v1), (2, .int v2), (3, .int v3), (4, .int v4), (5, .int v5)] [] σ) : ∀ (v1 : Int32) (v2 : Int32) (v3 : Int32) (v4 : Int32) (v5 : Int32) (v6 : Int32), f_X0_borderByCells_55 σ k15 v1 v2 v3 v4 v5 v6 = some res → q_Wq X G x 7 (q_MQ X G (q_Qi G x res σ)) 0 0 55 [(0, .ref (G.2.1 + 280)), (1, .int v1), (2, .int v2), (3, .int v3), (4, .int v4), (5, .int v5), (6, .int v6)] [] σ := by
  intro v1 v2 v3 v4 v5 v6 h
  unfold f_X0_borderByCells_55 at h
  refine q_iload hx dX0_borderByCells_55 6 rfl ?_
  refine q_aload_n hx dX0_borderByCells_57 0 rfl ?_
  refine q_iload hx dX0_borderByCells_58 5 rfl ?_
  refine q_iload hx dX0_borderByCells_60 4 rfl ?_
  refine q_iconst (v := 1) hx dX0_borderByCells_62 (by decide) ?_
  refine q_iadd hx dX0_borderByCells_63 ?_
  refine q_callVi (As := [.int v5, .int (v4 + 1)]) (rest := [.int v6]) hx q_kR0 (c_X0_ownerAt (q_Xl X) G x σ v5 (v4 + 1)) q_ml_X0_40 q_mn_X0_ownerAt q_mi_X0_ownerAt q_se_X0_ownerAt (by decide) rfl (Nat.le_of_ble_eq_true rfl) dX0_borderByCells_64 (q_ne kd_280 (by decide)) (q_e0 kd_280) rfl rfl rfl ?_
  refine q_iload_n hx dX0_borderByCells_67 1 rfl ?_
  refine q_iload_n hx dX0_borderByCells_68 2 rfl ?_
  refine q_callSi (As := [.int v6, .int ((f_X0_ownerAt σ v5 (v4 + 1))), .int v1, .int v2]) (rest := []) hx q_kR0 (c_X0_areBoth (q_Xl X) G x σ v6 ((f_X0_ownerAt σ v5 (v4 + 1))) v1 v2) q_ml_X0_44 q_mn_X0_areBoth q_ms_X0_areBoth (by decide) rfl (Nat.le_of_ble_eq_true rfl) dX0_borderByCells_69 rfl ?_
  refine q_if_eq hx 78 dX0_borderByCells_72 (by decide) (fun hc4 => ?_) (fun hc4 => ?_)
  · replace h := (if_pos hc4).symm.trans h
    refine q_iinc hx [(5, .int (v5 + 1)), (0, .ref (G.2.1 + 280)), (1, .int v1), (2, .int v2), (3, .int v3), (4, .int v4), (6, .int v6)] dX0_borderByCells_78 5 rfl rfl (by decide) rfl ?_
    refine q_goto hx 15 dX0_borderByCells_81 (by decide) ?_
    refine q_sub [1, 2, 3, 4, 5, 0] rfl ?_
    exact hk15 v1 v2 v3 v4 (v5 + 1) h
  · replace h := (if_neg hc4).symm.trans h
    refine q_iinc hx [(3, .int (v3 + 1)), (0, .ref (G.2.1 + 280)), (1, .int v1), (2, .int v2), (4, .int v4), (5, .int v5), (6, .int v6)] dX0_borderByCells_75 3 rfl rfl (by decide) rfl ?_
    refine q_iinc hx [(5, .int (v5 + 1)), (3, .int (v3 + 1)), (0, .ref (G.2.1 + 280)), (1, .int v1), (2, .int v2), (4, .int v4), (6, .int v6)] dX0_borderByCells_78 5 rfl rfl (by decide) rfl ?_
    refine q_goto hx 15 dX0_borderByCells_81 (by decide) ?_
    refine q_sub [2, 3, 4, 1, 5, 0] rfl ?_
    exact hk15 v1 v2 (v3 + 1) v4 (v5 + 1) h
def f_X0_borderByCells_15 (σ : q_S) (k5 : Int32 → Int32 → Int32 → Int32 → Option (Int32)) : Nat → Int32 → Int32 → Int32 → Int32 → Int32 → Option (Int32)
  | 0, _, _, _, _, _ => none
  | n + 1, v1, v2, v3, v4, v5 =>
    if 12 ≤ v5 then (k5 v1 v2 v3 (v4 + 1)) else (if ((f_X0_areBoth ((f_X0_ownerAt σ v5 v4)) ((f_X0_ownerAt σ (v5 + 1) v4)) v1 v2)) = 0 then (f_X0_borderByCells_55 σ (f_X0_borderByCells_15 σ k5 n) v1 v2 v3 v4 v5 ((f_X0_ownerAt σ v5 v4))) else (f_X0_borderByCells_55 σ (f_X0_borderByCells_15 σ k5 n) v1 v2 (v3 + 1) v4 v5 ((f_X0_ownerAt σ v5 v4))))
set_option maxHeartbeats 4000000 in
set_option maxRecDepth 100000 in
theorem s_X0_borderByCells_15 {X : q_X} {G : q_G} {x : q_A} (σ : q_S) (hx : q_Cx X G RX0 cX0_borderByCells 7 4) (hr : (q_Xm X).sig.returnType = some .int) {res : Int32} {k5 : Int32 → Int32 → Int32 → Int32 → Option (Int32)} (hk5 : ∀ (v1 : Int32) (v2 : Int32) (v3 : Int32) (v4 : Int32), k5 v1 v2 v3 v4 = some res → q_Wq X G x 7 (q_MQ X G (q_Qi G x res σ)) 0 0 5 [(0, .ref (G.2.1 + 280)), (1, .int v1), (2, .int v2), (3, .int v3), (4, .int v4)] [] σ) : ∀ (n : Nat) (v1 : Int32) (v2 : Int32) (v3 : Int32) (v4 : Int32) (v5 : Int32), f_X0_borderByCells_15 σ k5 n v1 v2 v3 v4 v5 = some res → q_Wq X G x 7 (q_MQ X G (q_Qi G x res σ)) 0 0 15 [(0, .ref (G.2.1 + 280)), (1, .int v1), (2, .int v2), (3, .int v3), (4, .int v4), (5, .int v5)] [] σ := by
  intro n
  induction n with
  | zero => exact fun _ _ _ _ _ h => nomatch (show (none : Option (Int32)) = some res from h)
  | succ n ih =>
    intro v1 v2 v3 v4 v5 h
    rw [f_X0_borderByCells_15] at h
    refine q_iload hx dX0_borderByCells_15 5 rfl ?_
    refine q_bipush (v := 12) hx dX0_borderByCells_17 (by decide) ?_
    refine q_icmp_ge hx 84 dX0_borderByCells_19 (by decide) (fun hc2 => ?_) (fun hc2 => ?_)
    · replace h := (if_pos hc2).symm.trans h
      refine q_iinc hx [(4, .int (v4 + 1)), (0, .ref (G.2.1 + 280)), (1, .int v1), (2, .int v2), (3, .int v3), (5, .int v5)] dX0_borderByCells_84 4 rfl rfl (by decide) rfl ?_
      refine q_goto hx 5 dX0_borderByCells_87 (by decide) ?_
      refine q_sub [1, 2, 3, 4, 0] rfl ?_
      exact hk5 v1 v2 v3 (v4 + 1) h
    · replace h := (if_neg hc2).symm.trans h
      refine q_aload_n hx dX0_borderByCells_22 0 rfl ?_
      refine q_iload hx dX0_borderByCells_23 5 rfl ?_
      refine q_iload hx dX0_borderByCells_25 4 rfl ?_
      refine q_callVi (As := [.int v5, .int v4]) (rest := []) hx q_kR0 (c_X0_ownerAt (q_Xl X) G x σ v5 v4) q_ml_X0_40 q_mn_X0_ownerAt q_mi_X0_ownerAt q_se_X0_ownerAt (by decide) rfl (Nat.le_of_ble_eq_true rfl) dX0_borderByCells_27 (q_ne kd_280 (by decide)) (q_e0 kd_280) rfl rfl rfl ?_
      refine q_istore hx [(6, .int ((f_X0_ownerAt σ v5 v4))), (0, .ref (G.2.1 + 280)), (1, .int v1), (2, .int v2), (3, .int v3), (4, .int v4), (5, .int v5)] dX0_borderByCells_30 (by decide) rfl ?_
      refine q_iload hx dX0_borderByCells_32 0 rfl ?_
      refine q_aload_n hx dX0_borderByCells_34 1 rfl ?_
      refine q_iload hx dX0_borderByCells_35 6 rfl ?_
      refine q_iconst (v := 1) hx dX0_borderByCells_37 (by decide) ?_
      refine q_iadd hx dX0_borderByCells_38 ?_
      refine q_iload hx dX0_borderByCells_39 5 rfl ?_
      refine q_callVi (As := [.int (v5 + 1), .int v4]) (rest := [.int ((f_X0_ownerAt σ v5 v4))]) hx q_kR0 (c_X0_ownerAt (q_Xl X) G x σ (v5 + 1) v4) q_ml_X0_40 q_mn_X0_ownerAt q_mi_X0_ownerAt q_se_X0_ownerAt (by decide) rfl (Nat.le_of_ble_eq_true rfl) dX0_borderByCells_41 (q_ne kd_280 (by decide)) (q_e0 kd_280) rfl rfl rfl ?_
      refine q_iload_n hx dX0_borderByCells_44 2 rfl ?_
      refine q_iload_n hx dX0_borderByCells_45 3 rfl ?_
      refine q_callSi (As := [.int ((f_X0_ownerAt σ v5 v4)), .int ((f_X0_ownerAt σ (v5 + 1) v4)), .int v1, .int v2]) (rest := []) hx q_kR0 (c_X0_areBoth (q_Xl X) G x σ ((f_X0_ownerAt σ v5 v4)) ((f_X0_ownerAt σ (v5 + 1) v4)) v1 v2) q_ml_X0_44 q_mn_X0_areBoth q_ms_X0_areBoth (by decide) rfl (Nat.le_of_ble_eq_true rfl) dX0_borderByCells_46 rfl ?_
      refine q_if_eq hx 55 dX0_borderByCells_49 (by decide) (fun hc3 => ?_) (fun hc3 => ?_)
      · replace h := (if_pos hc3).symm.trans h
        refine q_sub [1, 2, 3, 4, 5, 6, 0] rfl ?_
        exact s_X0_borderByCells_55 σ hx hr (fun v1 v2 v3 v4 v5 h => ih v1 v2 v3 v4 v5 h) v1 v2 v3 v4 v5 ((f_X0_ownerAt σ v5 v4)) h
      · replace h := (if_neg hc3).symm.trans h
        refine q_iinc hx [(3, .int (v3 + 1)), (6, .int ((f_X0_ownerAt σ v5 v4))), (0, .ref (G.2.1 + 280)), (1, .int v1), (2, .int v2), (4, .int v4), (5, .int v5)] dX0_borderByCells_52 4 rfl rfl (by decide) rfl ?_
        refine q_sub [2, 3, 4, 0, 5, 6, 1] rfl ?_
        exact s_X0_borderByCells_55 σ hx hr (fun v1 v2 v3 v4 v5 h => ih v1 v2 v3 v4 v5 h) v1 v2 (v3 + 1) v4 v5 ((f_X0_ownerAt σ v5 v4)) h
def f_X0_borderByCells_5 (σ : q_S) : Nat → Int32 → Int32 → Int32 → Int32 → Option (Int32)
  | 0, _, _, _, _ => none
  | n + 1, v1, v2, v3, v4 =>
    if 8 ≤ v4 then (some v3) else (f_X0_borderByCells_15 σ (f_X0_borderByCells_5 σ n) q_fu v1 v2 v3 v4 0)
set_option maxHeartbeats 4000000 in
set_option maxRecDepth 100000 in
theorem s_X0_borderByCells_5 {X : q_X} {G : q_G} {x : q_A} (σ : q_S) (hx : q_Cx X G RX0 cX0_borderByCells 7 4) (hr : (q_Xm X).sig.returnType = some .int) {res : Int32} : ∀ (n : Nat) (v1 : Int32) (v2 : Int32) (v3 : Int32) (v4 : Int32), f_X0_borderByCells_5 σ n v1 v2 v3 v4 = some res → q_Wq X G x 7 (q_MQ X G (q_Qi G x res σ)) 0 0 5 [(0, .ref (G.2.1 + 280)), (1, .int v1), (2, .int v2), (3, .int v3), (4, .int v4)] [] σ := by
  intro n
  induction n with
  | zero => exact fun _ _ _ _ h => nomatch (show (none : Option (Int32)) = some res from h)
  | succ n ih =>
    intro v1 v2 v3 v4 h
    rw [f_X0_borderByCells_5] at h
    refine q_iload hx dX0_borderByCells_5 4 rfl ?_
    refine q_bipush (v := 8) hx dX0_borderByCells_7 (by decide) ?_
    refine q_icmp_ge hx 90 dX0_borderByCells_9 (by decide) (fun hc1 => ?_) (fun hc1 => ?_)
    · replace h := (if_pos hc1).symm.trans h
      refine q_iload_n hx dX0_borderByCells_90 3 rfl ?_
      cases h
      exact q_iret hx hr dX0_borderByCells_91
    · replace h := (if_neg hc1).symm.trans h
      refine q_iconst (v := 0) hx dX0_borderByCells_12 (by decide) ?_
      refine q_istore hx [(5, .int 0), (0, .ref (G.2.1 + 280)), (1, .int v1), (2, .int v2), (3, .int v3), (4, .int v4)] dX0_borderByCells_13 (by decide) rfl ?_
      refine q_sub [1, 2, 3, 4, 5, 0] rfl ?_
      exact s_X0_borderByCells_15 σ hx hr (fun v1 v2 v3 v4 h => ih v1 v2 v3 v4 h) q_fu v1 v2 v3 v4 0 h
def f_X0_borderByCells (σ : q_S) (a1 : Int32) (a2 : Int32) : Option (Int32) :=
  f_X0_borderByCells_5 σ q_fu a1 a2 0 0
set_option maxHeartbeats 4000000 in
set_option maxRecDepth 100000 in
theorem c_X0_borderByCells (l : Launch) (G : q_G) (x : q_A) (σ : q_S) (a1 : Int32) (a2 : Int32)  {res : Int32} (h : f_X0_borderByCells σ a1 a2 = some res) : q_Met l yX0_borderByCells cX0_borderByCells 7 (some .int) 4 G [.ref (G.2.1 + 280), .int a1, .int a2] σ x (q_Qi G x res σ) := by
  refine q_of (by decide) (Nat.le_of_ble_eq_true rfl) (fun X hl0 hx hr => ?_)
  subst hl0
  have hx : q_Cx X G RX0 cX0_borderByCells 7 4 := hx
  unfold f_X0_borderByCells at h
  show q_Wq X G x 7 (q_MQ X G (q_Qi G x res σ)) 0 0 0 [(0, .ref (G.2.1 + 280)), (1, .int a1), (2, .int a2)] [] σ
  refine q_iconst (v := 0) hx dX0_borderByCells_0 (by decide) ?_
  refine q_istore_n hx [(3, .int 0), (0, .ref (G.2.1 + 280)), (1, .int a1), (2, .int a2)] dX0_borderByCells_1 (by decide) rfl ?_
  refine q_iconst (v := 0) hx dX0_borderByCells_2 (by decide) ?_
  refine q_istore hx [(4, .int 0), (3, .int 0), (0, .ref (G.2.1 + 280)), (1, .int a1), (2, .int a2)] dX0_borderByCells_3 (by decide) rfl ?_
  refine q_sub [2, 3, 4, 1, 0] rfl ?_
  exact s_X0_borderByCells_5 σ hx hr q_fu a1 a2 0 0 h
-- X0_sidesTowards
def f_X0_sidesTowards_6 (σ : q_S) : Nat → Int32 → Int32 → Int32 → Int32 → Int32 → Option (Int32)
  | 0, _, _, _, _, _ => none
  | n + 1, v1, v2, v3, v4, v5 =>
    if 3 < v5 then (some v4) else (if ((f_X0_ownerAt σ (v2 + ((f_X9_stepX v5))) (v3 + ((f_X9_stepY v5))))) = v1 then (f_X0_sidesTowards_6 σ n v1 v2 v3 (v4 + 1) (v5 + 1)) else (f_X0_sidesTowards_6 σ n v1 v2 v3 v4 (v5 + 1)))
set_option maxHeartbeats 4000000 in
set_option maxRecDepth 100000 in
theorem s_X0_sidesTowards_6 {X : q_X} {G : q_G} {x : q_A} (σ : q_S) (hx : q_Cx X G RX0 cX0_sidesTowards 6 4) (hr : (q_Xm X).sig.returnType = some .int) {res : Int32} : ∀ (n : Nat) (v1 : Int32) (v2 : Int32) (v3 : Int32) (v4 : Int32) (v5 : Int32), f_X0_sidesTowards_6 σ n v1 v2 v3 v4 v5 = some res → q_Wq X G x 6 (q_MQ X G (q_Qi G x res σ)) 0 0 6 [(0, .ref (G.2.1 + 280)), (1, .int v1), (2, .int v2), (3, .int v3), (4, .int v4), (5, .int v5)] [] σ := by
  intro n
  induction n with
  | zero => exact fun _ _ _ _ _ h => nomatch (show (none : Option (Int32)) = some res from h)
  | succ n ih =>
    intro v1 v2 v3 v4 v5 h
    rw [f_X0_sidesTowards_6] at h
    refine q_iload hx dX0_sidesTowards_6 5 rfl ?_
    refine q_iconst (v := 3) hx dX0_sidesTowards_8 (by decide) ?_
    refine q_icmp_gt hx 43 dX0_sidesTowards_9 (by decide) (fun hc1 => ?_) (fun hc1 => ?_)
    · replace h := (if_pos hc1).symm.trans h
      refine q_iload hx dX0_sidesTowards_43 4 rfl ?_
      cases h
      exact q_iret hx hr dX0_sidesTowards_45
    · replace h := (if_neg hc1).symm.trans h
      refine q_aload_n hx dX0_sidesTowards_12 0 rfl ?_
      refine q_iload_n hx dX0_sidesTowards_13 2 rfl ?_
      refine q_iload hx dX0_sidesTowards_14 5 rfl ?_
      refine q_callSi (As := [.int v5]) (rest := [.int v2, .ref (G.2.1 + 280)]) hx q_kR0 (c_X9_stepX (q_Xl X) G x σ v5) q_ml_X0_51 q_mn_X9_stepX q_ms_X9_stepX (by decide) rfl (Nat.le_of_ble_eq_true rfl) dX0_sidesTowards_16 rfl ?_
      refine q_iadd hx dX0_sidesTowards_19 ?_
      refine q_iload_n hx dX0_sidesTowards_20 3 rfl ?_
      refine q_iload hx dX0_sidesTowards_21 5 rfl ?_
      refine q_callSi (As := [.int v5]) (rest := [.int v3, .int (v2 + ((f_X9_stepX v5))), .ref (G.2.1 + 280)]) hx q_kR0 (c_X9_stepY (q_Xl X) G x σ v5) q_ml_X0_54 q_mn_X9_stepY q_ms_X9_stepY (by decide) rfl (Nat.le_of_ble_eq_true rfl) dX0_sidesTowards_23 rfl ?_
      refine q_iadd hx dX0_sidesTowards_26 ?_
      refine q_callVi (As := [.int (v2 + ((f_X9_stepX v5))), .int (v3 + ((f_X9_stepY v5)))]) (rest := []) hx q_kR0 (c_X0_ownerAt (q_Xl X) G x σ (v2 + ((f_X9_stepX v5))) (v3 + ((f_X9_stepY v5)))) q_ml_X0_40 q_mn_X0_ownerAt q_mi_X0_ownerAt q_se_X0_ownerAt (by decide) rfl (Nat.le_of_ble_eq_true rfl) dX0_sidesTowards_27 (q_ne kd_280 (by decide)) (q_e0 kd_280) rfl rfl rfl ?_
      refine q_iload_n hx dX0_sidesTowards_30 1 rfl ?_
      refine q_icmp_ne hx 37 dX0_sidesTowards_31 (by decide) (fun hc2 => ?_) (fun hc2 => ?_)
      · replace h := (if_neg hc2).symm.trans h
        refine q_iinc hx [(5, .int (v5 + 1)), (0, .ref (G.2.1 + 280)), (1, .int v1), (2, .int v2), (3, .int v3), (4, .int v4)] dX0_sidesTowards_37 5 rfl rfl (by decide) rfl ?_
        refine q_goto hx 6 dX0_sidesTowards_40 (by decide) ?_
        refine q_sub [1, 2, 3, 4, 5, 0] rfl ?_
        exact ih v1 v2 v3 v4 (v5 + 1) h
      · replace h := (if_pos hc2).symm.trans h
        refine q_iinc hx [(4, .int (v4 + 1)), (0, .ref (G.2.1 + 280)), (1, .int v1), (2, .int v2), (3, .int v3), (5, .int v5)] dX0_sidesTowards_34 4 rfl rfl (by decide) rfl ?_
        refine q_iinc hx [(5, .int (v5 + 1)), (4, .int (v4 + 1)), (0, .ref (G.2.1 + 280)), (1, .int v1), (2, .int v2), (3, .int v3)] dX0_sidesTowards_37 5 rfl rfl (by decide) rfl ?_
        refine q_goto hx 6 dX0_sidesTowards_40 (by decide) ?_
        refine q_sub [2, 3, 4, 5, 1, 0] rfl ?_
        exact ih v1 v2 v3 (v4 + 1) (v5 + 1) h
def f_X0_sidesTowards (σ : q_S) (a1 : Int32) (a2 : Int32) (a3 : Int32) : Option (Int32) :=
  f_X0_sidesTowards_6 σ q_fu a1 a2 a3 0 0
set_option maxHeartbeats 4000000 in
set_option maxRecDepth 100000 in
theorem c_X0_sidesTowards (l : Launch) (G : q_G) (x : q_A) (σ : q_S) (a1 : Int32) (a2 : Int32) (a3 : Int32)  {res : Int32} (h : f_X0_sidesTowards σ a1 a2 a3 = some res) : q_Met l yX0_sidesTowards cX0_sidesTowards 6 (some .int) 4 G [.ref (G.2.1 + 280), .int a1, .int a2, .int a3] σ x (q_Qi G x res σ) := by
  refine q_of (by decide) (Nat.le_of_ble_eq_true rfl) (fun X hl0 hx hr => ?_)
  subst hl0
  have hx : q_Cx X G RX0 cX0_sidesTowards 6 4 := hx
  unfold f_X0_sidesTowards at h
  show q_Wq X G x 6 (q_MQ X G (q_Qi G x res σ)) 0 0 0 [(0, .ref (G.2.1 + 280)), (1, .int a1), (2, .int a2), (3, .int a3)] [] σ
  refine q_iconst (v := 0) hx dX0_sidesTowards_0 (by decide) ?_
  refine q_istore hx [(4, .int 0), (0, .ref (G.2.1 + 280)), (1, .int a1), (2, .int a2), (3, .int a3)] dX0_sidesTowards_1 (by decide) rfl ?_
  refine q_iconst (v := 0) hx dX0_sidesTowards_3 (by decide) ?_
  refine q_istore hx [(5, .int 0), (4, .int 0), (0, .ref (G.2.1 + 280)), (1, .int a1), (2, .int a2), (3, .int a3)] dX0_sidesTowards_4 (by decide) rfl ?_
  refine q_sub [2, 3, 4, 5, 1, 0] rfl ?_
  exact s_X0_sidesTowards_6 σ hx hr q_fu a1 a2 a3 0 0 h
-- X0_borderAround
def f_X0_borderAround_22 (σ : q_S) (k12 : Int32 → Int32 → Int32 → Int32 → Option (Int32)) : Nat → Int32 → Int32 → Int32 → Int32 → Int32 → Option (Int32)
  | 0, _, _, _, _, _ => none
  | n + 1, v1, v2, v3, v4, v5 =>
    if 12 ≤ v5 then (k12 v1 v2 v3 (v4 + 1)) else (if ((f_X0_ownerAt σ v5 v4)) = v2 then (Option.bind (f_X0_sidesTowards σ v1 v5 v4) (fun q5 => f_X0_borderAround_22 σ k12 n v1 v2 (v3 + q5) v4 (v5 + 1))) else (f_X0_borderAround_22 σ k12 n v1 v2 v3 v4 (v5 + 1)))
set_option maxHeartbeats 4000000 in
set_option maxRecDepth 100000 in
theorem s_X0_borderAround_22 {X : q_X} {G : q_G} {x : q_A} (σ : q_S) (hx : q_Cx X G RX0 cX0_borderAround 6 5) (hr : (q_Xm X).sig.returnType = some .int) {res : Int32} {k12 : Int32 → Int32 → Int32 → Int32 → Option (Int32)} (hk12 : ∀ (v1 : Int32) (v2 : Int32) (v3 : Int32) (v4 : Int32), k12 v1 v2 v3 v4 = some res → q_Wq X G x 6 (q_MQ X G (q_Qi G x res σ)) 0 0 12 [(0, .ref (G.2.1 + 280)), (1, .int v1), (2, .int v2), (3, .int v3), (4, .int v4)] [] σ) : ∀ (n : Nat) (v1 : Int32) (v2 : Int32) (v3 : Int32) (v4 : Int32) (v5 : Int32), f_X0_borderAround_22 σ k12 n v1 v2 v3 v4 v5 = some res → q_Wq X G x 6 (q_MQ X G (q_Qi G x res σ)) 0 0 22 [(0, .ref (G.2.1 + 280)), (1, .int v1), (2, .int v2), (3, .int v3), (4, .int v4), (5, .int v5)] [] σ := by
  intro n
  induction n with
  | zero => exact fun _ _ _ _ _ h => nomatch (show (none : Option (Int32)) = some res from h)
  | succ n ih =>
    intro v1 v2 v3 v4 v5 h
    rw [f_X0_borderAround_22] at h
    refine q_iload hx dX0_borderAround_22 5 rfl ?_
    refine q_bipush (v := 12) hx dX0_borderAround_24 (by decide) ?_
    refine q_icmp_ge hx 59 dX0_borderAround_26 (by decide) (fun hc3 => ?_) (fun hc3 => ?_)
    · replace h := (if_pos hc3).symm.trans h
      refine q_iinc hx [(4, .int (v4 + 1)), (0, .ref (G.2.1 + 280)), (1, .int v1), (2, .int v2), (3, .int v3), (5, .int v5)] dX0_borderAround_59 4 rfl rfl (by decide) rfl ?_
      refine q_goto hx 12 dX0_borderAround_62 (by decide) ?_
      refine q_sub [1, 2, 3, 4, 0] rfl ?_
      exact hk12 v1 v2 v3 (v4 + 1) h
    · replace h := (if_neg hc3).symm.trans h
      refine q_aload_n hx dX0_borderAround_29 0 rfl ?_
      refine q_iload hx dX0_borderAround_30 5 rfl ?_
      refine q_iload hx dX0_borderAround_32 4 rfl ?_
      refine q_callVi (As := [.int v5, .int v4]) (rest := []) hx q_kR0 (c_X0_ownerAt (q_Xl X) G x σ v5 v4) q_ml_X0_40 q_mn_X0_ownerAt q_mi_X0_ownerAt q_se_X0_ownerAt (by decide) rfl (Nat.le_of_ble_eq_true rfl) dX0_borderAround_34 (q_ne kd_280 (by decide)) (q_e0 kd_280) rfl rfl rfl ?_
      refine q_iload_n hx dX0_borderAround_37 2 rfl ?_
      refine q_icmp_ne hx 53 dX0_borderAround_38 (by decide) (fun hc4 => ?_) (fun hc4 => ?_)
      · replace h := (if_neg hc4).symm.trans h
        refine q_iinc hx [(5, .int (v5 + 1)), (0, .ref (G.2.1 + 280)), (1, .int v1), (2, .int v2), (3, .int v3), (4, .int v4)] dX0_borderAround_53 5 rfl rfl (by decide) rfl ?_
        refine q_goto hx 22 dX0_borderAround_56 (by decide) ?_
        refine q_sub [1, 2, 3, 4, 5, 0] rfl ?_
        exact ih v1 v2 v3 v4 (v5 + 1) h
      · replace h := (if_pos hc4).symm.trans h
        refine q_iload_n hx dX0_borderAround_41 3 rfl ?_
        refine q_aload_n hx dX0_borderAround_42 0 rfl ?_
        refine q_iload_n hx dX0_borderAround_43 1 rfl ?_
        refine q_iload hx dX0_borderAround_44 5 rfl ?_
        refine q_iload hx dX0_borderAround_46 4 rfl ?_
        refine q_bindE h (fun q5 hq5 h => ?_)
        refine q_callVi (As := [.int v1, .int v5, .int v4]) (rest := [.int v3]) hx q_kR0 (c_X0_sidesTowards (q_Xl X) G x σ v1 v5 v4 hq5) q_ml_X0_48 q_mn_X0_sidesTowards q_mi_X0_sidesTowards q_se_X0_sidesTowards (by decide) rfl (Nat.le_of_ble_eq_true rfl) dX0_borderAround_48 (q_ne kd_280 (by decide)) (q_e0 kd_280) rfl rfl rfl ?_
        refine q_iadd hx dX0_borderAround_51 ?_
        refine q_istore_n hx [(3, .int (v3 + q5)), (0, .ref (G.2.1 + 280)), (1, .int v1), (2, .int v2), (4, .int v4), (5, .int v5)] dX0_borderAround_52 (by decide) rfl ?_
        refine q_iinc hx [(5, .int (v5 + 1)), (3, .int (v3 + q5)), (0, .ref (G.2.1 + 280)), (1, .int v1), (2, .int v2), (4, .int v4)] dX0_borderAround_53 5 rfl rfl (by decide) rfl ?_
        refine q_goto hx 22 dX0_borderAround_56 (by decide) ?_
        refine q_sub [2, 3, 4, 1, 5, 0] rfl ?_
        exact ih v1 v2 (v3 + q5) v4 (v5 + 1) h
def f_X0_borderAround_12 (σ : q_S) : Nat → Int32 → Int32 → Int32 → Int32 → Option (Int32)
  | 0, _, _, _, _ => none
  | n + 1, v1, v2, v3, v4 =>
    if 8 ≤ v4 then (some v3) else (f_X0_borderAround_22 σ (f_X0_borderAround_12 σ n) q_fu v1 v2 v3 v4 0)
set_option maxHeartbeats 4000000 in
set_option maxRecDepth 100000 in
theorem s_X0_borderAround_12 {X : q_X} {G : q_G} {x : q_A} (σ : q_S) (hx : q_Cx X G RX0 cX0_borderAround 6 5) (hr : (q_Xm X).sig.returnType = some .int) {res : Int32} : ∀ (n : Nat) (v1 : Int32) (v2 : Int32) (v3 : Int32) (v4 : Int32), f_X0_borderAround_12 σ n v1 v2 v3 v4 = some res → q_Wq X G x 6 (q_MQ X G (q_Qi G x res σ)) 0 0 12 [(0, .ref (G.2.1 + 280)), (1, .int v1), (2, .int v2), (3, .int v3), (4, .int v4)] [] σ := by
  intro n
  induction n with
  | zero => exact fun _ _ _ _ h => nomatch (show (none : Option (Int32)) = some res from h)
  | succ n ih =>
    intro v1 v2 v3 v4 h
    rw [f_X0_borderAround_12] at h
    refine q_iload hx dX0_borderAround_12 4 rfl ?_
    refine q_bipush (v := 8) hx dX0_borderAround_14 (by decide) ?_
    refine q_icmp_ge hx 65 dX0_borderAround_16 (by decide) (fun hc2 => ?_) (fun hc2 => ?_)
    · replace h := (if_pos hc2).symm.trans h
      refine q_iload_n hx dX0_borderAround_65 3 rfl ?_
      cases h
      exact q_iret hx hr dX0_borderAround_66
    · replace h := (if_neg hc2).symm.trans h
      refine q_iconst (v := 0) hx dX0_borderAround_19 (by decide) ?_
      refine q_istore hx [(5, .int 0), (0, .ref (G.2.1 + 280)), (1, .int v1), (2, .int v2), (3, .int v3), (4, .int v4)] dX0_borderAround_20 (by decide) rfl ?_
      refine q_sub [1, 2, 3, 4, 5, 0] rfl ?_
      exact s_X0_borderAround_22 σ hx hr (fun v1 v2 v3 v4 h => ih v1 v2 v3 v4 h) q_fu v1 v2 v3 v4 0 h
def f_X0_borderAround (σ : q_S) (a1 : Int32) (a2 : Int32) : Option (Int32) :=
  if a1 = a2 then (some 0) else (f_X0_borderAround_12 σ q_fu a1 a2 0 0)
set_option maxHeartbeats 4000000 in
set_option maxRecDepth 100000 in
theorem c_X0_borderAround (l : Launch) (G : q_G) (x : q_A) (σ : q_S) (a1 : Int32) (a2 : Int32)  {res : Int32} (h : f_X0_borderAround σ a1 a2 = some res) : q_Met l yX0_borderAround cX0_borderAround 6 (some .int) 5 G [.ref (G.2.1 + 280), .int a1, .int a2] σ x (q_Qi G x res σ) := by
  refine q_of (by decide) (Nat.le_of_ble_eq_true rfl) (fun X hl0 hx hr => ?_)
  subst hl0
  have hx : q_Cx X G RX0 cX0_borderAround 6 5 := hx
  unfold f_X0_borderAround at h
  show q_Wq X G x 6 (q_MQ X G (q_Qi G x res σ)) 0 0 0 [(0, .ref (G.2.1 + 280)), (1, .int a1), (2, .int a2)] [] σ
  refine q_iload_n hx dX0_borderAround_0 1 rfl ?_
  refine q_iload_n hx dX0_borderAround_1 2 rfl ?_
  refine q_icmp_ne hx 7 dX0_borderAround_2 (by decide) (fun hc1 => ?_) (fun hc1 => ?_)
  · replace h := (if_neg hc1).symm.trans h
    refine q_iconst (v := 0) hx dX0_borderAround_7 (by decide) ?_
    refine q_istore_n hx [(3, .int 0), (0, .ref (G.2.1 + 280)), (1, .int a1), (2, .int a2)] dX0_borderAround_8 (by decide) rfl ?_
    refine q_iconst (v := 0) hx dX0_borderAround_9 (by decide) ?_
    refine q_istore hx [(4, .int 0), (3, .int 0), (0, .ref (G.2.1 + 280)), (1, .int a1), (2, .int a2)] dX0_borderAround_10 (by decide) rfl ?_
    refine q_sub [2, 3, 4, 1, 0] rfl ?_
    exact s_X0_borderAround_12 σ hx hr q_fu a1 a2 0 0 h
  · replace h := (if_pos hc1).symm.trans h
    refine q_iconst (v := 0) hx dX0_borderAround_5 (by decide) ?_
    cases h
    exact q_iret hx hr dX0_borderAround_6
-- X0_openSides
def f_X0_openSides_13 (σ : q_S) (k4 : Int32 → Int32 → Int32 → Option (Int32)) : Nat → Int32 → Int32 → Int32 → Int32 → Option (Int32)
  | 0, _, _, _, _ => none
  | n + 1, v1, v2, v3, v4 =>
    if 12 ≤ v4 then (k4 v1 v2 (v3 + 1)) else (if ((f_X0_ownerAt σ v4 v3)) = v1 then (Option.bind (f_X0_sidesTowards σ v1 v4 v3) (fun q4 => f_X0_openSides_13 σ k4 n v1 (v2 + (4 - q4)) v3 (v4 + 1))) else (f_X0_openSides_13 σ k4 n v1 v2 v3 (v4 + 1)))
set_option maxHeartbeats 4000000 in
set_option maxRecDepth 100000 in
theorem s_X0_openSides_13 {X : q_X} {G : q_G} {x : q_A} (σ : q_S) (hx : q_Cx X G RX0 cX0_openSides 5 5) (hr : (q_Xm X).sig.returnType = some .int) {res : Int32} {k4 : Int32 → Int32 → Int32 → Option (Int32)} (hk4 : ∀ (v1 : Int32) (v2 : Int32) (v3 : Int32), k4 v1 v2 v3 = some res → q_Wq X G x 5 (q_MQ X G (q_Qi G x res σ)) 0 0 4 [(0, .ref (G.2.1 + 280)), (1, .int v1), (2, .int v2), (3, .int v3)] [] σ) : ∀ (n : Nat) (v1 : Int32) (v2 : Int32) (v3 : Int32) (v4 : Int32), f_X0_openSides_13 σ k4 n v1 v2 v3 v4 = some res → q_Wq X G x 5 (q_MQ X G (q_Qi G x res σ)) 0 0 13 [(0, .ref (G.2.1 + 280)), (1, .int v1), (2, .int v2), (3, .int v3), (4, .int v4)] [] σ := by
  intro n
  induction n with
  | zero => exact fun _ _ _ _ h => nomatch (show (none : Option (Int32)) = some res from h)
  | succ n ih =>
    intro v1 v2 v3 v4 h
    rw [f_X0_openSides_13] at h
    refine q_iload hx dX0_openSides_13 4 rfl ?_
    refine q_bipush (v := 12) hx dX0_openSides_15 (by decide) ?_
    refine q_icmp_ge hx 50 dX0_openSides_17 (by decide) (fun hc2 => ?_) (fun hc2 => ?_)
    · replace h := (if_pos hc2).symm.trans h
      refine q_iinc hx [(3, .int (v3 + 1)), (0, .ref (G.2.1 + 280)), (1, .int v1), (2, .int v2), (4, .int v4)] dX0_openSides_50 3 rfl rfl (by decide) rfl ?_
      refine q_goto hx 4 dX0_openSides_53 (by decide) ?_
      refine q_sub [1, 2, 3, 0] rfl ?_
      exact hk4 v1 v2 (v3 + 1) h
    · replace h := (if_neg hc2).symm.trans h
      refine q_aload_n hx dX0_openSides_20 0 rfl ?_
      refine q_iload hx dX0_openSides_21 4 rfl ?_
      refine q_iload_n hx dX0_openSides_23 3 rfl ?_
      refine q_callVi (As := [.int v4, .int v3]) (rest := []) hx q_kR0 (c_X0_ownerAt (q_Xl X) G x σ v4 v3) q_ml_X0_40 q_mn_X0_ownerAt q_mi_X0_ownerAt q_se_X0_ownerAt (by decide) rfl (Nat.le_of_ble_eq_true rfl) dX0_openSides_24 (q_ne kd_280 (by decide)) (q_e0 kd_280) rfl rfl rfl ?_
      refine q_iload_n hx dX0_openSides_27 1 rfl ?_
      refine q_icmp_ne hx 44 dX0_openSides_28 (by decide) (fun hc3 => ?_) (fun hc3 => ?_)
      · replace h := (if_neg hc3).symm.trans h
        refine q_iinc hx [(4, .int (v4 + 1)), (0, .ref (G.2.1 + 280)), (1, .int v1), (2, .int v2), (3, .int v3)] dX0_openSides_44 4 rfl rfl (by decide) rfl ?_
        refine q_goto hx 13 dX0_openSides_47 (by decide) ?_
        refine q_sub [1, 2, 3, 4, 0] rfl ?_
        exact ih v1 v2 v3 (v4 + 1) h
      · replace h := (if_pos hc3).symm.trans h
        refine q_iload_n hx dX0_openSides_31 2 rfl ?_
        refine q_iconst (v := 4) hx dX0_openSides_32 (by decide) ?_
        refine q_aload_n hx dX0_openSides_33 0 rfl ?_
        refine q_iload_n hx dX0_openSides_34 1 rfl ?_
        refine q_iload hx dX0_openSides_35 4 rfl ?_
        refine q_iload_n hx dX0_openSides_37 3 rfl ?_
        refine q_bindE h (fun q4 hq4 h => ?_)
        refine q_callVi (As := [.int v1, .int v4, .int v3]) (rest := [.int 4, .int v2]) hx q_kR0 (c_X0_sidesTowards (q_Xl X) G x σ v1 v4 v3 hq4) q_ml_X0_48 q_mn_X0_sidesTowards q_mi_X0_sidesTowards q_se_X0_sidesTowards (by decide) rfl (Nat.le_of_ble_eq_true rfl) dX0_openSides_38 (q_ne kd_280 (by decide)) (q_e0 kd_280) rfl rfl rfl ?_
        refine q_isub hx dX0_openSides_41 ?_
        refine q_iadd hx dX0_openSides_42 ?_
        refine q_istore_n hx [(2, .int (v2 + (4 - q4))), (0, .ref (G.2.1 + 280)), (1, .int v1), (3, .int v3), (4, .int v4)] dX0_openSides_43 (by decide) rfl ?_
        refine q_iinc hx [(4, .int (v4 + 1)), (2, .int (v2 + (4 - q4))), (0, .ref (G.2.1 + 280)), (1, .int v1), (3, .int v3)] dX0_openSides_44 4 rfl rfl (by decide) rfl ?_
        refine q_goto hx 13 dX0_openSides_47 (by decide) ?_
        refine q_sub [2, 3, 1, 4, 0] rfl ?_
        exact ih v1 (v2 + (4 - q4)) v3 (v4 + 1) h
def f_X0_openSides_4 (σ : q_S) : Nat → Int32 → Int32 → Int32 → Option (Int32)
  | 0, _, _, _ => none
  | n + 1, v1, v2, v3 =>
    if 8 ≤ v3 then (some v2) else (f_X0_openSides_13 σ (f_X0_openSides_4 σ n) q_fu v1 v2 v3 0)
set_option maxHeartbeats 4000000 in
set_option maxRecDepth 100000 in
theorem s_X0_openSides_4 {X : q_X} {G : q_G} {x : q_A} (σ : q_S) (hx : q_Cx X G RX0 cX0_openSides 5 5) (hr : (q_Xm X).sig.returnType = some .int) {res : Int32} : ∀ (n : Nat) (v1 : Int32) (v2 : Int32) (v3 : Int32), f_X0_openSides_4 σ n v1 v2 v3 = some res → q_Wq X G x 5 (q_MQ X G (q_Qi G x res σ)) 0 0 4 [(0, .ref (G.2.1 + 280)), (1, .int v1), (2, .int v2), (3, .int v3)] [] σ := by
  intro n
  induction n with
  | zero => exact fun _ _ _ h => nomatch (show (none : Option (Int32)) = some res from h)
  | succ n ih =>
    intro v1 v2 v3 h
    rw [f_X0_openSides_4] at h
    refine q_iload_n hx dX0_openSides_4 3 rfl ?_
    refine q_bipush (v := 8) hx dX0_openSides_5 (by decide) ?_
    refine q_icmp_ge hx 56 dX0_openSides_7 (by decide) (fun hc1 => ?_) (fun hc1 => ?_)
    · replace h := (if_pos hc1).symm.trans h
      refine q_iload_n hx dX0_openSides_56 2 rfl ?_
      cases h
      exact q_iret hx hr dX0_openSides_57
    · replace h := (if_neg hc1).symm.trans h
      refine q_iconst (v := 0) hx dX0_openSides_10 (by decide) ?_
      refine q_istore hx [(4, .int 0), (0, .ref (G.2.1 + 280)), (1, .int v1), (2, .int v2), (3, .int v3)] dX0_openSides_11 (by decide) rfl ?_
      refine q_sub [1, 2, 3, 4, 0] rfl ?_
      exact s_X0_openSides_13 σ hx hr (fun v1 v2 v3 h => ih v1 v2 v3 h) q_fu v1 v2 v3 0 h
def f_X0_openSides (σ : q_S) (a1 : Int32) : Option (Int32) :=
  f_X0_openSides_4 σ q_fu a1 0 0
set_option maxHeartbeats 4000000 in
set_option maxRecDepth 100000 in
theorem c_X0_openSides (l : Launch) (G : q_G) (x : q_A) (σ : q_S) (a1 : Int32)  {res : Int32} (h : f_X0_openSides σ a1 = some res) : q_Met l yX0_openSides cX0_openSides 5 (some .int) 5 G [.ref (G.2.1 + 280), .int a1] σ x (q_Qi G x res σ) := by
  refine q_of (by decide) (Nat.le_of_ble_eq_true rfl) (fun X hl0 hx hr => ?_)
  subst hl0
  have hx : q_Cx X G RX0 cX0_openSides 5 5 := hx
  unfold f_X0_openSides at h
  show q_Wq X G x 5 (q_MQ X G (q_Qi G x res σ)) 0 0 0 [(0, .ref (G.2.1 + 280)), (1, .int a1)] [] σ
  refine q_iconst (v := 0) hx dX0_openSides_0 (by decide) ?_
  refine q_istore_n hx [(2, .int 0), (0, .ref (G.2.1 + 280)), (1, .int a1)] dX0_openSides_1 (by decide) rfl ?_
  refine q_iconst (v := 0) hx dX0_openSides_2 (by decide) ?_
  refine q_istore_n hx [(3, .int 0), (2, .int 0), (0, .ref (G.2.1 + 280)), (1, .int a1)] dX0_openSides_3 (by decide) rfl ?_
  refine q_sub [2, 3, 1, 0] rfl ?_
  exact s_X0_openSides_4 σ hx hr q_fu a1 0 0 h
-- X3_clear
def f_X3_clear (σ : q_S) : q_S :=
  q_up σ 53 3 0
set_option maxHeartbeats 4000000 in
set_option maxRecDepth 100000 in
theorem ca_X3_clear (l : Launch) (G : q_G) (x : q_A) (σ : q_S)   {res : q_S} (h : f_X3_clear σ = res) : q_Met l yX3_clear cX3_clear 1 (none) 1 G [.ref (G.2.1 + 53)] σ x (q_Qv G x res) := by
  refine q_of (by decide) (Nat.le_of_ble_eq_true rfl) (fun X hl0 hx hr => ?_)
  subst hl0
  have hx : q_Cx X G RX3 cX3_clear 1 1 := hx
  unfold f_X3_clear at h
  show q_Wq X G x 1 (q_MQ X G (q_Qv G x res)) 0 0 0 [(0, .ref (G.2.1 + 53))] [] σ
  refine q_aload_n hx dX3_clear_0 0 rfl ?_
  refine q_iconst (v := 0) hx dX3_clear_1 (by decide) ?_
  refine q_put (v := 0) hx q_fl_X3_26 q_fp_3_3 dX3_clear_2 (q_ne kd_53 (by decide)) (q_e3 kd_53) (by rw [q_l3]; decide) rfl rfl (by rw [q_e3 kd_53, q_s3_3]) ?_
  subst h
  exact q_vret hx hr dX3_clear_5
theorem c_X3_clear (l : Launch) (G : q_G) (x : q_A) (σ : q_S)   : q_Met l yX3_clear cX3_clear 1 (none) 1 G [.ref (G.2.1 + 53)] σ x (q_Qv G x (f_X3_clear σ)) := ca_X3_clear l G x σ  rfl
-- X3_note
def f_X3_note (σ : q_S) (z1 : Nat) : Option (q_S) :=
  Option.bind (f_X2_copyFrom σ 55 z1) (fun q1 => some q1)
set_option maxHeartbeats 4000000 in
set_option maxRecDepth 100000 in
theorem c_X3_note (l : Launch) (G : q_G) (x : q_A) (σ : q_S) (z1 : Nat) (hz1 : q_isDream z1) {res : q_S} (h : f_X3_note σ z1 = some res) : q_Met l yX3_note cX3_note 2 (none) 5 G [.ref (G.2.1 + 53), .ref (G.2.1 + z1)] σ x (q_Qv G x res) := by
  refine q_of (by decide) (Nat.le_of_ble_eq_true rfl) (fun X hl0 hx hr => ?_)
  subst hl0
  have hx : q_Cx X G RX3 cX3_note 2 5 := hx
  unfold f_X3_note at h
  show q_Wq X G x 2 (q_MQ X G (q_Qv G x res)) 0 0 0 [(0, .ref (G.2.1 + 53)), (1, .ref (G.2.1 + z1))] [] σ
  refine q_aload_n hx dX3_note_0 0 rfl ?_
  refine q_get (v := .ref (G.2.1 + 55)) hx q_fl_X3_18 dX3_note_1 (q_ne kd_53 (by decide)) (q_e3 kd_53) rfl ?_
  refine q_aload_n hx dX3_note_4 1 rfl ?_
  refine q_bindE h (fun q1 hq1 h => ?_)
  refine q_callVv (As := [.ref (G.2.1 + z1)]) (rest := []) hx q_kR0 (c_X2_copyFrom (q_Xl X) G x σ 55 z1 dr_55 hz1 hq1) q_ml_X3_29 q_mn_X2_copyFrom q_mi_X2_copyFrom q_se_X2_copyFrom (by decide) rfl (Nat.le_of_ble_eq_true rfl) dX3_note_5 (q_ne dr_55.1 (by decide)) (q_e2 dr_55.1) rfl rfl rfl ?_
  cases h
  exact q_vret hx hr dX3_note_8
-- X3_keep
def f_X3_keep (σ : q_S) : Option (q_S) :=
  Option.bind (f_X2_copyFrom σ ((f_X3_pastAt (σ 53 2))) 55) (fun q1 => some (q_up (q_up q1 53 2 (((q1 53 2) + 1) - ((q1 53 2) + 1) / 8 * 8)) 53 3 ((if 8 < (((q_up q1 53 2 (((q1 53 2) + 1) - ((q1 53 2) + 1) / 8 * 8)) 53 3) + 1) then 8 else (((q_up q1 53 2 (((q1 53 2) + 1) - ((q1 53 2) + 1) / 8 * 8)) 53 3) + 1)))))
set_option maxHeartbeats 4000000 in
set_option maxRecDepth 100000 in
theorem c_X3_keep (l : Launch) (G : q_G) (x : q_A) (σ : q_S)   {res : q_S} (h : f_X3_keep σ = some res) : q_Met l yX3_keep cX3_keep 1 (none) 5 G [.ref (G.2.1 + 53)] σ x (q_Qv G x res) := by
  refine q_of (by decide) (Nat.le_of_ble_eq_true rfl) (fun X hl0 hx hr => ?_)
  subst hl0
  have hx : q_Cx X G RX3 cX3_keep 1 5 := hx
  unfold f_X3_keep at h
  show q_Wq X G x 1 (q_MQ X G (q_Qv G x res)) 0 0 0 [(0, .ref (G.2.1 + 53))] [] σ
  refine q_aload_n hx dX3_keep_0 0 rfl ?_
  refine q_aload_n hx dX3_keep_1 0 rfl ?_
  refine q_get (v := .int (σ 53 2)) hx q_fl_X3_22 dX3_keep_2 (q_ne kd_53 (by decide)) (q_e3 kd_53) rfl ?_
  refine q_callVr (As := [.int (σ 53 2)]) (rest := []) hx q_kR0 (c_X3_pastAt (q_Xl X) G x σ (σ 53 2)) q_ml_X3_33 q_mn_X3_pastAt q_mi_X3_pastAt q_se_X3_pastAt (by decide) rfl (Nat.le_of_ble_eq_true rfl) dX3_keep_5 (q_ne kd_53 (by decide)) (q_e3 kd_53) rfl rfl rfl ?_
  refine q_aload_n hx dX3_keep_8 0 rfl ?_
  refine q_get (v := .ref (G.2.1 + 55)) hx q_fl_X3_18 dX3_keep_9 (q_ne kd_53 (by decide)) (q_e3 kd_53) rfl ?_
  refine q_bindE h (fun q1 hq1 h => ?_)
  refine q_callVv (As := [.ref (G.2.1 + 55)]) (rest := []) hx q_kR0 (c_X2_copyFrom (q_Xl X) G x σ ((f_X3_pastAt (σ 53 2))) 55 ((q_pastAt_ok (σ 53 2))) dr_55 hq1) q_ml_X3_29 q_mn_X2_copyFrom q_mi_X2_copyFrom q_se_X2_copyFrom (by decide) rfl (Nat.le_of_ble_eq_true rfl) dX3_keep_12 (q_ne (q_pastAt_ok (σ 53 2)).1 (by decide)) (q_e2 (q_pastAt_ok (σ 53 2)).1) rfl rfl rfl ?_
  refine q_aload_n hx dX3_keep_15 0 rfl ?_
  refine q_aload_n hx dX3_keep_16 0 rfl ?_
  refine q_get (v := .int (q1 53 2)) hx q_fl_X3_22 dX3_keep_17 (q_ne kd_53 (by decide)) (q_e3 kd_53) rfl ?_
  refine q_iconst (v := 1) hx dX3_keep_20 (by decide) ?_
  refine q_iadd hx dX3_keep_21 ?_
  refine q_bipush (v := 8) hx dX3_keep_22 (by decide) ?_
  refine q_irem hx dX3_keep_24 (by decide) ?_
  refine q_put (v := ((q1 53 2) + 1) - ((q1 53 2) + 1) / 8 * 8) hx q_fl_X3_22 q_fp_3_2 dX3_keep_25 (q_ne kd_53 (by decide)) (q_e3 kd_53) (by rw [q_l3]; decide) rfl rfl (by rw [q_e3 kd_53, q_s3_2]) ?_
  refine q_aload_n hx dX3_keep_28 0 rfl ?_
  refine q_aload_n hx dX3_keep_29 0 rfl ?_
  refine q_get (v := .int ((q_up q1 53 2 (((q1 53 2) + 1) - ((q1 53 2) + 1) / 8 * 8)) 53 3)) hx q_fl_X3_26 dX3_keep_30 (q_ne kd_53 (by decide)) (q_e3 kd_53) rfl ?_
  refine q_iconst (v := 1) hx dX3_keep_33 (by decide) ?_
  refine q_iadd hx dX3_keep_34 ?_
  refine q_bipush (v := 8) hx dX3_keep_35 (by decide) ?_
  refine q_mmin hx q_kR0 (by decide) q_mml_X3_37 q_mm_min.1 q_mm_min.2.1 q_mm_min.2.2 (Nat.le_of_ble_eq_true rfl) dX3_keep_37 ?_
  refine q_put (v := (if 8 < (((q_up q1 53 2 (((q1 53 2) + 1) - ((q1 53 2) + 1) / 8 * 8)) 53 3) + 1) then 8 else (((q_up q1 53 2 (((q1 53 2) + 1) - ((q1 53 2) + 1) / 8 * 8)) 53 3) + 1))) hx q_fl_X3_26 q_fp_3_3 dX3_keep_40 (q_ne kd_53 (by decide)) (q_e3 kd_53) (by rw [q_l3]; decide) rfl rfl (by rw [q_e3 kd_53, q_s3_3]) ?_
  cases h
  exact q_vret hx hr dX3_keep_43
-- X3_takeBack
def f_X3_takeBack (σ : q_S) (z1 : Nat) : Option (q_S) :=
  Option.bind (f_X2_copyFrom σ z1 55) (fun q1 => some q1)
set_option maxHeartbeats 4000000 in
set_option maxRecDepth 100000 in
theorem c_X3_takeBack (l : Launch) (G : q_G) (x : q_A) (σ : q_S) (z1 : Nat) (hz1 : q_isDream z1) {res : q_S} (h : f_X3_takeBack σ z1 = some res) : q_Met l yX3_takeBack cX3_takeBack 2 (none) 5 G [.ref (G.2.1 + 53), .ref (G.2.1 + z1)] σ x (q_Qv G x res) := by
  refine q_of (by decide) (Nat.le_of_ble_eq_true rfl) (fun X hl0 hx hr => ?_)
  subst hl0
  have hx : q_Cx X G RX3 cX3_takeBack 2 5 := hx
  unfold f_X3_takeBack at h
  show q_Wq X G x 2 (q_MQ X G (q_Qv G x res)) 0 0 0 [(0, .ref (G.2.1 + 53)), (1, .ref (G.2.1 + z1))] [] σ
  refine q_aload_n hx dX3_takeBack_0 1 rfl ?_
  refine q_aload_n hx dX3_takeBack_1 0 rfl ?_
  refine q_get (v := .ref (G.2.1 + 55)) hx q_fl_X3_18 dX3_takeBack_2 (q_ne kd_53 (by decide)) (q_e3 kd_53) rfl ?_
  refine q_bindE h (fun q1 hq1 h => ?_)
  refine q_callVv (As := [.ref (G.2.1 + 55)]) (rest := []) hx q_kR0 (c_X2_copyFrom (q_Xl X) G x σ z1 55 hz1 dr_55 hq1) q_ml_X3_29 q_mn_X2_copyFrom q_mi_X2_copyFrom q_se_X2_copyFrom (by decide) rfl (Nat.le_of_ble_eq_true rfl) dX3_takeBack_5 (q_ne hz1.1 (by decide)) (q_e2 hz1.1) rfl rfl rfl ?_
  cases h
  exact q_vret hx hr dX3_takeBack_8
-- X3_bringBack
def f_X3_bringBack (σ : q_S) (z1 : Nat) : Option (q_S) :=
  Option.bind (f_X2_copyFrom (q_up (q_up σ 53 2 ((((σ 53 2) + 8) - 1) - (((σ 53 2) + 8) - 1) / 8 * 8)) 53 3 (((q_up σ 53 2 ((((σ 53 2) + 8) - 1) - (((σ 53 2) + 8) - 1) / 8 * 8)) 53 3) - 1)) z1 ((f_X3_pastAt ((q_up (q_up σ 53 2 ((((σ 53 2) + 8) - 1) - (((σ 53 2) + 8) - 1) / 8 * 8)) 53 3 (((q_up σ 53 2 ((((σ 53 2) + 8) - 1) - (((σ 53 2) + 8) - 1) / 8 * 8)) 53 3) - 1)) 53 2)))) (fun q1 => some q1)
set_option maxHeartbeats 4000000 in
set_option maxRecDepth 100000 in
theorem c_X3_bringBack (l : Launch) (G : q_G) (x : q_A) (σ : q_S) (z1 : Nat) (hz1 : q_isDream z1) {res : q_S} (h : f_X3_bringBack σ z1 = some res) : q_Met l yX3_bringBack cX3_bringBack 2 (none) 5 G [.ref (G.2.1 + 53), .ref (G.2.1 + z1)] σ x (q_Qv G x res) := by
  refine q_of (by decide) (Nat.le_of_ble_eq_true rfl) (fun X hl0 hx hr => ?_)
  subst hl0
  have hx : q_Cx X G RX3 cX3_bringBack 2 5 := hx
  unfold f_X3_bringBack at h
  show q_Wq X G x 2 (q_MQ X G (q_Qv G x res)) 0 0 0 [(0, .ref (G.2.1 + 53)), (1, .ref (G.2.1 + z1))] [] σ
  refine q_aload_n hx dX3_bringBack_0 0 rfl ?_
  refine q_aload_n hx dX3_bringBack_1 0 rfl ?_
  refine q_get (v := .int (σ 53 2)) hx q_fl_X3_22 dX3_bringBack_2 (q_ne kd_53 (by decide)) (q_e3 kd_53) rfl ?_
  refine q_bipush (v := 8) hx dX3_bringBack_5 (by decide) ?_
  refine q_iadd hx dX3_bringBack_7 ?_
  refine q_iconst (v := 1) hx dX3_bringBack_8 (by decide) ?_
  refine q_isub hx dX3_bringBack_9 ?_
  refine q_bipush (v := 8) hx dX3_bringBack_10 (by decide) ?_
  refine q_irem hx dX3_bringBack_12 (by decide) ?_
  refine q_put (v := (((σ 53 2) + 8) - 1) - (((σ 53 2) + 8) - 1) / 8 * 8) hx q_fl_X3_22 q_fp_3_2 dX3_bringBack_13 (q_ne kd_53 (by decide)) (q_e3 kd_53) (by rw [q_l3]; decide) rfl rfl (by rw [q_e3 kd_53, q_s3_2]) ?_
  refine q_aload_n hx dX3_bringBack_16 0 rfl ?_
  refine q_dup hx dX3_bringBack_17 rfl ?_
  refine q_get (v := .int ((q_up σ 53 2 ((((σ 53 2) + 8) - 1) - (((σ 53 2) + 8) - 1) / 8 * 8)) 53 3)) hx q_fl_X3_26 dX3_bringBack_18 (q_ne kd_53 (by decide)) (q_e3 kd_53) rfl ?_
  refine q_iconst (v := 1) hx dX3_bringBack_21 (by decide) ?_
  refine q_isub hx dX3_bringBack_22 ?_
  refine q_put (v := ((q_up σ 53 2 ((((σ 53 2) + 8) - 1) - (((σ 53 2) + 8) - 1) / 8 * 8)) 53 3) - 1) hx q_fl_X3_26 q_fp_3_3 dX3_bringBack_23 (q_ne kd_53 (by decide)) (q_e3 kd_53) (by rw [q_l3]; decide) rfl rfl (by rw [q_e3 kd_53, q_s3_3]) ?_
  refine q_aload_n hx dX3_bringBack_26 1 rfl ?_
  refine q_aload_n hx dX3_bringBack_27 0 rfl ?_
  refine q_aload_n hx dX3_bringBack_28 0 rfl ?_
  refine q_get (v := .int ((q_up (q_up σ 53 2 ((((σ 53 2) + 8) - 1) - (((σ 53 2) + 8) - 1) / 8 * 8)) 53 3 (((q_up σ 53 2 ((((σ 53 2) + 8) - 1) - (((σ 53 2) + 8) - 1) / 8 * 8)) 53 3) - 1)) 53 2)) hx q_fl_X3_22 dX3_bringBack_29 (q_ne kd_53 (by decide)) (q_e3 kd_53) rfl ?_
  refine q_callVr (As := [.int ((q_up (q_up σ 53 2 ((((σ 53 2) + 8) - 1) - (((σ 53 2) + 8) - 1) / 8 * 8)) 53 3 (((q_up σ 53 2 ((((σ 53 2) + 8) - 1) - (((σ 53 2) + 8) - 1) / 8 * 8)) 53 3) - 1)) 53 2)]) (rest := [.ref (G.2.1 + z1)]) hx q_kR0 (c_X3_pastAt (q_Xl X) G x (q_up (q_up σ 53 2 ((((σ 53 2) + 8) - 1) - (((σ 53 2) + 8) - 1) / 8 * 8)) 53 3 (((q_up σ 53 2 ((((σ 53 2) + 8) - 1) - (((σ 53 2) + 8) - 1) / 8 * 8)) 53 3) - 1)) ((q_up (q_up σ 53 2 ((((σ 53 2) + 8) - 1) - (((σ 53 2) + 8) - 1) / 8 * 8)) 53 3 (((q_up σ 53 2 ((((σ 53 2) + 8) - 1) - (((σ 53 2) + 8) - 1) / 8 * 8)) 53 3) - 1)) 53 2)) q_ml_X3_33 q_mn_X3_pastAt q_mi_X3_pastAt q_se_X3_pastAt (by decide) rfl (Nat.le_of_ble_eq_true rfl) dX3_bringBack_32 (q_ne kd_53 (by decide)) (q_e3 kd_53) rfl rfl rfl ?_
  refine q_bindE h (fun q1 hq1 h => ?_)
  refine q_callVv (As := [.ref (G.2.1 + (f_X3_pastAt ((q_up (q_up σ 53 2 ((((σ 53 2) + 8) - 1) - (((σ 53 2) + 8) - 1) / 8 * 8)) 53 3 (((q_up σ 53 2 ((((σ 53 2) + 8) - 1) - (((σ 53 2) + 8) - 1) / 8 * 8)) 53 3) - 1)) 53 2)))]) (rest := []) hx q_kR0 (c_X2_copyFrom (q_Xl X) G x (q_up (q_up σ 53 2 ((((σ 53 2) + 8) - 1) - (((σ 53 2) + 8) - 1) / 8 * 8)) 53 3 (((q_up σ 53 2 ((((σ 53 2) + 8) - 1) - (((σ 53 2) + 8) - 1) / 8 * 8)) 53 3) - 1)) z1 ((f_X3_pastAt ((q_up (q_up σ 53 2 ((((σ 53 2) + 8) - 1) - (((σ 53 2) + 8) - 1) / 8 * 8)) 53 3 (((q_up σ 53 2 ((((σ 53 2) + 8) - 1) - (((σ 53 2) + 8) - 1) / 8 * 8)) 53 3) - 1)) 53 2))) hz1 ((q_pastAt_ok ((q_up (q_up σ 53 2 ((((σ 53 2) + 8) - 1) - (((σ 53 2) + 8) - 1) / 8 * 8)) 53 3 (((q_up σ 53 2 ((((σ 53 2) + 8) - 1) - (((σ 53 2) + 8) - 1) / 8 * 8)) 53 3) - 1)) 53 2))) hq1) q_ml_X3_29 q_mn_X2_copyFrom q_mi_X2_copyFrom q_se_X2_copyFrom (by decide) rfl (Nat.le_of_ble_eq_true rfl) dX3_bringBack_35 (q_ne hz1.1 (by decide)) (q_e2 hz1.1) rfl rfl rfl ?_
  cases h
  exact q_vret hx hr dX3_bringBack_38
