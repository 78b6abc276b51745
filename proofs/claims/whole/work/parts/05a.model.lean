-- X10_thrown
def f_X10_thrown (σ : q_S) : Int32 :=
  σ 292 4
set_option maxHeartbeats 4000000 in
set_option maxRecDepth 100000 in
theorem ca_X10_thrown (l : Launch) (G : q_G) (x : q_A) (σ : q_S)   {res : Int32} (h : f_X10_thrown σ = res) : q_Met l yX10_thrown cX10_thrown 1 (some .int) 1 G [.ref (G.2.1 + 292)] σ x (q_Qi G x res σ) := by
  refine q_of (by decide) (Nat.le_of_ble_eq_true rfl) (fun X hl0 hx hr => ?_)
  subst hl0
  have hx : q_Cx X G RX10 cX10_thrown 1 1 := hx
  unfold f_X10_thrown at h
  show q_Wq X G x 1 (q_MQ X G (q_Qi G x res σ)) 0 0 0 [(0, .ref (G.2.1 + 292))] [] σ
  refine q_aload_n hx dX10_thrown_0 0 rfl ?_
  refine q_get (v := .int (σ 292 4)) hx q_fl_X10_22 dX10_thrown_1 (q_ne kd_292 (by decide)) (q_e10 kd_292) rfl ?_
  subst h
  exact q_iret hx hr dX10_thrown_4
theorem c_X10_thrown (l : Launch) (G : q_G) (x : q_A) (σ : q_S)   : q_Met l yX10_thrown cX10_thrown 1 (some .int) 1 G [.ref (G.2.1 + 292)] σ x (q_Qi G x (f_X10_thrown σ) σ) := ca_X10_thrown l G x σ  rfl
-- X10_in
def f_X10_in (a0 : Int32) (a1 : Int32) (a2 : Int32) : Int32 :=
  if a0 < a1 then (0) else (if a2 < a0 then (0) else (1))
set_option maxHeartbeats 4000000 in
set_option maxRecDepth 100000 in
theorem ca_X10_in (l : Launch) (G : q_G) (x : q_A) (σ : q_S) (a0 : Int32) (a1 : Int32) (a2 : Int32)  {res : Int32} (h : f_X10_in a0 a1 a2 = res) : q_Met l yX10_in cX10_in 3 (some .boolean) 1 G [.int a0, .int a1, .int a2] σ x (q_Qi G x res σ) := by
  refine q_of (by decide) (Nat.le_of_ble_eq_true rfl) (fun X hl0 hx hr => ?_)
  subst hl0
  have hx : q_Cx X G RX10 cX10_in 3 1 := hx
  unfold f_X10_in at h
  show q_Wq X G x 3 (q_MQ X G (q_Qi G x res σ)) 0 0 0 [(0, .int a0), (1, .int a1), (2, .int a2)] [] σ
  refine q_iload_n hx dX10_in_0 0 rfl ?_
  refine q_iload_n hx dX10_in_1 1 rfl ?_
  refine q_icmp_lt hx 14 dX10_in_2 (by decide) (fun hc1 => ?_) (fun hc1 => ?_)
  · replace h := (if_pos hc1).symm.trans h
    refine q_iconst (v := 0) hx dX10_in_14 (by decide) ?_
    subst h
    exact q_zret hx hr rfl dX10_in_15
  · replace h := (if_neg hc1).symm.trans h
    refine q_iload_n hx dX10_in_5 0 rfl ?_
    refine q_iload_n hx dX10_in_6 2 rfl ?_
    refine q_icmp_gt hx 14 dX10_in_7 (by decide) (fun hc2 => ?_) (fun hc2 => ?_)
    · replace h := (if_pos hc2).symm.trans h
      refine q_iconst (v := 0) hx dX10_in_14 (by decide) ?_
      subst h
      exact q_zret hx hr rfl dX10_in_15
    · replace h := (if_neg hc2).symm.trans h
      refine q_iconst (v := 1) hx dX10_in_10 (by decide) ?_
      refine q_goto hx 15 dX10_in_11 (by decide) ?_
      subst h
      exact q_zret hx hr rfl dX10_in_15
theorem c_X10_in (l : Launch) (G : q_G) (x : q_A) (σ : q_S) (a0 : Int32) (a1 : Int32) (a2 : Int32)  : q_Met l yX10_in cX10_in 3 (some .boolean) 1 G [.int a0, .int a1, .int a2] σ x (q_Qi G x (f_X10_in a0 a1 a2) σ) := ca_X10_in l G x σ a0 a1 a2 rfl
-- X10_copies
def f_X10_copies_3 (c0 : Nat) (N0 : Nat) (c2 : Nat) (N2 : Nat) : Nat → Int32 → Int32 → Int32 → q_S → Option (q_S)
  | 0, _, _, _, _ => none
  | n + 1, v1, v3, v4, σ =>
    if 220 ≤ v4 then (some σ) else (if ((v1 + v4) < 0 ∨ N0 ≤ (v1 + v4).toNatClampNeg) then none else if ((v3 + v4) < 0 ∨ N2 ≤ (v3 + v4).toNatClampNeg) then none else f_X10_copies_3 c0 N0 c2 N2 n v1 v3 (v4 + 1) (q_up σ c2 (v3 + v4).toNatClampNeg (σ c0 (v1 + v4).toNatClampNeg)))
set_option maxHeartbeats 4000000 in
set_option maxRecDepth 100000 in
theorem s_X10_copies_3 {X : q_X} {G : q_G} {x : q_A} (c0 : Nat) (N0 : Nat) (c2 : Nat) (N2 : Nat) (hx : q_Cx X G RX10 cX10_copies 5 1) (hr : (q_Xm X).sig.returnType = none) (hc0 : q_kd c0 = 10000 + N0) (hN0 : N0 < 10000) (hc2 : q_kd c2 = 10000 + N2) (hN2 : N2 < 10000) {res : q_S} : ∀ (n : Nat) (v1 : Int32) (v3 : Int32) (v4 : Int32) (σ : q_S), f_X10_copies_3 c0 N0 c2 N2 n v1 v3 v4 σ = some res → q_Wq X G x 5 (q_MQ X G (q_Qv G x res)) 0 0 3 [(0, .ref (G.2.1 + c0)), (1, .int v1), (2, .ref (G.2.1 + c2)), (3, .int v3), (4, .int v4)] [] σ := by
  intro n
  induction n with
  | zero => exact fun _ _ _ _ h => nomatch (show (none : Option (q_S)) = some res from h)
  | succ n ih =>
    intro v1 v3 v4 σ h
    rw [f_X10_copies_3] at h
    refine q_iload hx dX10_copies_3 4 rfl ?_
    refine q_sipush (v := 220) hx dX10_copies_5 (by decide) ?_
    refine q_icmp_ge hx 29 dX10_copies_8 (by decide) (fun hc1 => ?_) (fun hc1 => ?_)
    · replace h := (if_pos hc1).symm.trans h
      cases h
      exact q_vret hx hr dX10_copies_29
    · replace h := (if_neg hc1).symm.trans h
      refine q_aload_n hx dX10_copies_11 2 rfl ?_
      refine q_iload_n hx dX10_copies_12 3 rfl ?_
      refine q_iload hx dX10_copies_13 4 rfl ?_
      refine q_iadd hx dX10_copies_15 ?_
      refine q_aload_n hx dX10_copies_16 0 rfl ?_
      refine q_iload_n hx dX10_copies_17 1 rfl ?_
      refine q_iload hx dX10_copies_18 4 rfl ?_
      refine q_iadd hx dX10_copies_20 ?_
      by_cases hg2 : ((v1 + v4) < 0 ∨ N0 ≤ (v1 + v4).toNatClampNeg)
      · rw [if_pos hg2] at h; exact nomatch h
      replace h := (if_neg hg2).symm.trans h
      refine q_iald (N := N0) hx dX10_copies_21 hc0 (by first | decide | assumption) hg2 ?_
      by_cases hg3 : ((v3 + v4) < 0 ∨ N2 ≤ (v3 + v4).toNatClampNeg)
      · rw [if_pos hg3] at h; exact nomatch h
      replace h := (if_neg hg3).symm.trans h
      refine q_iast (N := N2) hx dX10_copies_22 hc2 (by first | decide | assumption) hg3 ?_
      refine q_iinc hx [(4, .int (v4 + 1)), (0, .ref (G.2.1 + c0)), (1, .int v1), (2, .ref (G.2.1 + c2)), (3, .int v3)] dX10_copies_23 4 rfl rfl (by decide) rfl ?_
      refine q_goto hx 3 dX10_copies_26 (by decide) ?_
      refine q_sub [1, 2, 3, 4, 0] rfl ?_
      exact ih v1 v3 (v4 + 1) (q_up σ c2 (v3 + v4).toNatClampNeg (σ c0 (v1 + v4).toNatClampNeg)) h
def f_X10_copies (σ : q_S) (c0 : Nat) (N0 : Nat) (a1 : Int32) (c2 : Nat) (N2 : Nat) (a3 : Int32) : Option (q_S) :=
  f_X10_copies_3 c0 N0 c2 N2 q_fu a1 a3 0 σ
set_option maxHeartbeats 4000000 in
set_option maxRecDepth 100000 in
theorem c_X10_copies (l : Launch) (G : q_G) (x : q_A) (σ : q_S) (c0 : Nat) (N0 : Nat) (a1 : Int32) (c2 : Nat) (N2 : Nat) (a3 : Int32) (hc0 : q_kd c0 = 10000 + N0) (hN0 : N0 < 10000) (hc2 : q_kd c2 = 10000 + N2) (hN2 : N2 < 10000) {res : q_S} (h : f_X10_copies σ c0 N0 a1 c2 N2 a3 = some res) : q_Met l yX10_copies cX10_copies 5 (none) 1 G [.ref (G.2.1 + c0), .int a1, .ref (G.2.1 + c2), .int a3] σ x (q_Qv G x res) := by
  refine q_of (by decide) (Nat.le_of_ble_eq_true rfl) (fun X hl0 hx hr => ?_)
  subst hl0
  have hx : q_Cx X G RX10 cX10_copies 5 1 := hx
  unfold f_X10_copies at h
  show q_Wq X G x 5 (q_MQ X G (q_Qv G x res)) 0 0 0 [(0, .ref (G.2.1 + c0)), (1, .int a1), (2, .ref (G.2.1 + c2)), (3, .int a3)] [] σ
  refine q_iconst (v := 0) hx dX10_copies_0 (by decide) ?_
  refine q_istore hx [(4, .int 0), (0, .ref (G.2.1 + c0)), (1, .int a1), (2, .ref (G.2.1 + c2)), (3, .int a3)] dX10_copies_1 (by decide) rfl ?_
  refine q_sub [1, 2, 3, 4, 0] rfl ?_
  exact s_X10_copies_3 c0 N0 c2 N2 hx hr hc0 hN0 hc2 hN2 q_fu a1 a3 0 σ h
-- X10_no
def f_X10_no (σ : q_S) (a1 : Int32) : Int32 × q_S :=
  (0, q_up σ 292 4 a1)
set_option maxHeartbeats 4000000 in
set_option maxRecDepth 100000 in
theorem ca_X10_no (l : Launch) (G : q_G) (x : q_A) (σ : q_S) (a1 : Int32)  {res : Int32 × q_S} (h : f_X10_no σ a1 = res) : q_Met l yX10_no cX10_no 2 (some .int) 1 G [.ref (G.2.1 + 292), .int a1] σ x (q_Qi G x res.1 res.2) := by
  refine q_of (by decide) (Nat.le_of_ble_eq_true rfl) (fun X hl0 hx hr => ?_)
  subst hl0
  have hx : q_Cx X G RX10 cX10_no 2 1 := hx
  unfold f_X10_no at h
  show q_Wq X G x 2 (q_MQ X G (q_Qi G x res.1 res.2)) 0 0 0 [(0, .ref (G.2.1 + 292)), (1, .int a1)] [] σ
  refine q_aload_n hx dX10_no_0 0 rfl ?_
  refine q_iload_n hx dX10_no_1 1 rfl ?_
  refine q_put (v := a1) hx q_fl_X10_22 q_fp_10_4 dX10_no_2 (q_ne kd_292 (by decide)) (q_e10 kd_292) (by rw [q_l10]; decide) rfl rfl (by rw [q_e10 kd_292, q_s10_4]) ?_
  refine q_iconst (v := 0) hx dX10_no_5 (by decide) ?_
  subst h
  exact q_iret hx hr dX10_no_6
theorem c_X10_no (l : Launch) (G : q_G) (x : q_A) (σ : q_S) (a1 : Int32)  : q_Met l yX10_no cX10_no 2 (some .int) 1 G [.ref (G.2.1 + 292), .int a1] σ x (q_Qi G x (f_X10_no σ a1).1 (f_X10_no σ a1).2) := ca_X10_no l G x σ a1 rfl
-- X10_isBad
def f_X10_isBad (σ : q_S) (a1 : Int32) (a2 : Int32) : Int32 × q_S :=
  (1, q_up (q_up σ 292 6 a1) 292 7 a2)
set_option maxHeartbeats 4000000 in
set_option maxRecDepth 100000 in
theorem ca_X10_isBad (l : Launch) (G : q_G) (x : q_A) (σ : q_S) (a1 : Int32) (a2 : Int32)  {res : Int32 × q_S} (h : f_X10_isBad σ a1 a2 = res) : q_Met l yX10_isBad cX10_isBad 3 (some .boolean) 1 G [.ref (G.2.1 + 292), .int a1, .int a2] σ x (q_Qi G x res.1 res.2) := by
  refine q_of (by decide) (Nat.le_of_ble_eq_true rfl) (fun X hl0 hx hr => ?_)
  subst hl0
  have hx : q_Cx X G RX10 cX10_isBad 3 1 := hx
  unfold f_X10_isBad at h
  show q_Wq X G x 3 (q_MQ X G (q_Qi G x res.1 res.2)) 0 0 0 [(0, .ref (G.2.1 + 292)), (1, .int a1), (2, .int a2)] [] σ
  refine q_aload_n hx dX10_isBad_0 0 rfl ?_
  refine q_iload_n hx dX10_isBad_1 1 rfl ?_
  refine q_put (v := a1) hx q_fl_X10_29 q_fp_10_6 dX10_isBad_2 (q_ne kd_292 (by decide)) (q_e10 kd_292) (by rw [q_l10]; decide) rfl rfl (by rw [q_e10 kd_292, q_s10_6]) ?_
  refine q_aload_n hx dX10_isBad_5 0 rfl ?_
  refine q_iload_n hx dX10_isBad_6 2 rfl ?_
  refine q_put (v := a2) hx q_fl_X10_32 q_fp_10_7 dX10_isBad_7 (q_ne kd_292 (by decide)) (q_e10 kd_292) (by rw [q_l10]; decide) rfl rfl (by rw [q_e10 kd_292, q_s10_7]) ?_
  refine q_iconst (v := 1) hx dX10_isBad_10 (by decide) ?_
  subst h
  exact q_zret (v := 1) hx hr rfl dX10_isBad_11
theorem c_X10_isBad (l : Launch) (G : q_G) (x : q_A) (σ : q_S) (a1 : Int32) (a2 : Int32)  : q_Met l yX10_isBad cX10_isBad 3 (some .boolean) 1 G [.ref (G.2.1 + 292), .int a1, .int a2] σ x (q_Qi G x (f_X10_isBad σ a1 a2).1 (f_X10_isBad σ a1 a2).2) := ca_X10_isBad l G x σ a1 a2 rfl
-- X10_refused
def f_X10_refused (σ : q_S) (a1 : Int32) : Int32 × q_S :=
  ((f_X10_no (q_up (q_up (q_up σ 292 8 (σ 292 6)) 292 9 ((q_up σ 292 8 (σ 292 6)) 292 7)) 292 10 0) a1).1, (f_X10_no (q_up (q_up (q_up σ 292 8 (σ 292 6)) 292 9 ((q_up σ 292 8 (σ 292 6)) 292 7)) 292 10 0) a1).2)
set_option maxHeartbeats 4000000 in
set_option maxRecDepth 100000 in
theorem ca_X10_refused (l : Launch) (G : q_G) (x : q_A) (σ : q_S) (a1 : Int32)  {res : Int32 × q_S} (h : f_X10_refused σ a1 = res) : q_Met l yX10_refused cX10_refused 2 (some .int) 2 G [.ref (G.2.1 + 292), .int a1] σ x (q_Qi G x res.1 res.2) := by
  refine q_of (by decide) (Nat.le_of_ble_eq_true rfl) (fun X hl0 hx hr => ?_)
  subst hl0
  have hx : q_Cx X G RX10 cX10_refused 2 2 := hx
  unfold f_X10_refused at h
  show q_Wq X G x 2 (q_MQ X G (q_Qi G x res.1 res.2)) 0 0 0 [(0, .ref (G.2.1 + 292)), (1, .int a1)] [] σ
  refine q_aload_n hx dX10_refused_0 0 rfl ?_
  refine q_aload_n hx dX10_refused_1 0 rfl ?_
  refine q_get (v := .int (σ 292 6)) hx q_fl_X10_29 dX10_refused_2 (q_ne kd_292 (by decide)) (q_e10 kd_292) rfl ?_
  refine q_put (v := σ 292 6) hx q_fl_X10_35 q_fp_10_8 dX10_refused_5 (q_ne kd_292 (by decide)) (q_e10 kd_292) (by rw [q_l10]; decide) rfl rfl (by rw [q_e10 kd_292, q_s10_8]) ?_
  refine q_aload_n hx dX10_refused_8 0 rfl ?_
  refine q_aload_n hx dX10_refused_9 0 rfl ?_
  refine q_get (v := .int ((q_up σ 292 8 (σ 292 6)) 292 7)) hx q_fl_X10_32 dX10_refused_10 (q_ne kd_292 (by decide)) (q_e10 kd_292) rfl ?_
  refine q_put (v := (q_up σ 292 8 (σ 292 6)) 292 7) hx q_fl_X10_38 q_fp_10_9 dX10_refused_13 (q_ne kd_292 (by decide)) (q_e10 kd_292) (by rw [q_l10]; decide) rfl rfl (by rw [q_e10 kd_292, q_s10_9]) ?_
  refine q_aload_n hx dX10_refused_16 0 rfl ?_
  refine q_iconst (v := 0) hx dX10_refused_17 (by decide) ?_
  refine q_put (v := 0) hx q_fl_X10_41 q_fp_10_10 dX10_refused_18 (q_ne kd_292 (by decide)) (q_e10 kd_292) (by rw [q_l10]; decide) rfl rfl (by rw [q_e10 kd_292, q_s10_10]) ?_
  refine q_aload_n hx dX10_refused_21 0 rfl ?_
  refine q_iload_n hx dX10_refused_22 1 rfl ?_
  refine q_callVi (As := [.int a1]) (rest := []) hx q_kR0 (c_X10_no (q_Xl X) G x (q_up (q_up (q_up σ 292 8 (σ 292 6)) 292 9 ((q_up σ 292 8 (σ 292 6)) 292 7)) 292 10 0) a1) q_ml_X10_103 q_mn_X10_no q_mi_X10_no q_se_X10_no (by decide) rfl (Nat.le_of_ble_eq_true rfl) dX10_refused_23 (q_ne kd_292 (by decide)) (q_e10 kd_292) rfl rfl rfl ?_
  subst h
  exact q_iret hx hr dX10_refused_26
theorem c_X10_refused (l : Launch) (G : q_G) (x : q_A) (σ : q_S) (a1 : Int32)  : q_Met l yX10_refused cX10_refused 2 (some .int) 2 G [.ref (G.2.1 + 292), .int a1] σ x (q_Qi G x (f_X10_refused σ a1).1 (f_X10_refused σ a1).2) := ca_X10_refused l G x σ a1 rfl
-- X10_begins
def f_X10_begins (σ : q_S) : Option (q_S) :=
  Option.bind (f_X10_copies (q_up σ 292 4 0) 293 220 0 294 220 0) (fun q1 => some q1)
set_option maxHeartbeats 4000000 in
set_option maxRecDepth 100000 in
theorem c_X10_begins (l : Launch) (G : q_G) (x : q_A) (σ : q_S)   {res : q_S} (h : f_X10_begins σ = some res) : q_Met l yX10_begins cX10_begins 1 (none) 2 G [.ref (G.2.1 + 292)] σ x (q_Qv G x res) := by
  refine q_of (by decide) (Nat.le_of_ble_eq_true rfl) (fun X hl0 hx hr => ?_)
  subst hl0
  have hx : q_Cx X G RX10 cX10_begins 1 2 := hx
  unfold f_X10_begins at h
  show q_Wq X G x 1 (q_MQ X G (q_Qv G x res)) 0 0 0 [(0, .ref (G.2.1 + 292))] [] σ
  refine q_aload_n hx dX10_begins_0 0 rfl ?_
  refine q_iconst (v := 0) hx dX10_begins_1 (by decide) ?_
  refine q_put (v := 0) hx q_fl_X10_22 q_fp_10_4 dX10_begins_2 (q_ne kd_292 (by decide)) (q_e10 kd_292) (by rw [q_l10]; decide) rfl rfl (by rw [q_e10 kd_292, q_s10_4]) ?_
  refine q_aload_n hx dX10_begins_5 0 rfl ?_
  refine q_get (v := .ref (G.2.1 + 293)) hx q_fl_X10_7 dX10_begins_6 (q_ne kd_292 (by decide)) (q_e10 kd_292) rfl ?_
  refine q_iconst (v := 0) hx dX10_begins_9 (by decide) ?_
  refine q_aload_n hx dX10_begins_10 0 rfl ?_
  refine q_get (v := .ref (G.2.1 + 294)) hx q_fl_X10_13 dX10_begins_11 (q_ne kd_292 (by decide)) (q_e10 kd_292) rfl ?_
  refine q_iconst (v := 0) hx dX10_begins_14 (by decide) ?_
  refine q_bindE h (fun q1 hq1 h => ?_)
  refine q_callSv (As := [.ref (G.2.1 + 293), .int 0, .ref (G.2.1 + 294), .int 0]) (rest := []) hx q_kR0 (c_X10_copies (q_Xl X) G x (q_up σ 292 4 0) 293 220 0 294 220 0 kd_293 (by decide) kd_294 (by decide) hq1) q_ml_X10_107 q_mn_X10_copies q_ms_X10_copies (by decide) rfl (Nat.le_of_ble_eq_true rfl) dX10_begins_15 rfl ?_
  cases h
  exact q_vret hx hr dX10_begins_18
-- X10_keeps
def f_X10_keeps_56 (v1 : Int32) (σ : q_S) : Option (Int32 × q_S) :=
  Option.bind (f_X10_copies σ 294 220 0 296 1760 (220 * (σ 292 5))) (fun q2 => some ((v1, q_up q2 292 5 ((q2 292 5) + 1))))
set_option maxHeartbeats 4000000 in
set_option maxRecDepth 100000 in
theorem s_X10_keeps_56 {X : q_X} {G : q_G} {x : q_A} (hx : q_Cx X G RX10 cX10_keeps 3 2) (hr : (q_Xm X).sig.returnType = some .int) {res : Int32 × q_S} : ∀ (v1 : Int32) (σ : q_S), f_X10_keeps_56 v1 σ = some res → q_Wq X G x 3 (q_MQ X G (q_Qi G x res.1 res.2)) 0 0 56 [(0, .ref (G.2.1 + 292)), (1, .int v1)] [] σ := by
  intro v1 σ h
  unfold f_X10_keeps_56 at h
  refine q_aload_n hx dX10_keeps_56 0 rfl ?_
  refine q_get (v := .ref (G.2.1 + 294)) hx q_fl_X10_13 dX10_keeps_57 (q_ne kd_292 (by decide)) (q_e10 kd_292) rfl ?_
  refine q_iconst (v := 0) hx dX10_keeps_60 (by decide) ?_
  refine q_aload_n hx dX10_keeps_61 0 rfl ?_
  refine q_get (v := .ref (G.2.1 + 296)) hx q_fl_X10_19 dX10_keeps_62 (q_ne kd_292 (by decide)) (q_e10 kd_292) rfl ?_
  refine q_sipush (v := 220) hx dX10_keeps_65 (by decide) ?_
  refine q_aload_n hx dX10_keeps_68 0 rfl ?_
  refine q_get (v := .int (σ 292 5)) hx q_fl_X10_26 dX10_keeps_69 (q_ne kd_292 (by decide)) (q_e10 kd_292) rfl ?_
  refine q_imul hx dX10_keeps_72 ?_
  refine q_bindE h (fun q2 hq2 h => ?_)
  refine q_callSv (As := [.ref (G.2.1 + 294), .int 0, .ref (G.2.1 + 296), .int (220 * (σ 292 5))]) (rest := []) hx q_kR0 (c_X10_copies (q_Xl X) G x σ 294 220 0 296 1760 (220 * (σ 292 5)) kd_294 (by decide) kd_296 (by decide) hq2) q_ml_X10_107 q_mn_X10_copies q_ms_X10_copies (by decide) rfl (Nat.le_of_ble_eq_true rfl) dX10_keeps_73 rfl ?_
  refine q_aload_n hx dX10_keeps_76 0 rfl ?_
  refine q_dup hx dX10_keeps_77 rfl ?_
  refine q_get (v := .int (q2 292 5)) hx q_fl_X10_26 dX10_keeps_78 (q_ne kd_292 (by decide)) (q_e10 kd_292) rfl ?_
  refine q_iconst (v := 1) hx dX10_keeps_81 (by decide) ?_
  refine q_iadd hx dX10_keeps_82 ?_
  refine q_put (v := (q2 292 5) + 1) hx q_fl_X10_26 q_fp_10_5 dX10_keeps_83 (q_ne kd_292 (by decide)) (q_e10 kd_292) (by rw [q_l10]; decide) rfl rfl (by rw [q_e10 kd_292, q_s10_5]) ?_
  refine q_iload_n hx dX10_keeps_86 1 rfl ?_
  cases h
  exact q_iret hx hr dX10_keeps_87
def f_X10_keeps_11 : Nat → Int32 → Int32 → q_S → Option (Int32 × q_S)
  | 0, _, _, _ => none
  | n + 1, v1, v2, σ =>
    if 8 ≤ v2 then (f_X10_keeps_56 v1 (q_up σ 292 5 ((σ 292 5) - 1))) else (Option.bind (f_X10_copies σ 296 1760 (220 * v2) 296 1760 (220 * (v2 - 1))) (fun q4 => f_X10_keeps_11 n v1 (v2 + 1) q4))
set_option maxHeartbeats 4000000 in
set_option maxRecDepth 100000 in
theorem s_X10_keeps_11 {X : q_X} {G : q_G} {x : q_A} (hx : q_Cx X G RX10 cX10_keeps 3 2) (hr : (q_Xm X).sig.returnType = some .int) {res : Int32 × q_S} : ∀ (n : Nat) (v1 : Int32) (v2 : Int32) (σ : q_S), f_X10_keeps_11 n v1 v2 σ = some res → q_Wq X G x 3 (q_MQ X G (q_Qi G x res.1 res.2)) 0 0 11 [(0, .ref (G.2.1 + 292)), (1, .int v1), (2, .int v2)] [] σ := by
  intro n
  induction n with
  | zero => exact fun _ _ _ h => nomatch (show (none : Option (Int32 × q_S)) = some res from h)
  | succ n ih =>
    intro v1 v2 σ h
    rw [f_X10_keeps_11] at h
    refine q_iload_n hx dX10_keeps_11 2 rfl ?_
    refine q_bipush (v := 8) hx dX10_keeps_12 (by decide) ?_
    refine q_icmp_ge hx 46 dX10_keeps_14 (by decide) (fun hc3 => ?_) (fun hc3 => ?_)
    · replace h := (if_pos hc3).symm.trans h
      refine q_aload_n hx dX10_keeps_46 0 rfl ?_
      refine q_dup hx dX10_keeps_47 rfl ?_
      refine q_get (v := .int (σ 292 5)) hx q_fl_X10_26 dX10_keeps_48 (q_ne kd_292 (by decide)) (q_e10 kd_292) rfl ?_
      refine q_iconst (v := 1) hx dX10_keeps_51 (by decide) ?_
      refine q_isub hx dX10_keeps_52 ?_
      refine q_put (v := (σ 292 5) - 1) hx q_fl_X10_26 q_fp_10_5 dX10_keeps_53 (q_ne kd_292 (by decide)) (q_e10 kd_292) (by rw [q_l10]; decide) rfl rfl (by rw [q_e10 kd_292, q_s10_5]) ?_
      refine q_sub [0, 1] rfl ?_
      exact s_X10_keeps_56 hx hr v1 (q_up σ 292 5 ((σ 292 5) - 1)) h
    · replace h := (if_neg hc3).symm.trans h
      refine q_aload_n hx dX10_keeps_17 0 rfl ?_
      refine q_get (v := .ref (G.2.1 + 296)) hx q_fl_X10_19 dX10_keeps_18 (q_ne kd_292 (by decide)) (q_e10 kd_292) rfl ?_
      refine q_sipush (v := 220) hx dX10_keeps_21 (by decide) ?_
      refine q_iload_n hx dX10_keeps_24 2 rfl ?_
      refine q_imul hx dX10_keeps_25 ?_
      refine q_aload_n hx dX10_keeps_26 0 rfl ?_
      refine q_get (v := .ref (G.2.1 + 296)) hx q_fl_X10_19 dX10_keeps_27 (q_ne kd_292 (by decide)) (q_e10 kd_292) rfl ?_
      refine q_sipush (v := 220) hx dX10_keeps_30 (by decide) ?_
      refine q_iload_n hx dX10_keeps_33 2 rfl ?_
      refine q_iconst (v := 1) hx dX10_keeps_34 (by decide) ?_
      refine q_isub hx dX10_keeps_35 ?_
      refine q_imul hx dX10_keeps_36 ?_
      refine q_bindE h (fun q4 hq4 h => ?_)
      refine q_callSv (As := [.ref (G.2.1 + 296), .int (220 * v2), .ref (G.2.1 + 296), .int (220 * (v2 - 1))]) (rest := []) hx q_kR0 (c_X10_copies (q_Xl X) G x σ 296 1760 (220 * v2) 296 1760 (220 * (v2 - 1)) kd_296 (by decide) kd_296 (by decide) hq4) q_ml_X10_107 q_mn_X10_copies q_ms_X10_copies (by decide) rfl (Nat.le_of_ble_eq_true rfl) dX10_keeps_37 rfl ?_
      refine q_iinc hx [(2, .int (v2 + 1)), (0, .ref (G.2.1 + 292)), (1, .int v1)] dX10_keeps_40 2 rfl rfl (by decide) rfl ?_
      refine q_goto hx 11 dX10_keeps_43 (by decide) ?_
      refine q_sub [1, 2, 0] rfl ?_
      exact ih v1 (v2 + 1) q4 h
def f_X10_keeps (σ : q_S) (a1 : Int32) : Option (Int32 × q_S) :=
  if (σ 292 5) = 8 then (f_X10_keeps_11 q_fu a1 1 σ) else (f_X10_keeps_56 a1 σ)
set_option maxHeartbeats 4000000 in
set_option maxRecDepth 100000 in
theorem c_X10_keeps (l : Launch) (G : q_G) (x : q_A) (σ : q_S) (a1 : Int32)  {res : Int32 × q_S} (h : f_X10_keeps σ a1 = some res) : q_Met l yX10_keeps cX10_keeps 3 (some .int) 2 G [.ref (G.2.1 + 292), .int a1] σ x (q_Qi G x res.1 res.2) := by
  refine q_of (by decide) (Nat.le_of_ble_eq_true rfl) (fun X hl0 hx hr => ?_)
  subst hl0
  have hx : q_Cx X G RX10 cX10_keeps 3 2 := hx
  unfold f_X10_keeps at h
  show q_Wq X G x 3 (q_MQ X G (q_Qi G x res.1 res.2)) 0 0 0 [(0, .ref (G.2.1 + 292)), (1, .int a1)] [] σ
  refine q_aload_n hx dX10_keeps_0 0 rfl ?_
  refine q_get (v := .int (σ 292 5)) hx q_fl_X10_26 dX10_keeps_1 (q_ne kd_292 (by decide)) (q_e10 kd_292) rfl ?_
  refine q_bipush (v := 8) hx dX10_keeps_4 (by decide) ?_
  refine q_icmp_ne hx 56 dX10_keeps_6 (by decide) (fun hc1 => ?_) (fun hc1 => ?_)
  · replace h := (if_neg hc1).symm.trans h
    refine q_sub [0, 1] rfl ?_
    exact s_X10_keeps_56 hx hr a1 σ h
  · replace h := (if_pos hc1).symm.trans h
    refine q_iconst (v := 1) hx dX10_keeps_9 (by decide) ?_
    refine q_istore_n hx [(2, .int 1), (0, .ref (G.2.1 + 292)), (1, .int a1)] dX10_keeps_10 (by decide) rfl ?_
    refine q_sub [1, 2, 0] rfl ?_
    exact s_X10_keeps_11 hx hr q_fu a1 1 σ h
-- X10_sv
def f_X10_sv (σ : q_S) (a1 : Int32) (a2 : Int32) : Option (Int32) :=
  if (((30 + (37 * a1)) + a2) < 0 ∨ 220 ≤ ((30 + (37 * a1)) + a2).toNatClampNeg) then none else some (σ 293 ((30 + (37 * a1)) + a2).toNatClampNeg)
set_option maxHeartbeats 4000000 in
set_option maxRecDepth 100000 in
theorem c_X10_sv (l : Launch) (G : q_G) (x : q_A) (σ : q_S) (a1 : Int32) (a2 : Int32)  {res : Int32} (h : f_X10_sv σ a1 a2 = some res) : q_Met l yX10_sv cX10_sv 3 (some .int) 1 G [.ref (G.2.1 + 292), .int a1, .int a2] σ x (q_Qi G x res σ) := by
  refine q_of (by decide) (Nat.le_of_ble_eq_true rfl) (fun X hl0 hx hr => ?_)
  subst hl0
  have hx : q_Cx X G RX10 cX10_sv 3 1 := hx
  unfold f_X10_sv at h
  show q_Wq X G x 3 (q_MQ X G (q_Qi G x res σ)) 0 0 0 [(0, .ref (G.2.1 + 292)), (1, .int a1), (2, .int a2)] [] σ
  refine q_aload_n hx dX10_sv_0 0 rfl ?_
  refine q_get (v := .ref (G.2.1 + 293)) hx q_fl_X10_7 dX10_sv_1 (q_ne kd_292 (by decide)) (q_e10 kd_292) rfl ?_
  refine q_bipush (v := 30) hx dX10_sv_4 (by decide) ?_
  refine q_bipush (v := 37) hx dX10_sv_6 (by decide) ?_
  refine q_iload_n hx dX10_sv_8 1 rfl ?_
  refine q_imul hx dX10_sv_9 ?_
  refine q_iadd hx dX10_sv_10 ?_
  refine q_iload_n hx dX10_sv_11 2 rfl ?_
  refine q_iadd hx dX10_sv_12 ?_
  by_cases hg1 : (((30 + (37 * a1)) + a2) < 0 ∨ 220 ≤ ((30 + (37 * a1)) + a2).toNatClampNeg)
  · rw [if_pos hg1] at h; exact nomatch h
  replace h := (if_neg hg1).symm.trans h
  refine q_iald (N := 220) hx dX10_sv_13 kd_293 (by first | decide | assumption) hg1 ?_
  cases h
  exact q_iret hx hr dX10_sv_14
-- X10_ls
def f_X10_ls (σ : q_S) (a1 : Int32) (a2 : Int32) (a3 : Int32) : Option (q_S) :=
  if (((30 + (37 * a1)) + a2) < 0 ∨ 220 ≤ ((30 + (37 * a1)) + a2).toNatClampNeg) then none else some (q_up σ 293 ((30 + (37 * a1)) + a2).toNatClampNeg a3)
set_option maxHeartbeats 4000000 in
set_option maxRecDepth 100000 in
theorem c_X10_ls (l : Launch) (G : q_G) (x : q_A) (σ : q_S) (a1 : Int32) (a2 : Int32) (a3 : Int32)  {res : q_S} (h : f_X10_ls σ a1 a2 a3 = some res) : q_Met l yX10_ls cX10_ls 4 (none) 1 G [.ref (G.2.1 + 292), .int a1, .int a2, .int a3] σ x (q_Qv G x res) := by
  refine q_of (by decide) (Nat.le_of_ble_eq_true rfl) (fun X hl0 hx hr => ?_)
  subst hl0
  have hx : q_Cx X G RX10 cX10_ls 4 1 := hx
  unfold f_X10_ls at h
  show q_Wq X G x 4 (q_MQ X G (q_Qv G x res)) 0 0 0 [(0, .ref (G.2.1 + 292)), (1, .int a1), (2, .int a2), (3, .int a3)] [] σ
  refine q_aload_n hx dX10_ls_0 0 rfl ?_
  refine q_get (v := .ref (G.2.1 + 293)) hx q_fl_X10_7 dX10_ls_1 (q_ne kd_292 (by decide)) (q_e10 kd_292) rfl ?_
  refine q_bipush (v := 30) hx dX10_ls_4 (by decide) ?_
  refine q_bipush (v := 37) hx dX10_ls_6 (by decide) ?_
  refine q_iload_n hx dX10_ls_8 1 rfl ?_
  refine q_imul hx dX10_ls_9 ?_
  refine q_iadd hx dX10_ls_10 ?_
  refine q_iload_n hx dX10_ls_11 2 rfl ?_
  refine q_iadd hx dX10_ls_12 ?_
  refine q_iload_n hx dX10_ls_13 3 rfl ?_
  by_cases hg1 : (((30 + (37 * a1)) + a2) < 0 ∨ 220 ≤ ((30 + (37 * a1)) + a2).toNatClampNeg)
  · rw [if_pos hg1] at h; exact nomatch h
  replace h := (if_neg hg1).symm.trans h
  refine q_iast (N := 220) hx dX10_ls_14 kd_293 (by first | decide | assumption) hg1 ?_
  cases h
  exact q_vret hx hr dX10_ls_15
-- X10_way
def f_X10_way (σ : q_S) (a1 : Int32) (a2 : Int32) : Option (Int32) :=
  Option.bind (f_X10_sv σ a1 (5 + (2 * a2))) (fun q1 => some q1)
set_option maxHeartbeats 4000000 in
set_option maxRecDepth 100000 in
theorem c_X10_way (l : Launch) (G : q_G) (x : q_A) (σ : q_S) (a1 : Int32) (a2 : Int32)  {res : Int32} (h : f_X10_way σ a1 a2 = some res) : q_Met l yX10_way cX10_way 3 (some .int) 2 G [.ref (G.2.1 + 292), .int a1, .int a2] σ x (q_Qi G x res σ) := by
  refine q_of (by decide) (Nat.le_of_ble_eq_true rfl) (fun X hl0 hx hr => ?_)
  subst hl0
  have hx : q_Cx X G RX10 cX10_way 3 2 := hx
  unfold f_X10_way at h
  show q_Wq X G x 3 (q_MQ X G (q_Qi G x res σ)) 0 0 0 [(0, .ref (G.2.1 + 292)), (1, .int a1), (2, .int a2)] [] σ
  refine q_aload_n hx dX10_way_0 0 rfl ?_
  refine q_iload_n hx dX10_way_1 1 rfl ?_
  refine q_iconst (v := 5) hx dX10_way_2 (by decide) ?_
  refine q_iconst (v := 2) hx dX10_way_3 (by decide) ?_
  refine q_iload_n hx dX10_way_4 2 rfl ?_
  refine q_imul hx dX10_way_5 ?_
  refine q_iadd hx dX10_way_6 ?_
  refine q_bindE h (fun q1 hq1 h => ?_)
  refine q_callVi (As := [.int a1, .int (5 + (2 * a2))]) (rest := []) hx q_kR0 (c_X10_sv (q_Xl X) G x σ a1 (5 + (2 * a2)) hq1) q_ml_X10_111 q_mn_X10_sv q_mi_X10_sv q_se_X10_sv (by decide) rfl (Nat.le_of_ble_eq_true rfl) dX10_way_7 (q_ne kd_292 (by decide)) (q_e10 kd_292) rfl rfl rfl ?_
  cases h
  exact q_iret hx hr dX10_way_10
-- X10_length
def f_X10_length (σ : q_S) (a1 : Int32) (a2 : Int32) : Option (Int32) :=
  Option.bind (f_X10_sv σ a1 ((5 + (2 * a2)) + 1)) (fun q1 => some q1)
set_option maxHeartbeats 4000000 in
set_option maxRecDepth 100000 in
theorem c_X10_length (l : Launch) (G : q_G) (x : q_A) (σ : q_S) (a1 : Int32) (a2 : Int32)  {res : Int32} (h : f_X10_length σ a1 a2 = some res) : q_Met l yX10_length cX10_length 3 (some .int) 2 G [.ref (G.2.1 + 292), .int a1, .int a2] σ x (q_Qi G x res σ) := by
  refine q_of (by decide) (Nat.le_of_ble_eq_true rfl) (fun X hl0 hx hr => ?_)
  subst hl0
  have hx : q_Cx X G RX10 cX10_length 3 2 := hx
  unfold f_X10_length at h
  show q_Wq X G x 3 (q_MQ X G (q_Qi G x res σ)) 0 0 0 [(0, .ref (G.2.1 + 292)), (1, .int a1), (2, .int a2)] [] σ
  refine q_aload_n hx dX10_length_0 0 rfl ?_
  refine q_iload_n hx dX10_length_1 1 rfl ?_
  refine q_iconst (v := 5) hx dX10_length_2 (by decide) ?_
  refine q_iconst (v := 2) hx dX10_length_3 (by decide) ?_
  refine q_iload_n hx dX10_length_4 2 rfl ?_
  refine q_imul hx dX10_length_5 ?_
  refine q_iadd hx dX10_length_6 ?_
  refine q_iconst (v := 1) hx dX10_length_7 (by decide) ?_
  refine q_iadd hx dX10_length_8 ?_
  refine q_bindE h (fun q1 hq1 h => ?_)
  refine q_callVi (As := [.int a1, .int ((5 + (2 * a2)) + 1)]) (rest := []) hx q_kR0 (c_X10_sv (q_Xl X) G x σ a1 ((5 + (2 * a2)) + 1) hq1) q_ml_X10_111 q_mn_X10_sv q_mi_X10_sv q_se_X10_sv (by decide) rfl (Nat.le_of_ble_eq_true rfl) dX10_length_9 (q_ne kd_292 (by decide)) (q_e10 kd_292) rfl rfl rfl ?_
  cases h
  exact q_iret hx hr dX10_length_12
-- X10_pv
def f_X10_pv (σ : q_S) (a1 : Int32) (a2 : Int32) : Option (Int32) :=
  if (((6 + (3 * a1)) + a2) < 0 ∨ 220 ≤ ((6 + (3 * a1)) + a2).toNatClampNeg) then none else some (σ 293 ((6 + (3 * a1)) + a2).toNatClampNeg)
set_option maxHeartbeats 4000000 in
set_option maxRecDepth 100000 in
theorem c_X10_pv (l : Launch) (G : q_G) (x : q_A) (σ : q_S) (a1 : Int32) (a2 : Int32)  {res : Int32} (h : f_X10_pv σ a1 a2 = some res) : q_Met l yX10_pv cX10_pv 3 (some .int) 1 G [.ref (G.2.1 + 292), .int a1, .int a2] σ x (q_Qi G x res σ) := by
  refine q_of (by decide) (Nat.le_of_ble_eq_true rfl) (fun X hl0 hx hr => ?_)
  subst hl0
  have hx : q_Cx X G RX10 cX10_pv 3 1 := hx
  unfold f_X10_pv at h
  show q_Wq X G x 3 (q_MQ X G (q_Qi G x res σ)) 0 0 0 [(0, .ref (G.2.1 + 292)), (1, .int a1), (2, .int a2)] [] σ
  refine q_aload_n hx dX10_pv_0 0 rfl ?_
  refine q_get (v := .ref (G.2.1 + 293)) hx q_fl_X10_7 dX10_pv_1 (q_ne kd_292 (by decide)) (q_e10 kd_292) rfl ?_
  refine q_bipush (v := 6) hx dX10_pv_4 (by decide) ?_
  refine q_iconst (v := 3) hx dX10_pv_6 (by decide) ?_
  refine q_iload_n hx dX10_pv_7 1 rfl ?_
  refine q_imul hx dX10_pv_8 ?_
  refine q_iadd hx dX10_pv_9 ?_
  refine q_iload_n hx dX10_pv_10 2 rfl ?_
  refine q_iadd hx dX10_pv_11 ?_
  by_cases hg1 : (((6 + (3 * a1)) + a2) < 0 ∨ 220 ≤ ((6 + (3 * a1)) + a2).toNatClampNeg)
  · rw [if_pos hg1] at h; exact nomatch h
  replace h := (if_neg hg1).symm.trans h
  refine q_iald (N := 220) hx dX10_pv_12 kd_293 (by first | decide | assumption) hg1 ?_
  cases h
  exact q_iret hx hr dX10_pv_13
-- X10_isSleeper
def f_X10_isSleeper (σ : q_S) (a1 : Int32) : Option (Int32) :=
  if ((f_X10_in a1 0 ((σ 293 0) - 1)) = 0 ∨ (f_X10_in a1 0 ((σ 293 0) - 1)) = 1) then some ((f_X10_in a1 0 ((σ 293 0) - 1))) else none
set_option maxHeartbeats 4000000 in
set_option maxRecDepth 100000 in
theorem c_X10_isSleeper (l : Launch) (G : q_G) (x : q_A) (σ : q_S) (a1 : Int32)  {res : Int32} (h : f_X10_isSleeper σ a1 = some res) : q_Met l yX10_isSleeper cX10_isSleeper 2 (some .boolean) 2 G [.ref (G.2.1 + 292), .int a1] σ x (q_Qi G x res σ) := by
  refine q_of (by decide) (Nat.le_of_ble_eq_true rfl) (fun X hl0 hx hr => ?_)
  subst hl0
  have hx : q_Cx X G RX10 cX10_isSleeper 2 2 := hx
  unfold f_X10_isSleeper at h
  show q_Wq X G x 2 (q_MQ X G (q_Qi G x res σ)) 0 0 0 [(0, .ref (G.2.1 + 292)), (1, .int a1)] [] σ
  refine q_iload_n hx dX10_isSleeper_0 1 rfl ?_
  refine q_iconst (v := 0) hx dX10_isSleeper_1 (by decide) ?_
  refine q_aload_n hx dX10_isSleeper_2 0 rfl ?_
  refine q_get (v := .ref (G.2.1 + 293)) hx q_fl_X10_7 dX10_isSleeper_3 (q_ne kd_292 (by decide)) (q_e10 kd_292) rfl ?_
  refine q_iconst (v := 0) hx dX10_isSleeper_6 (by decide) ?_
  refine q_ialdK (N := 220) hx 0 dX10_isSleeper_7 kd_293 (by decide) (by decide) (by decide) (by decide) ?_
  refine q_iconst (v := 1) hx dX10_isSleeper_8 (by decide) ?_
  refine q_isub hx dX10_isSleeper_9 ?_
  refine q_callSi (As := [.int a1, .int 0, .int ((σ 293 0) - 1)]) (rest := []) hx q_kR0 (c_X10_in (q_Xl X) G x σ a1 0 ((σ 293 0) - 1)) q_ml_X10_115 q_mn_X10_in q_ms_X10_in (by decide) rfl (Nat.le_of_ble_eq_true rfl) dX10_isSleeper_10 rfl ?_
  by_cases hg1 : ((f_X10_in a1 0 ((σ 293 0) - 1)) = 0 ∨ (f_X10_in a1 0 ((σ 293 0) - 1)) = 1)
  case neg => rw [if_neg hg1] at h; exact nomatch h
  replace h := (if_pos hg1).symm.trans h
  cases h
  exact q_zret hx hr (q_zn hg1) dX10_isSleeper_13
-- X10_isCorner
def f_X10_isCorner (a0 : Int32) (a1 : Int32) : Int32 :=
  if ((f_X10_in a0 0 12)) = 0 then (0) else (if ((f_X10_in a1 0 8)) = 0 then (0) else (1))
set_option maxHeartbeats 4000000 in
set_option maxRecDepth 100000 in
theorem ca_X10_isCorner (l : Launch) (G : q_G) (x : q_A) (σ : q_S) (a0 : Int32) (a1 : Int32)  {res : Int32} (h : f_X10_isCorner a0 a1 = res) : q_Met l yX10_isCorner cX10_isCorner 2 (some .boolean) 2 G [.int a0, .int a1] σ x (q_Qi G x res σ) := by
  refine q_of (by decide) (Nat.le_of_ble_eq_true rfl) (fun X hl0 hx hr => ?_)
  subst hl0
  have hx : q_Cx X G RX10 cX10_isCorner 2 2 := hx
  unfold f_X10_isCorner at h
  show q_Wq X G x 2 (q_MQ X G (q_Qi G x res σ)) 0 0 0 [(0, .int a0), (1, .int a1)] [] σ
  refine q_iload_n hx dX10_isCorner_0 0 rfl ?_
  refine q_iconst (v := 0) hx dX10_isCorner_1 (by decide) ?_
  refine q_bipush (v := 12) hx dX10_isCorner_2 (by decide) ?_
  refine q_callSi (As := [.int a0, .int 0, .int 12]) (rest := []) hx q_kR0 (c_X10_in (q_Xl X) G x σ a0 0 12) q_ml_X10_115 q_mn_X10_in q_ms_X10_in (by decide) rfl (Nat.le_of_ble_eq_true rfl) dX10_isCorner_4 rfl ?_
  refine q_if_eq hx 24 dX10_isCorner_7 (by decide) (fun hc1 => ?_) (fun hc1 => ?_)
  · replace h := (if_pos hc1).symm.trans h
    refine q_iconst (v := 0) hx dX10_isCorner_24 (by decide) ?_
    subst h
    exact q_zret hx hr rfl dX10_isCorner_25
  · replace h := (if_neg hc1).symm.trans h
    refine q_iload_n hx dX10_isCorner_10 1 rfl ?_
    refine q_iconst (v := 0) hx dX10_isCorner_11 (by decide) ?_
    refine q_bipush (v := 8) hx dX10_isCorner_12 (by decide) ?_
    refine q_callSi (As := [.int a1, .int 0, .int 8]) (rest := []) hx q_kR0 (c_X10_in (q_Xl X) G x σ a1 0 8) q_ml_X10_115 q_mn_X10_in q_ms_X10_in (by decide) rfl (Nat.le_of_ble_eq_true rfl) dX10_isCorner_14 rfl ?_
    refine q_if_eq hx 24 dX10_isCorner_17 (by decide) (fun hc2 => ?_) (fun hc2 => ?_)
    · replace h := (if_pos hc2).symm.trans h
      refine q_iconst (v := 0) hx dX10_isCorner_24 (by decide) ?_
      subst h
      exact q_zret hx hr rfl dX10_isCorner_25
    · replace h := (if_neg hc2).symm.trans h
      refine q_iconst (v := 1) hx dX10_isCorner_20 (by decide) ?_
      refine q_goto hx 25 dX10_isCorner_21 (by decide) ?_
      subst h
      exact q_zret hx hr rfl dX10_isCorner_25
theorem c_X10_isCorner (l : Launch) (G : q_G) (x : q_A) (σ : q_S) (a0 : Int32) (a1 : Int32)  : q_Met l yX10_isCorner cX10_isCorner 2 (some .boolean) 2 G [.int a0, .int a1] σ x (q_Qi G x (f_X10_isCorner a0 a1) σ) := ca_X10_isCorner l G x σ a0 a1 rfl
-- X10_isCell
def f_X10_isCell (a0 : Int32) (a1 : Int32) : Int32 :=
  if ((f_X10_in a0 0 11)) = 0 then (0) else (if ((f_X10_in a1 0 7)) = 0 then (0) else (1))
set_option maxHeartbeats 4000000 in
set_option maxRecDepth 100000 in
theorem ca_X10_isCell (l : Launch) (G : q_G) (x : q_A) (σ : q_S) (a0 : Int32) (a1 : Int32)  {res : Int32} (h : f_X10_isCell a0 a1 = res) : q_Met l yX10_isCell cX10_isCell 2 (some .boolean) 2 G [.int a0, .int a1] σ x (q_Qi G x res σ) := by
  refine q_of (by decide) (Nat.le_of_ble_eq_true rfl) (fun X hl0 hx hr => ?_)
  subst hl0
  have hx : q_Cx X G RX10 cX10_isCell 2 2 := hx
  unfold f_X10_isCell at h
  show q_Wq X G x 2 (q_MQ X G (q_Qi G x res σ)) 0 0 0 [(0, .int a0), (1, .int a1)] [] σ
  refine q_iload_n hx dX10_isCell_0 0 rfl ?_
  refine q_iconst (v := 0) hx dX10_isCell_1 (by decide) ?_
  refine q_bipush (v := 11) hx dX10_isCell_2 (by decide) ?_
  refine q_callSi (As := [.int a0, .int 0, .int 11]) (rest := []) hx q_kR0 (c_X10_in (q_Xl X) G x σ a0 0 11) q_ml_X10_115 q_mn_X10_in q_ms_X10_in (by decide) rfl (Nat.le_of_ble_eq_true rfl) dX10_isCell_4 rfl ?_
  refine q_if_eq hx 24 dX10_isCell_7 (by decide) (fun hc1 => ?_) (fun hc1 => ?_)
  · replace h := (if_pos hc1).symm.trans h
    refine q_iconst (v := 0) hx dX10_isCell_24 (by decide) ?_
    subst h
    exact q_zret hx hr rfl dX10_isCell_25
  · replace h := (if_neg hc1).symm.trans h
    refine q_iload_n hx dX10_isCell_10 1 rfl ?_
    refine q_iconst (v := 0) hx dX10_isCell_11 (by decide) ?_
    refine q_bipush (v := 7) hx dX10_isCell_12 (by decide) ?_
    refine q_callSi (As := [.int a1, .int 0, .int 7]) (rest := []) hx q_kR0 (c_X10_in (q_Xl X) G x σ a1 0 7) q_ml_X10_115 q_mn_X10_in q_ms_X10_in (by decide) rfl (Nat.le_of_ble_eq_true rfl) dX10_isCell_14 rfl ?_
    refine q_if_eq hx 24 dX10_isCell_17 (by decide) (fun hc2 => ?_) (fun hc2 => ?_)
    · replace h := (if_pos hc2).symm.trans h
      refine q_iconst (v := 0) hx dX10_isCell_24 (by decide) ?_
      subst h
      exact q_zret hx hr rfl dX10_isCell_25
    · replace h := (if_neg hc2).symm.trans h
      refine q_iconst (v := 1) hx dX10_isCell_20 (by decide) ?_
      refine q_goto hx 25 dX10_isCell_21 (by decide) ?_
      subst h
      exact q_zret hx hr rfl dX10_isCell_25
theorem c_X10_isCell (l : Launch) (G : q_G) (x : q_A) (σ : q_S) (a0 : Int32) (a1 : Int32)  : q_Met l yX10_isCell cX10_isCell 2 (some .boolean) 2 G [.int a0, .int a1] σ x (q_Qi G x (f_X10_isCell a0 a1) σ) := ca_X10_isCell l G x σ a0 a1 rfl
-- X10_isRefusedSleeper
def f_X10_isRefusedSleeper (σ : q_S) : Int32 × q_S :=
  if (σ 293 0) = 5 then (if ((f_X10_isBad σ 1 5).1) = 0 then ((0, (f_X10_isBad σ 1 5).2)) else ((1, (f_X10_isBad σ 1 5).2))) else ((0, σ))
set_option maxHeartbeats 4000000 in
set_option maxRecDepth 100000 in
theorem ca_X10_isRefusedSleeper (l : Launch) (G : q_G) (x : q_A) (σ : q_S)   {res : Int32 × q_S} (h : f_X10_isRefusedSleeper σ = res) : q_Met l yX10_isRefusedSleeper cX10_isRefusedSleeper 1 (some .boolean) 2 G [.ref (G.2.1 + 292)] σ x (q_Qi G x res.1 res.2) := by
  refine q_of (by decide) (Nat.le_of_ble_eq_true rfl) (fun X hl0 hx hr => ?_)
  subst hl0
  have hx : q_Cx X G RX10 cX10_isRefusedSleeper 1 2 := hx
  unfold f_X10_isRefusedSleeper at h
  show q_Wq X G x 1 (q_MQ X G (q_Qi G x res.1 res.2)) 0 0 0 [(0, .ref (G.2.1 + 292))] [] σ
  refine q_aload_n hx dX10_isRefusedSleeper_0 0 rfl ?_
  refine q_get (v := .ref (G.2.1 + 293)) hx q_fl_X10_7 dX10_isRefusedSleeper_1 (q_ne kd_292 (by decide)) (q_e10 kd_292) rfl ?_
  refine q_iconst (v := 0) hx dX10_isRefusedSleeper_4 (by decide) ?_
  refine q_ialdK (N := 220) hx 0 dX10_isRefusedSleeper_5 kd_293 (by decide) (by decide) (by decide) (by decide) ?_
  refine q_iconst (v := 5) hx dX10_isRefusedSleeper_6 (by decide) ?_
  refine q_icmp_ne hx 23 dX10_isRefusedSleeper_7 (by decide) (fun hc1 => ?_) (fun hc1 => ?_)
  · replace h := (if_neg hc1).symm.trans h
    refine q_iconst (v := 0) hx dX10_isRefusedSleeper_23 (by decide) ?_
    subst h
    exact q_zret (v := 0) hx hr rfl dX10_isRefusedSleeper_24
  · replace h := (if_pos hc1).symm.trans h
    refine q_aload_n hx dX10_isRefusedSleeper_10 0 rfl ?_
    refine q_iconst (v := 1) hx dX10_isRefusedSleeper_11 (by decide) ?_
    refine q_iconst (v := 5) hx dX10_isRefusedSleeper_12 (by decide) ?_
    refine q_callVi (As := [.int 1, .int 5]) (rest := []) hx q_kR0 (c_X10_isBad (q_Xl X) G x σ 1 5) q_ml_X10_119 q_mn_X10_isBad q_mi_X10_isBad q_se_X10_isBad (by decide) rfl (Nat.le_of_ble_eq_true rfl) dX10_isRefusedSleeper_13 (q_ne kd_292 (by decide)) (q_e10 kd_292) rfl rfl rfl ?_
    refine q_if_eq hx 23 dX10_isRefusedSleeper_16 (by decide) (fun hc2 => ?_) (fun hc2 => ?_)
    · replace h := (if_pos hc2).symm.trans h
      refine q_iconst (v := 0) hx dX10_isRefusedSleeper_23 (by decide) ?_
      subst h
      exact q_zret (v := 0) hx hr rfl dX10_isRefusedSleeper_24
    · replace h := (if_neg hc2).symm.trans h
      refine q_iconst (v := 1) hx dX10_isRefusedSleeper_19 (by decide) ?_
      refine q_goto hx 24 dX10_isRefusedSleeper_20 (by decide) ?_
      subst h
      exact q_zret (v := 1) hx hr rfl dX10_isRefusedSleeper_24
theorem c_X10_isRefusedSleeper (l : Launch) (G : q_G) (x : q_A) (σ : q_S)   : q_Met l yX10_isRefusedSleeper cX10_isRefusedSleeper 1 (some .boolean) 2 G [.ref (G.2.1 + 292)] σ x (q_Qi G x (f_X10_isRefusedSleeper σ).1 (f_X10_isRefusedSleeper σ).2) := ca_X10_isRefusedSleeper l G x σ  rfl
-- X10_comes
def f_X10_comes_9 : Nat → Int32 → Int32 → Int32 → q_S → Option (Int32 × q_S)
  | 0, _, _, _, _ => none
  | n + 1, v1, v2, v3, σ =>
    if 37 ≤ v3 then (Option.bind (f_X10_ls σ v2 0 v1) (fun q2 => some ((v2, q_up q2 293 0 ((q2 293 0) + 1))))) else (Option.bind (f_X10_ls σ v2 v3 0) (fun q3 => f_X10_comes_9 n v1 v2 (v3 + 1) q3))
set_option maxHeartbeats 4000000 in
set_option maxRecDepth 100000 in
theorem s_X10_comes_9 {X : q_X} {G : q_G} {x : q_A} (hx : q_Cx X G RX10 cX10_comes 4 2) (hr : (q_Xm X).sig.returnType = some .int) {res : Int32 × q_S} : ∀ (n : Nat) (v1 : Int32) (v2 : Int32) (v3 : Int32) (σ : q_S), f_X10_comes_9 n v1 v2 v3 σ = some res → q_Wq X G x 4 (q_MQ X G (q_Qi G x res.1 res.2)) 0 0 9 [(0, .ref (G.2.1 + 292)), (1, .int v1), (2, .int v2), (3, .int v3)] [] σ := by
  intro n
  induction n with
  | zero => exact fun _ _ _ _ h => nomatch (show (none : Option (Int32 × q_S)) = some res from h)
  | succ n ih =>
    intro v1 v2 v3 σ h
    rw [f_X10_comes_9] at h
    refine q_iload_n hx dX10_comes_9 3 rfl ?_
    refine q_bipush (v := 37) hx dX10_comes_10 (by decide) ?_
    refine q_icmp_ge hx 28 dX10_comes_12 (by decide) (fun hc1 => ?_) (fun hc1 => ?_)
    · replace h := (if_pos hc1).symm.trans h
      refine q_aload_n hx dX10_comes_28 0 rfl ?_
      refine q_iload_n hx dX10_comes_29 2 rfl ?_
      refine q_iconst (v := 0) hx dX10_comes_30 (by decide) ?_
      refine q_iload_n hx dX10_comes_31 1 rfl ?_
      refine q_bindE h (fun q2 hq2 h => ?_)
      refine q_callVv (As := [.int v2, .int 0, .int v1]) (rest := []) hx q_kR0 (c_X10_ls (q_Xl X) G x σ v2 0 v1 hq2) q_ml_X10_123 q_mn_X10_ls q_mi_X10_ls q_se_X10_ls (by decide) rfl (Nat.le_of_ble_eq_true rfl) dX10_comes_32 (q_ne kd_292 (by decide)) (q_e10 kd_292) rfl rfl rfl ?_
      refine q_aload_n hx dX10_comes_35 0 rfl ?_
      refine q_get (v := .ref (G.2.1 + 293)) hx q_fl_X10_7 dX10_comes_36 (q_ne kd_292 (by decide)) (q_e10 kd_292) rfl ?_
      refine q_iconst (v := 0) hx dX10_comes_39 (by decide) ?_
      refine q_dup2 hx dX10_comes_40 rfl rfl ?_
      refine q_ialdK (N := 220) hx 0 dX10_comes_41 kd_293 (by decide) (by decide) (by decide) (by decide) ?_
      refine q_iconst (v := 1) hx dX10_comes_42 (by decide) ?_
      refine q_iadd hx dX10_comes_43 ?_
      refine q_iastK (N := 220) hx 0 dX10_comes_44 kd_293 (by decide) (by decide) (by decide) (by decide) ?_
      refine q_iload_n hx dX10_comes_45 2 rfl ?_
      cases h
      exact q_iret hx hr dX10_comes_46
    · replace h := (if_neg hc1).symm.trans h
      refine q_aload_n hx dX10_comes_15 0 rfl ?_
      refine q_iload_n hx dX10_comes_16 2 rfl ?_
      refine q_iload_n hx dX10_comes_17 3 rfl ?_
      refine q_iconst (v := 0) hx dX10_comes_18 (by decide) ?_
      refine q_bindE h (fun q3 hq3 h => ?_)
      refine q_callVv (As := [.int v2, .int v3, .int 0]) (rest := []) hx q_kR0 (c_X10_ls (q_Xl X) G x σ v2 v3 0 hq3) q_ml_X10_123 q_mn_X10_ls q_mi_X10_ls q_se_X10_ls (by decide) rfl (Nat.le_of_ble_eq_true rfl) dX10_comes_19 (q_ne kd_292 (by decide)) (q_e10 kd_292) rfl rfl rfl ?_
      refine q_iinc hx [(3, .int (v3 + 1)), (0, .ref (G.2.1 + 292)), (1, .int v1), (2, .int v2)] dX10_comes_22 3 rfl rfl (by decide) rfl ?_
      refine q_goto hx 9 dX10_comes_25 (by decide) ?_
      refine q_sub [1, 2, 3, 0] rfl ?_
      exact ih v1 v2 (v3 + 1) q3 h
def f_X10_comes (σ : q_S) (a1 : Int32) : Option (Int32 × q_S) :=
  f_X10_comes_9 q_fu a1 (σ 293 0) 0 σ
set_option maxHeartbeats 4000000 in
set_option maxRecDepth 100000 in
theorem c_X10_comes (l : Launch) (G : q_G) (x : q_A) (σ : q_S) (a1 : Int32)  {res : Int32 × q_S} (h : f_X10_comes σ a1 = some res) : q_Met l yX10_comes cX10_comes 4 (some .int) 2 G [.ref (G.2.1 + 292), .int a1] σ x (q_Qi G x res.1 res.2) := by
  refine q_of (by decide) (Nat.le_of_ble_eq_true rfl) (fun X hl0 hx hr => ?_)
  subst hl0
  have hx : q_Cx X G RX10 cX10_comes 4 2 := hx
  unfold f_X10_comes at h
  show q_Wq X G x 4 (q_MQ X G (q_Qi G x res.1 res.2)) 0 0 0 [(0, .ref (G.2.1 + 292)), (1, .int a1)] [] σ
  refine q_aload_n hx dX10_comes_0 0 rfl ?_
  refine q_get (v := .ref (G.2.1 + 293)) hx q_fl_X10_7 dX10_comes_1 (q_ne kd_292 (by decide)) (q_e10 kd_292) rfl ?_
  refine q_iconst (v := 0) hx dX10_comes_4 (by decide) ?_
  refine q_ialdK (N := 220) hx 0 dX10_comes_5 kd_293 (by decide) (by decide) (by decide) (by decide) ?_
  refine q_istore_n hx [(2, .int (σ 293 0)), (0, .ref (G.2.1 + 292)), (1, .int a1)] dX10_comes_6 (by decide) rfl ?_
  refine q_iconst (v := 0) hx dX10_comes_7 (by decide) ?_
  refine q_istore_n hx [(3, .int 0), (2, .int (σ 293 0)), (0, .ref (G.2.1 + 292)), (1, .int a1)] dX10_comes_8 (by decide) rfl ?_
  refine q_sub [2, 3, 1, 0] rfl ?_
  exact s_X10_comes_9 hx hr q_fu a1 (σ 293 0) 0 σ h
-- X10_sleeper
def f_X10_sleeper (σ : q_S) (a1 : Int32) : Option (Int32 × q_S) :=
  Option.bind (f_X10_begins σ) (fun q1 => if ((f_X10_in a1 1 9)) = 0 then (some (((f_X10_no q1 1).1, (f_X10_no q1 1).2))) else (if ((f_X10_isRefusedSleeper q1).1) = 0 then (Option.bind (f_X10_comes ((f_X10_isRefusedSleeper q1).2) a1) (fun q4 => Option.bind (f_X10_keeps q4.2 q4.1) (fun q5 => some ((q5.1, q5.2))))) else (some (((f_X10_refused ((f_X10_isRefusedSleeper q1).2) 2).1, (f_X10_refused ((f_X10_isRefusedSleeper q1).2) 2).2)))))
set_option maxHeartbeats 4000000 in
set_option maxRecDepth 100000 in
theorem c_X10_sleeper (l : Launch) (G : q_G) (x : q_A) (σ : q_S) (a1 : Int32)  {res : Int32 × q_S} (h : f_X10_sleeper σ a1 = some res) : q_Met l yX10_sleeper cX10_sleeper 2 (some .int) 3 G [.ref (G.2.1 + 292), .int a1] σ x (q_Qi G x res.1 res.2) := by
  refine q_of (by decide) (Nat.le_of_ble_eq_true rfl) (fun X hl0 hx hr => ?_)
  subst hl0
  have hx : q_Cx X G RX10 cX10_sleeper 2 3 := hx
  unfold f_X10_sleeper at h
  show q_Wq X G x 2 (q_MQ X G (q_Qi G x res.1 res.2)) 0 0 0 [(0, .ref (G.2.1 + 292)), (1, .int a1)] [] σ
  refine q_aload_n hx dX10_sleeper_0 0 rfl ?_
  refine q_bindE h (fun q1 hq1 h => ?_)
  refine q_callVv (As := []) (rest := []) hx q_kR0 (c_X10_begins (q_Xl X) G x σ  hq1) q_ml_X10_127 q_mn_X10_begins q_mi_X10_begins q_se_X10_begins (by decide) rfl (Nat.le_of_ble_eq_true rfl) dX10_sleeper_1 (q_ne kd_292 (by decide)) (q_e10 kd_292) rfl rfl rfl ?_
  refine q_iload_n hx dX10_sleeper_4 1 rfl ?_
  refine q_iconst (v := 1) hx dX10_sleeper_5 (by decide) ?_
  refine q_bipush (v := 9) hx dX10_sleeper_6 (by decide) ?_
  refine q_callSi (As := [.int a1, .int 1, .int 9]) (rest := []) hx q_kR0 (c_X10_in (q_Xl X) G x q1 a1 1 9) q_ml_X10_115 q_mn_X10_in q_ms_X10_in (by decide) rfl (Nat.le_of_ble_eq_true rfl) dX10_sleeper_8 rfl ?_
  refine q_if_ne hx 20 dX10_sleeper_11 (by decide) (fun hc2 => ?_) (fun hc2 => ?_)
  · replace h := (if_neg hc2).symm.trans h
    refine q_aload_n hx dX10_sleeper_20 0 rfl ?_
    refine q_callVi (As := []) (rest := []) hx q_kR0 (c_X10_isRefusedSleeper (q_Xl X) G x q1 ) q_ml_X10_130 q_mn_X10_isRefusedSleeper q_mi_X10_isRefusedSleeper q_se_X10_isRefusedSleeper (by decide) rfl (Nat.le_of_ble_eq_true rfl) dX10_sleeper_21 (q_ne kd_292 (by decide)) (q_e10 kd_292) rfl rfl rfl ?_
    refine q_if_eq hx 35 dX10_sleeper_24 (by decide) (fun hc3 => ?_) (fun hc3 => ?_)
    · replace h := (if_pos hc3).symm.trans h
      refine q_aload_n hx dX10_sleeper_35 0 rfl ?_
      refine q_aload_n hx dX10_sleeper_36 0 rfl ?_
      refine q_iload_n hx dX10_sleeper_37 1 rfl ?_
      refine q_bindE h (fun q4 hq4 h => ?_)
      refine q_callVi (As := [.int a1]) (rest := [.ref (G.2.1 + 292)]) hx q_kR0 (c_X10_comes (q_Xl X) G x ((f_X10_isRefusedSleeper q1).2) a1 hq4) q_ml_X10_137 q_mn_X10_comes q_mi_X10_comes q_se_X10_comes (by decide) rfl (Nat.le_of_ble_eq_true rfl) dX10_sleeper_38 (q_ne kd_292 (by decide)) (q_e10 kd_292) rfl rfl rfl ?_
      refine q_bindE h (fun q5 hq5 h => ?_)
      refine q_callVi (As := [.int q4.1]) (rest := []) hx q_kR0 (c_X10_keeps (q_Xl X) G x q4.2 q4.1 hq5) q_ml_X10_140 q_mn_X10_keeps q_mi_X10_keeps q_se_X10_keeps (by decide) rfl (Nat.le_of_ble_eq_true rfl) dX10_sleeper_41 (q_ne kd_292 (by decide)) (q_e10 kd_292) rfl rfl rfl ?_
      cases h
      exact q_iret hx hr dX10_sleeper_44
    · replace h := (if_neg hc3).symm.trans h
      refine q_aload_n hx dX10_sleeper_27 0 rfl ?_
      refine q_iconst (v := 2) hx dX10_sleeper_28 (by decide) ?_
      refine q_callVi (As := [.int 2]) (rest := []) hx q_kR0 (c_X10_refused (q_Xl X) G x ((f_X10_isRefusedSleeper q1).2) 2) q_ml_X10_134 q_mn_X10_refused q_mi_X10_refused q_se_X10_refused (by decide) rfl (Nat.le_of_ble_eq_true rfl) dX10_sleeper_29 (q_ne kd_292 (by decide)) (q_e10 kd_292) rfl rfl rfl ?_
      refine q_goto hx 44 dX10_sleeper_32 (by decide) ?_
      cases h
      exact q_iret hx hr dX10_sleeper_44
  · replace h := (if_pos hc2).symm.trans h
    refine q_aload_n hx dX10_sleeper_14 0 rfl ?_
    refine q_iconst (v := 1) hx dX10_sleeper_15 (by decide) ?_
    refine q_callVi (As := [.int 1]) (rest := []) hx q_kR0 (c_X10_no (q_Xl X) G x q1 1) q_ml_X10_103 q_mn_X10_no q_mi_X10_no q_se_X10_no (by decide) rfl (Nat.le_of_ble_eq_true rfl) dX10_sleeper_16 (q_ne kd_292 (by decide)) (q_e10 kd_292) rfl rfl rfl ?_
    cases h
    exact q_iret hx hr dX10_sleeper_19
-- X10_pegAt
def f_X10_pegAt_2 (σ : q_S) : Nat → Int32 → Int32 → Int32 → Option (Int32)
  | 0, _, _, _ => none
  | n + 1, v1, v2, v3 =>
    if (σ 293 1) ≤ v3 then (some ((-1))) else (Option.bind (f_X10_pv σ v3 0) (fun q2 => if q2 = v1 then (Option.bind (f_X10_pv σ v3 1) (fun q4 => if q4 = v2 then (some v3) else (f_X10_pegAt_2 σ n v1 v2 (v3 + 1)))) else (f_X10_pegAt_2 σ n v1 v2 (v3 + 1))))
set_option maxHeartbeats 4000000 in
set_option maxRecDepth 100000 in
theorem s_X10_pegAt_2 {X : q_X} {G : q_G} {x : q_A} (σ : q_S) (hx : q_Cx X G RX10 cX10_pegAt 4 2) (hr : (q_Xm X).sig.returnType = some .int) {res : Int32} : ∀ (n : Nat) (v1 : Int32) (v2 : Int32) (v3 : Int32), f_X10_pegAt_2 σ n v1 v2 v3 = some res → q_Wq X G x 4 (q_MQ X G (q_Qi G x res σ)) 0 0 2 [(0, .ref (G.2.1 + 292)), (1, .int v1), (2, .int v2), (3, .int v3)] [] σ := by
  intro n
  induction n with
  | zero => exact fun _ _ _ h => nomatch (show (none : Option (Int32)) = some res from h)
  | succ n ih =>
    intro v1 v2 v3 h
    rw [f_X10_pegAt_2] at h
    refine q_iload_n hx dX10_pegAt_2 3 rfl ?_
    refine q_aload_n hx dX10_pegAt_3 0 rfl ?_
    refine q_get (v := .ref (G.2.1 + 293)) hx q_fl_X10_7 dX10_pegAt_4 (q_ne kd_292 (by decide)) (q_e10 kd_292) rfl ?_
    refine q_iconst (v := 1) hx dX10_pegAt_7 (by decide) ?_
    refine q_ialdK (N := 220) hx 1 dX10_pegAt_8 kd_293 (by decide) (by decide) (by decide) (by decide) ?_
    refine q_icmp_ge hx 40 dX10_pegAt_9 (by decide) (fun hc1 => ?_) (fun hc1 => ?_)
    · replace h := (if_pos hc1).symm.trans h
      refine q_iconst (v := (-1)) hx dX10_pegAt_40 (by decide) ?_
      cases h
      exact q_iret hx hr dX10_pegAt_41
    · replace h := (if_neg hc1).symm.trans h
      refine q_aload_n hx dX10_pegAt_12 0 rfl ?_
      refine q_iload_n hx dX10_pegAt_13 3 rfl ?_
      refine q_iconst (v := 0) hx dX10_pegAt_14 (by decide) ?_
      refine q_bindE h (fun q2 hq2 h => ?_)
      refine q_callVi (As := [.int v3, .int 0]) (rest := []) hx q_kR0 (c_X10_pv (q_Xl X) G x σ v3 0 hq2) q_ml_X10_143 q_mn_X10_pv q_mi_X10_pv q_se_X10_pv (by decide) rfl (Nat.le_of_ble_eq_true rfl) dX10_pegAt_15 (q_ne kd_292 (by decide)) (q_e10 kd_292) rfl rfl rfl ?_
      refine q_iload_n hx dX10_pegAt_18 1 rfl ?_
      refine q_icmp_ne hx 34 dX10_pegAt_19 (by decide) (fun hc3 => ?_) (fun hc3 => ?_)
      · replace h := (if_neg hc3).symm.trans h
        refine q_iinc hx [(3, .int (v3 + 1)), (0, .ref (G.2.1 + 292)), (1, .int v1), (2, .int v2)] dX10_pegAt_34 3 rfl rfl (by decide) rfl ?_
        refine q_goto hx 2 dX10_pegAt_37 (by decide) ?_
        refine q_sub [1, 2, 3, 0] rfl ?_
        exact ih v1 v2 (v3 + 1) h
      · replace h := (if_pos hc3).symm.trans h
        refine q_aload_n hx dX10_pegAt_22 0 rfl ?_
        refine q_iload_n hx dX10_pegAt_23 3 rfl ?_
        refine q_iconst (v := 1) hx dX10_pegAt_24 (by decide) ?_
        refine q_bindE h (fun q4 hq4 h => ?_)
        refine q_callVi (As := [.int v3, .int 1]) (rest := []) hx q_kR0 (c_X10_pv (q_Xl X) G x σ v3 1 hq4) q_ml_X10_143 q_mn_X10_pv q_mi_X10_pv q_se_X10_pv (by decide) rfl (Nat.le_of_ble_eq_true rfl) dX10_pegAt_25 (q_ne kd_292 (by decide)) (q_e10 kd_292) rfl rfl rfl ?_
        refine q_iload_n hx dX10_pegAt_28 2 rfl ?_
        refine q_icmp_ne hx 34 dX10_pegAt_29 (by decide) (fun hc5 => ?_) (fun hc5 => ?_)
        · replace h := (if_neg hc5).symm.trans h
          refine q_iinc hx [(3, .int (v3 + 1)), (0, .ref (G.2.1 + 292)), (1, .int v1), (2, .int v2)] dX10_pegAt_34 3 rfl rfl (by decide) rfl ?_
          refine q_goto hx 2 dX10_pegAt_37 (by decide) ?_
          refine q_sub [1, 2, 3, 0] rfl ?_
          exact ih v1 v2 (v3 + 1) h
        · replace h := (if_pos hc5).symm.trans h
          refine q_iload_n hx dX10_pegAt_32 3 rfl ?_
          cases h
          exact q_iret hx hr dX10_pegAt_33
def f_X10_pegAt (σ : q_S) (a1 : Int32) (a2 : Int32) : Option (Int32) :=
  f_X10_pegAt_2 σ q_fu a1 a2 0
set_option maxHeartbeats 4000000 in
set_option maxRecDepth 100000 in
theorem c_X10_pegAt (l : Launch) (G : q_G) (x : q_A) (σ : q_S) (a1 : Int32) (a2 : Int32)  {res : Int32} (h : f_X10_pegAt σ a1 a2 = some res) : q_Met l yX10_pegAt cX10_pegAt 4 (some .int) 2 G [.ref (G.2.1 + 292), .int a1, .int a2] σ x (q_Qi G x res σ) := by
  refine q_of (by decide) (Nat.le_of_ble_eq_true rfl) (fun X hl0 hx hr => ?_)
  subst hl0
  have hx : q_Cx X G RX10 cX10_pegAt 4 2 := hx
  unfold f_X10_pegAt at h
  show q_Wq X G x 4 (q_MQ X G (q_Qi G x res σ)) 0 0 0 [(0, .ref (G.2.1 + 292)), (1, .int a1), (2, .int a2)] [] σ
  refine q_iconst (v := 0) hx dX10_pegAt_0 (by decide) ?_
  refine q_istore_n hx [(3, .int 0), (0, .ref (G.2.1 + 292)), (1, .int a1), (2, .int a2)] dX10_pegAt_1 (by decide) rfl ?_
  refine q_sub [1, 2, 3, 0] rfl ?_
  exact s_X10_pegAt_2 σ hx hr q_fu a1 a2 0 h
-- X10_isLit
def f_X10_isLit (σ : q_S) (a1 : Int32) : Option (Int32) :=
  Option.bind (f_X10_pv σ a1 2) (fun q1 => if q1 = 0 then none else if ((σ 293 2) - (σ 293 2) / q1 * q1) = 0 then (some 1) else (some 0))
set_option maxHeartbeats 4000000 in
set_option maxRecDepth 100000 in
theorem c_X10_isLit (l : Launch) (G : q_G) (x : q_A) (σ : q_S) (a1 : Int32)  {res : Int32} (h : f_X10_isLit σ a1 = some res) : q_Met l yX10_isLit cX10_isLit 2 (some .boolean) 2 G [.ref (G.2.1 + 292), .int a1] σ x (q_Qi G x res σ) := by
  refine q_of (by decide) (Nat.le_of_ble_eq_true rfl) (fun X hl0 hx hr => ?_)
  subst hl0
  have hx : q_Cx X G RX10 cX10_isLit 2 2 := hx
  unfold f_X10_isLit at h
  show q_Wq X G x 2 (q_MQ X G (q_Qi G x res σ)) 0 0 0 [(0, .ref (G.2.1 + 292)), (1, .int a1)] [] σ
  refine q_aload_n hx dX10_isLit_0 0 rfl ?_
  refine q_get (v := .ref (G.2.1 + 293)) hx q_fl_X10_7 dX10_isLit_1 (q_ne kd_292 (by decide)) (q_e10 kd_292) rfl ?_
  refine q_iconst (v := 2) hx dX10_isLit_4 (by decide) ?_
  refine q_ialdK (N := 220) hx 2 dX10_isLit_5 kd_293 (by decide) (by decide) (by decide) (by decide) ?_
  refine q_aload_n hx dX10_isLit_6 0 rfl ?_
  refine q_iload_n hx dX10_isLit_7 1 rfl ?_
  refine q_iconst (v := 2) hx dX10_isLit_8 (by decide) ?_
  refine q_bindE h (fun q1 hq1 h => ?_)
  refine q_callVi (As := [.int a1, .int 2]) (rest := [.int (σ 293 2)]) hx q_kR0 (c_X10_pv (q_Xl X) G x σ a1 2 hq1) q_ml_X10_143 q_mn_X10_pv q_mi_X10_pv q_se_X10_pv (by decide) rfl (Nat.le_of_ble_eq_true rfl) dX10_isLit_9 (q_ne kd_292 (by decide)) (q_e10 kd_292) rfl rfl rfl ?_
  by_cases hg2 : q1 = 0
  · rw [if_pos hg2] at h; exact nomatch h
  replace h := (if_neg hg2).symm.trans h
  refine q_irem hx dX10_isLit_12 hg2 ?_
  refine q_if_ne hx 20 dX10_isLit_13 (by decide) (fun hc3 => ?_) (fun hc3 => ?_)
  · replace h := (if_neg hc3).symm.trans h
    refine q_iconst (v := 0) hx dX10_isLit_20 (by decide) ?_
    cases h
    exact q_zret hx hr rfl dX10_isLit_21
  · replace h := (if_pos hc3).symm.trans h
    refine q_iconst (v := 1) hx dX10_isLit_16 (by decide) ?_
    refine q_goto hx 21 dX10_isLit_17 (by decide) ?_
    cases h
    exact q_zret hx hr rfl dX10_isLit_21
-- X10_isPeriod
def f_X10_isPeriod (a0 : Int32) : Option (Int32) :=
  if ((f_X10_in a0 2 5) = 0 ∨ (f_X10_in a0 2 5) = 1) then some ((f_X10_in a0 2 5)) else none
set_option maxHeartbeats 4000000 in
set_option maxRecDepth 100000 in
theorem c_X10_isPeriod (l : Launch) (G : q_G) (x : q_A) (σ : q_S) (a0 : Int32)  {res : Int32} (h : f_X10_isPeriod a0 = some res) : q_Met l yX10_isPeriod cX10_isPeriod 1 (some .boolean) 2 G [.int a0] σ x (q_Qi G x res σ) := by
  refine q_of (by decide) (Nat.le_of_ble_eq_true rfl) (fun X hl0 hx hr => ?_)
  subst hl0
  have hx : q_Cx X G RX10 cX10_isPeriod 1 2 := hx
  unfold f_X10_isPeriod at h
  show q_Wq X G x 1 (q_MQ X G (q_Qi G x res σ)) 0 0 0 [(0, .int a0)] [] σ
  refine q_iload_n hx dX10_isPeriod_0 0 rfl ?_
  refine q_iconst (v := 2) hx dX10_isPeriod_1 (by decide) ?_
  refine q_iconst (v := 5) hx dX10_isPeriod_2 (by decide) ?_
  refine q_callSi (As := [.int a0, .int 2, .int 5]) (rest := []) hx q_kR0 (c_X10_in (q_Xl X) G x σ a0 2 5) q_ml_X10_115 q_mn_X10_in q_ms_X10_in (by decide) rfl (Nat.le_of_ble_eq_true rfl) dX10_isPeriod_3 rfl ?_
  by_cases hg1 : ((f_X10_in a0 2 5) = 0 ∨ (f_X10_in a0 2 5) = 1)
  case neg => rw [if_neg hg1] at h; exact nomatch h
  replace h := (if_pos hg1).symm.trans h
  cases h
  exact q_zret hx hr (q_zn hg1) dX10_isPeriod_6
-- X10_isRefusedPeg
def f_X10_isRefusedPeg (σ : q_S) (a1 : Int32) (a2 : Int32) : Option (Int32 × q_S) :=
  Option.bind (f_X10_pegAt σ a1 a2) (fun q1 => if q1 < 0 then (if (σ 293 1) = 8 then (if ((f_X10_isBad σ 1 8).1) = 0 then (some ((0, (f_X10_isBad σ 1 8).2))) else (some ((1, (f_X10_isBad σ 1 8).2)))) else (some ((0, σ)))) else (Option.bind (f_X10_pegAt σ a1 a2) (fun q5 => if ((f_X10_isBad σ 2 q5).1 = 0 ∨ (f_X10_isBad σ 2 q5).1 = 1) then some (((f_X10_isBad σ 2 q5).1, (f_X10_isBad σ 2 q5).2)) else none)))
set_option maxHeartbeats 4000000 in
set_option maxRecDepth 100000 in
theorem c_X10_isRefusedPeg (l : Launch) (G : q_G) (x : q_A) (σ : q_S) (a1 : Int32) (a2 : Int32)  {res : Int32 × q_S} (h : f_X10_isRefusedPeg σ a1 a2 = some res) : q_Met l yX10_isRefusedPeg cX10_isRefusedPeg 3 (some .boolean) 3 G [.ref (G.2.1 + 292), .int a1, .int a2] σ x (q_Qi G x res.1 res.2) := by
  refine q_of (by decide) (Nat.le_of_ble_eq_true rfl) (fun X hl0 hx hr => ?_)
  subst hl0
  have hx : q_Cx X G RX10 cX10_isRefusedPeg 3 3 := hx
  unfold f_X10_isRefusedPeg at h
  show q_Wq X G x 3 (q_MQ X G (q_Qi G x res.1 res.2)) 0 0 0 [(0, .ref (G.2.1 + 292)), (1, .int a1), (2, .int a2)] [] σ
  refine q_aload_n hx dX10_isRefusedPeg_0 0 rfl ?_
  refine q_iload_n hx dX10_isRefusedPeg_1 1 rfl ?_
  refine q_iload_n hx dX10_isRefusedPeg_2 2 rfl ?_
  refine q_bindE h (fun q1 hq1 h => ?_)
  refine q_callVi (As := [.int a1, .int a2]) (rest := []) hx q_kR0 (c_X10_pegAt (q_Xl X) G x σ a1 a2 hq1) q_ml_X10_146 q_mn_X10_pegAt q_mi_X10_pegAt q_se_X10_pegAt (by decide) rfl (Nat.le_of_ble_eq_true rfl) dX10_isRefusedPeg_3 (q_ne kd_292 (by decide)) (q_e10 kd_292) rfl rfl rfl ?_
  refine q_if_lt hx 21 dX10_isRefusedPeg_6 (by decide) (fun hc2 => ?_) (fun hc2 => ?_)
  · replace h := (if_pos hc2).symm.trans h
    refine q_aload_n hx dX10_isRefusedPeg_21 0 rfl ?_
    refine q_get (v := .ref (G.2.1 + 293)) hx q_fl_X10_7 dX10_isRefusedPeg_22 (q_ne kd_292 (by decide)) (q_e10 kd_292) rfl ?_
    refine q_iconst (v := 1) hx dX10_isRefusedPeg_25 (by decide) ?_
    refine q_ialdK (N := 220) hx 1 dX10_isRefusedPeg_26 kd_293 (by decide) (by decide) (by decide) (by decide) ?_
    refine q_bipush (v := 8) hx dX10_isRefusedPeg_27 (by decide) ?_
    refine q_icmp_ne hx 46 dX10_isRefusedPeg_29 (by decide) (fun hc3 => ?_) (fun hc3 => ?_)
    · replace h := (if_neg hc3).symm.trans h
      refine q_iconst (v := 0) hx dX10_isRefusedPeg_46 (by decide) ?_
      cases h
      exact q_zret (v := 0) hx hr rfl dX10_isRefusedPeg_47
    · replace h := (if_pos hc3).symm.trans h
      refine q_aload_n hx dX10_isRefusedPeg_32 0 rfl ?_
      refine q_iconst (v := 1) hx dX10_isRefusedPeg_33 (by decide) ?_
      refine q_bipush (v := 8) hx dX10_isRefusedPeg_34 (by decide) ?_
      refine q_callVi (As := [.int 1, .int 8]) (rest := []) hx q_kR0 (c_X10_isBad (q_Xl X) G x σ 1 8) q_ml_X10_119 q_mn_X10_isBad q_mi_X10_isBad q_se_X10_isBad (by decide) rfl (Nat.le_of_ble_eq_true rfl) dX10_isRefusedPeg_36 (q_ne kd_292 (by decide)) (q_e10 kd_292) rfl rfl rfl ?_
      refine q_if_eq hx 46 dX10_isRefusedPeg_39 (by decide) (fun hc4 => ?_) (fun hc4 => ?_)
      · replace h := (if_pos hc4).symm.trans h
        refine q_iconst (v := 0) hx dX10_isRefusedPeg_46 (by decide) ?_
        cases h
        exact q_zret (v := 0) hx hr rfl dX10_isRefusedPeg_47
      · replace h := (if_neg hc4).symm.trans h
        refine q_iconst (v := 1) hx dX10_isRefusedPeg_42 (by decide) ?_
        refine q_goto hx 47 dX10_isRefusedPeg_43 (by decide) ?_
        cases h
        exact q_zret (v := 1) hx hr rfl dX10_isRefusedPeg_47
  · replace h := (if_neg hc2).symm.trans h
    refine q_aload_n hx dX10_isRefusedPeg_9 0 rfl ?_
    refine q_iconst (v := 2) hx dX10_isRefusedPeg_10 (by decide) ?_
    refine q_aload_n hx dX10_isRefusedPeg_11 0 rfl ?_
    refine q_iload_n hx dX10_isRefusedPeg_12 1 rfl ?_
    refine q_iload_n hx dX10_isRefusedPeg_13 2 rfl ?_
    refine q_bindE h (fun q5 hq5 h => ?_)
    refine q_callVi (As := [.int a1, .int a2]) (rest := [.int 2, .ref (G.2.1 + 292)]) hx q_kR0 (c_X10_pegAt (q_Xl X) G x σ a1 a2 hq5) q_ml_X10_146 q_mn_X10_pegAt q_mi_X10_pegAt q_se_X10_pegAt (by decide) rfl (Nat.le_of_ble_eq_true rfl) dX10_isRefusedPeg_14 (q_ne kd_292 (by decide)) (q_e10 kd_292) rfl rfl rfl ?_
    refine q_callVi (As := [.int 2, .int q5]) (rest := []) hx q_kR0 (c_X10_isBad (q_Xl X) G x σ 2 q5) q_ml_X10_119 q_mn_X10_isBad q_mi_X10_isBad q_se_X10_isBad (by decide) rfl (Nat.le_of_ble_eq_true rfl) dX10_isRefusedPeg_17 (q_ne kd_292 (by decide)) (q_e10 kd_292) rfl rfl rfl ?_
    by_cases hg6 : ((f_X10_isBad σ 2 q5).1 = 0 ∨ (f_X10_isBad σ 2 q5).1 = 1)
    case neg => rw [if_neg hg6] at h; exact nomatch h
    replace h := (if_pos hg6).symm.trans h
    cases h
    exact q_zret (v := (f_X10_isBad σ 2 q5).1) hx hr (q_zn hg6) dX10_isRefusedPeg_20
-- X10_sets
def f_X10_sets (σ : q_S) (a1 : Int32) (a2 : Int32) (a3 : Int32) : Option (Int32 × q_S) :=
  if ((6 + (3 * (σ 293 1))) < 0 ∨ 220 ≤ (6 + (3 * (σ 293 1))).toNatClampNeg) then none else if (((6 + (3 * (σ 293 1))) + 1) < 0 ∨ 220 ≤ ((6 + (3 * (σ 293 1))) + 1).toNatClampNeg) then none else if (((6 + (3 * (σ 293 1))) + 2) < 0 ∨ 220 ≤ ((6 + (3 * (σ 293 1))) + 2).toNatClampNeg) then none else some ((σ 293 1, q_up (q_up (q_up (q_up σ 293 (6 + (3 * (σ 293 1))).toNatClampNeg a1) 293 ((6 + (3 * (σ 293 1))) + 1).toNatClampNeg a2) 293 ((6 + (3 * (σ 293 1))) + 2).toNatClampNeg a3) 293 1 (((q_up (q_up (q_up σ 293 (6 + (3 * (σ 293 1))).toNatClampNeg a1) 293 ((6 + (3 * (σ 293 1))) + 1).toNatClampNeg a2) 293 ((6 + (3 * (σ 293 1))) + 2).toNatClampNeg a3) 293 1) + 1)))
set_option maxHeartbeats 4000000 in
set_option maxRecDepth 100000 in
theorem c_X10_sets (l : Launch) (G : q_G) (x : q_A) (σ : q_S) (a1 : Int32) (a2 : Int32) (a3 : Int32)  {res : Int32 × q_S} (h : f_X10_sets σ a1 a2 a3 = some res) : q_Met l yX10_sets cX10_sets 5 (some .int) 1 G [.ref (G.2.1 + 292), .int a1, .int a2, .int a3] σ x (q_Qi G x res.1 res.2) := by
  refine q_of (by decide) (Nat.le_of_ble_eq_true rfl) (fun X hl0 hx hr => ?_)
  subst hl0
  have hx : q_Cx X G RX10 cX10_sets 5 1 := hx
  unfold f_X10_sets at h
  show q_Wq X G x 5 (q_MQ X G (q_Qi G x res.1 res.2)) 0 0 0 [(0, .ref (G.2.1 + 292)), (1, .int a1), (2, .int a2), (3, .int a3)] [] σ
  refine q_aload_n hx dX10_sets_0 0 rfl ?_
  refine q_get (v := .ref (G.2.1 + 293)) hx q_fl_X10_7 dX10_sets_1 (q_ne kd_292 (by decide)) (q_e10 kd_292) rfl ?_
  refine q_iconst (v := 1) hx dX10_sets_4 (by decide) ?_
  refine q_ialdK (N := 220) hx 1 dX10_sets_5 kd_293 (by decide) (by decide) (by decide) (by decide) ?_
  refine q_istore hx [(4, .int (σ 293 1)), (0, .ref (G.2.1 + 292)), (1, .int a1), (2, .int a2), (3, .int a3)] dX10_sets_6 (by decide) rfl ?_
  refine q_aload_n hx dX10_sets_8 1 rfl ?_
  refine q_get (v := .ref (G.2.1 + 293)) hx q_fl_X10_7 dX10_sets_9 (q_ne kd_292 (by decide)) (q_e10 kd_292) rfl ?_
  refine q_bipush (v := 6) hx dX10_sets_12 (by decide) ?_
  refine q_iconst (v := 3) hx dX10_sets_14 (by decide) ?_
  refine q_iload hx dX10_sets_15 0 rfl ?_
  refine q_imul hx dX10_sets_17 ?_
  refine q_iadd hx dX10_sets_18 ?_
  refine q_iload_n hx dX10_sets_19 2 rfl ?_
  by_cases hg1 : ((6 + (3 * (σ 293 1))) < 0 ∨ 220 ≤ (6 + (3 * (σ 293 1))).toNatClampNeg)
  · rw [if_pos hg1] at h; exact nomatch h
  replace h := (if_neg hg1).symm.trans h
  refine q_iast (N := 220) hx dX10_sets_20 kd_293 (by first | decide | assumption) hg1 ?_
  refine q_aload_n hx dX10_sets_21 1 rfl ?_
  refine q_get (v := .ref (G.2.1 + 293)) hx q_fl_X10_7 dX10_sets_22 (q_ne kd_292 (by decide)) (q_e10 kd_292) rfl ?_
  refine q_bipush (v := 6) hx dX10_sets_25 (by decide) ?_
  refine q_iconst (v := 3) hx dX10_sets_27 (by decide) ?_
  refine q_iload hx dX10_sets_28 0 rfl ?_
  refine q_imul hx dX10_sets_30 ?_
  refine q_iadd hx dX10_sets_31 ?_
  refine q_iconst (v := 1) hx dX10_sets_32 (by decide) ?_
  refine q_iadd hx dX10_sets_33 ?_
  refine q_iload_n hx dX10_sets_34 3 rfl ?_
  by_cases hg2 : (((6 + (3 * (σ 293 1))) + 1) < 0 ∨ 220 ≤ ((6 + (3 * (σ 293 1))) + 1).toNatClampNeg)
  · rw [if_pos hg2] at h; exact nomatch h
  replace h := (if_neg hg2).symm.trans h
  refine q_iast (N := 220) hx dX10_sets_35 kd_293 (by first | decide | assumption) hg2 ?_
  refine q_aload_n hx dX10_sets_36 1 rfl ?_
  refine q_get (v := .ref (G.2.1 + 293)) hx q_fl_X10_7 dX10_sets_37 (q_ne kd_292 (by decide)) (q_e10 kd_292) rfl ?_
  refine q_bipush (v := 6) hx dX10_sets_40 (by decide) ?_
  refine q_iconst (v := 3) hx dX10_sets_42 (by decide) ?_
  refine q_iload hx dX10_sets_43 0 rfl ?_
  refine q_imul hx dX10_sets_45 ?_
  refine q_iadd hx dX10_sets_46 ?_
  refine q_iconst (v := 2) hx dX10_sets_47 (by decide) ?_
  refine q_iadd hx dX10_sets_48 ?_
  refine q_iload_n hx dX10_sets_49 4 rfl ?_
  by_cases hg3 : (((6 + (3 * (σ 293 1))) + 2) < 0 ∨ 220 ≤ ((6 + (3 * (σ 293 1))) + 2).toNatClampNeg)
  · rw [if_pos hg3] at h; exact nomatch h
  replace h := (if_neg hg3).symm.trans h
  refine q_iast (N := 220) hx dX10_sets_50 kd_293 (by first | decide | assumption) hg3 ?_
  refine q_aload_n hx dX10_sets_51 1 rfl ?_
  refine q_get (v := .ref (G.2.1 + 293)) hx q_fl_X10_7 dX10_sets_52 (q_ne kd_292 (by decide)) (q_e10 kd_292) rfl ?_
  refine q_iconst (v := 1) hx dX10_sets_55 (by decide) ?_
  refine q_dup2 hx dX10_sets_56 rfl rfl ?_
  refine q_ialdK (N := 220) hx 1 dX10_sets_57 kd_293 (by decide) (by decide) (by decide) (by decide) ?_
  refine q_iconst (v := 1) hx dX10_sets_58 (by decide) ?_
  refine q_iadd hx dX10_sets_59 ?_
  refine q_iastK (N := 220) hx 1 dX10_sets_60 kd_293 (by decide) (by decide) (by decide) (by decide) ?_
  refine q_iload hx dX10_sets_61 0 rfl ?_
  cases h
  exact q_iret hx hr dX10_sets_63
-- X10_peg
def f_X10_peg (σ : q_S) (a1 : Int32) (a2 : Int32) (a3 : Int32) : Option (Int32 × q_S) :=
  Option.bind (f_X10_begins σ) (fun q1 => if ((f_X10_isCorner a1 a2)) = 0 then (some (((f_X10_no q1 1).1, (f_X10_no q1 1).2))) else (Option.bind (f_X10_isPeriod a3) (fun q3 => if q3 = 0 then (some (((f_X10_no q1 2).1, (f_X10_no q1 2).2))) else (Option.bind (f_X10_isRefusedPeg q1 a1 a2) (fun q5 => if q5.1 = 0 then (Option.bind (f_X10_sets q5.2 a1 a2 a3) (fun q7 => Option.bind (f_X10_keeps q7.2 q7.1) (fun q8 => some ((q8.1, q8.2))))) else (some (((f_X10_refused q5.2 3).1, (f_X10_refused q5.2 3).2))))))))
set_option maxHeartbeats 4000000 in
set_option maxRecDepth 100000 in
theorem c_X10_peg (l : Launch) (G : q_G) (x : q_A) (σ : q_S) (a1 : Int32) (a2 : Int32) (a3 : Int32)  {res : Int32 × q_S} (h : f_X10_peg σ a1 a2 a3 = some res) : q_Met l yX10_peg cX10_peg 4 (some .int) 4 G [.ref (G.2.1 + 292), .int a1, .int a2, .int a3] σ x (q_Qi G x res.1 res.2) := by
  refine q_of (by decide) (Nat.le_of_ble_eq_true rfl) (fun X hl0 hx hr => ?_)
  subst hl0
  have hx : q_Cx X G RX10 cX10_peg 4 4 := hx
  unfold f_X10_peg at h
  show q_Wq X G x 4 (q_MQ X G (q_Qi G x res.1 res.2)) 0 0 0 [(0, .ref (G.2.1 + 292)), (1, .int a1), (2, .int a2), (3, .int a3)] [] σ
  refine q_aload_n hx dX10_peg_0 0 rfl ?_
  refine q_bindE h (fun q1 hq1 h => ?_)
  refine q_callVv (As := []) (rest := []) hx q_kR0 (c_X10_begins (q_Xl X) G x σ  hq1) q_ml_X10_127 q_mn_X10_begins q_mi_X10_begins q_se_X10_begins (by decide) rfl (Nat.le_of_ble_eq_true rfl) dX10_peg_1 (q_ne kd_292 (by decide)) (q_e10 kd_292) rfl rfl rfl ?_
  refine q_iload_n hx dX10_peg_4 1 rfl ?_
  refine q_iload_n hx dX10_peg_5 2 rfl ?_
  refine q_callSi (As := [.int a1, .int a2]) (rest := []) hx q_kR0 (c_X10_isCorner (q_Xl X) G x q1 a1 a2) q_ml_X10_149 q_mn_X10_isCorner q_ms_X10_isCorner (by decide) rfl (Nat.le_of_ble_eq_true rfl) dX10_peg_6 rfl ?_
  refine q_if_ne hx 18 dX10_peg_9 (by decide) (fun hc2 => ?_) (fun hc2 => ?_)
  · replace h := (if_neg hc2).symm.trans h
    refine q_iload_n hx dX10_peg_18 3 rfl ?_
    refine q_bindE h (fun q3 hq3 h => ?_)
    refine q_callSi (As := [.int a3]) (rest := []) hx q_kR0 (c_X10_isPeriod (q_Xl X) G x q1 a3 hq3) q_ml_X10_152 q_mn_X10_isPeriod q_ms_X10_isPeriod (by decide) rfl (Nat.le_of_ble_eq_true rfl) dX10_peg_19 rfl ?_
    refine q_if_ne hx 31 dX10_peg_22 (by decide) (fun hc4 => ?_) (fun hc4 => ?_)
    · replace h := (if_neg hc4).symm.trans h
      refine q_aload_n hx dX10_peg_31 0 rfl ?_
      refine q_iload_n hx dX10_peg_32 1 rfl ?_
      refine q_iload_n hx dX10_peg_33 2 rfl ?_
      refine q_bindE h (fun q5 hq5 h => ?_)
      refine q_callVi (As := [.int a1, .int a2]) (rest := []) hx q_kR0 (c_X10_isRefusedPeg (q_Xl X) G x q1 a1 a2 hq5) q_ml_X10_156 q_mn_X10_isRefusedPeg q_mi_X10_isRefusedPeg q_se_X10_isRefusedPeg (by decide) rfl (Nat.le_of_ble_eq_true rfl) dX10_peg_34 (q_ne kd_292 (by decide)) (q_e10 kd_292) rfl rfl rfl ?_
      refine q_if_eq hx 48 dX10_peg_37 (by decide) (fun hc6 => ?_) (fun hc6 => ?_)
      · replace h := (if_pos hc6).symm.trans h
        refine q_aload_n hx dX10_peg_48 0 rfl ?_
        refine q_aload_n hx dX10_peg_49 0 rfl ?_
        refine q_iload_n hx dX10_peg_50 1 rfl ?_
        refine q_iload_n hx dX10_peg_51 2 rfl ?_
        refine q_iload_n hx dX10_peg_52 3 rfl ?_
        refine q_bindE h (fun q7 hq7 h => ?_)
        refine q_callVi (As := [.int a1, .int a2, .int a3]) (rest := [.ref (G.2.1 + 292)]) hx q_kR0 (c_X10_sets (q_Xl X) G x q5.2 a1 a2 a3 hq7) q_ml_X10_159 q_mn_X10_sets q_mi_X10_sets q_se_X10_sets (by decide) rfl (Nat.le_of_ble_eq_true rfl) dX10_peg_53 (q_ne kd_292 (by decide)) (q_e10 kd_292) rfl rfl rfl ?_
        refine q_bindE h (fun q8 hq8 h => ?_)
        refine q_callVi (As := [.int q7.1]) (rest := []) hx q_kR0 (c_X10_keeps (q_Xl X) G x q7.2 q7.1 hq8) q_ml_X10_140 q_mn_X10_keeps q_mi_X10_keeps q_se_X10_keeps (by decide) rfl (Nat.le_of_ble_eq_true rfl) dX10_peg_56 (q_ne kd_292 (by decide)) (q_e10 kd_292) rfl rfl rfl ?_
        cases h
        exact q_iret hx hr dX10_peg_59
      · replace h := (if_neg hc6).symm.trans h
        refine q_aload_n hx dX10_peg_40 0 rfl ?_
        refine q_iconst (v := 3) hx dX10_peg_41 (by decide) ?_
        refine q_callVi (As := [.int 3]) (rest := []) hx q_kR0 (c_X10_refused (q_Xl X) G x q5.2 3) q_ml_X10_134 q_mn_X10_refused q_mi_X10_refused q_se_X10_refused (by decide) rfl (Nat.le_of_ble_eq_true rfl) dX10_peg_42 (q_ne kd_292 (by decide)) (q_e10 kd_292) rfl rfl rfl ?_
        refine q_goto hx 59 dX10_peg_45 (by decide) ?_
        cases h
        exact q_iret hx hr dX10_peg_59
    · replace h := (if_pos hc4).symm.trans h
      refine q_aload_n hx dX10_peg_25 0 rfl ?_
      refine q_iconst (v := 2) hx dX10_peg_26 (by decide) ?_
      refine q_callVi (As := [.int 2]) (rest := []) hx q_kR0 (c_X10_no (q_Xl X) G x q1 2) q_ml_X10_103 q_mn_X10_no q_mi_X10_no q_se_X10_no (by decide) rfl (Nat.le_of_ble_eq_true rfl) dX10_peg_27 (q_ne kd_292 (by decide)) (q_e10 kd_292) rfl rfl rfl ?_
      cases h
      exact q_iret hx hr dX10_peg_30
  · replace h := (if_pos hc2).symm.trans h
    refine q_aload_n hx dX10_peg_12 0 rfl ?_
    refine q_iconst (v := 1) hx dX10_peg_13 (by decide) ?_
    refine q_callVi (As := [.int 1]) (rest := []) hx q_kR0 (c_X10_no (q_Xl X) G x q1 1) q_ml_X10_103 q_mn_X10_no q_mi_X10_no q_se_X10_no (by decide) rfl (Nat.le_of_ble_eq_true rfl) dX10_peg_14 (q_ne kd_292 (by decide)) (q_e10 kd_292) rfl rfl rfl ?_
    cases h
    exact q_iret hx hr dX10_peg_17
-- X10_isRefusedPlot
def f_X10_isRefusedPlot (σ : q_S) (a1 : Int32) : Option (Int32 × q_S) :=
  Option.bind (f_X10_sv σ a1 1) (fun q1 => if q1 ≤ 0 then (some ((0, σ))) else (Option.bind (f_X10_sv σ a1 4) (fun q3 => if ((f_X10_isBad σ 3 q3).1) = 0 then (some ((0, (f_X10_isBad σ 3 q3).2))) else (some ((1, (f_X10_isBad σ 3 q3).2))))))
set_option maxHeartbeats 4000000 in
set_option maxRecDepth 100000 in
theorem c_X10_isRefusedPlot (l : Launch) (G : q_G) (x : q_A) (σ : q_S) (a1 : Int32)  {res : Int32 × q_S} (h : f_X10_isRefusedPlot σ a1 = some res) : q_Met l yX10_isRefusedPlot cX10_isRefusedPlot 2 (some .boolean) 2 G [.ref (G.2.1 + 292), .int a1] σ x (q_Qi G x res.1 res.2) := by
  refine q_of (by decide) (Nat.le_of_ble_eq_true rfl) (fun X hl0 hx hr => ?_)
  subst hl0
  have hx : q_Cx X G RX10 cX10_isRefusedPlot 2 2 := hx
  unfold f_X10_isRefusedPlot at h
  show q_Wq X G x 2 (q_MQ X G (q_Qi G x res.1 res.2)) 0 0 0 [(0, .ref (G.2.1 + 292)), (1, .int a1)] [] σ
  refine q_aload_n hx dX10_isRefusedPlot_0 0 rfl ?_
  refine q_iload_n hx dX10_isRefusedPlot_1 1 rfl ?_
  refine q_iconst (v := 1) hx dX10_isRefusedPlot_2 (by decide) ?_
  refine q_bindE h (fun q1 hq1 h => ?_)
  refine q_callVi (As := [.int a1, .int 1]) (rest := []) hx q_kR0 (c_X10_sv (q_Xl X) G x σ a1 1 hq1) q_ml_X10_111 q_mn_X10_sv q_mi_X10_sv q_se_X10_sv (by decide) rfl (Nat.le_of_ble_eq_true rfl) dX10_isRefusedPlot_3 (q_ne kd_292 (by decide)) (q_e10 kd_292) rfl rfl rfl ?_
  refine q_if_le hx 27 dX10_isRefusedPlot_6 (by decide) (fun hc2 => ?_) (fun hc2 => ?_)
  · replace h := (if_pos hc2).symm.trans h
    refine q_iconst (v := 0) hx dX10_isRefusedPlot_27 (by decide) ?_
    cases h
    exact q_zret (v := 0) hx hr rfl dX10_isRefusedPlot_28
  · replace h := (if_neg hc2).symm.trans h
    refine q_aload_n hx dX10_isRefusedPlot_9 0 rfl ?_
    refine q_iconst (v := 3) hx dX10_isRefusedPlot_10 (by decide) ?_
    refine q_aload_n hx dX10_isRefusedPlot_11 0 rfl ?_
    refine q_iload_n hx dX10_isRefusedPlot_12 1 rfl ?_
    refine q_iconst (v := 4) hx dX10_isRefusedPlot_13 (by decide) ?_
    refine q_bindE h (fun q3 hq3 h => ?_)
    refine q_callVi (As := [.int a1, .int 4]) (rest := [.int 3, .ref (G.2.1 + 292)]) hx q_kR0 (c_X10_sv (q_Xl X) G x σ a1 4 hq3) q_ml_X10_111 q_mn_X10_sv q_mi_X10_sv q_se_X10_sv (by decide) rfl (Nat.le_of_ble_eq_true rfl) dX10_isRefusedPlot_14 (q_ne kd_292 (by decide)) (q_e10 kd_292) rfl rfl rfl ?_
    refine q_callVi (As := [.int 3, .int q3]) (rest := []) hx q_kR0 (c_X10_isBad (q_Xl X) G x σ 3 q3) q_ml_X10_119 q_mn_X10_isBad q_mi_X10_isBad q_se_X10_isBad (by decide) rfl (Nat.le_of_ble_eq_true rfl) dX10_isRefusedPlot_17 (q_ne kd_292 (by decide)) (q_e10 kd_292) rfl rfl rfl ?_
    refine q_if_eq hx 27 dX10_isRefusedPlot_20 (by decide) (fun hc4 => ?_) (fun hc4 => ?_)
    · replace h := (if_pos hc4).symm.trans h
      refine q_iconst (v := 0) hx dX10_isRefusedPlot_27 (by decide) ?_
      cases h
      exact q_zret (v := 0) hx hr rfl dX10_isRefusedPlot_28
    · replace h := (if_neg hc4).symm.trans h
      refine q_iconst (v := 1) hx dX10_isRefusedPlot_23 (by decide) ?_
      refine q_goto hx 28 dX10_isRefusedPlot_24 (by decide) ?_
      cases h
      exact q_zret (v := 1) hx hr rfl dX10_isRefusedPlot_28
-- X10_plots
def f_X10_plots_4 (σ : q_S) : Nat → Int32 → Int32 → Int32 → Option (Int32)
  | 0, _, _, _ => none
  | n + 1, v1, v2, v3 =>
    if (σ 293 0) ≤ v3 then (some v2) else (Option.bind (f_X10_sv σ v3 1) (fun q2 => if q2 < v1 then (f_X10_plots_4 σ n v1 (v2 + 0) (v3 + 1)) else (f_X10_plots_4 σ n v1 (v2 + 1) (v3 + 1))))
set_option maxHeartbeats 4000000 in
set_option maxRecDepth 100000 in
theorem s_X10_plots_4 {X : q_X} {G : q_G} {x : q_A} (σ : q_S) (hx : q_Cx X G RX10 cX10_plots 4 2) (hr : (q_Xm X).sig.returnType = some .int) {res : Int32} : ∀ (n : Nat) (v1 : Int32) (v2 : Int32) (v3 : Int32), f_X10_plots_4 σ n v1 v2 v3 = some res → q_Wq X G x 4 (q_MQ X G (q_Qi G x res σ)) 0 0 4 [(0, .ref (G.2.1 + 292)), (1, .int v1), (2, .int v2), (3, .int v3)] [] σ := by
  intro n
  induction n with
  | zero => exact fun _ _ _ h => nomatch (show (none : Option (Int32)) = some res from h)
  | succ n ih =>
    intro v1 v2 v3 h
    rw [f_X10_plots_4] at h
    refine q_iload_n hx dX10_plots_4 3 rfl ?_
    refine q_aload_n hx dX10_plots_5 0 rfl ?_
    refine q_get (v := .ref (G.2.1 + 293)) hx q_fl_X10_7 dX10_plots_6 (q_ne kd_292 (by decide)) (q_e10 kd_292) rfl ?_
    refine q_iconst (v := 0) hx dX10_plots_9 (by decide) ?_
    refine q_ialdK (N := 220) hx 0 dX10_plots_10 kd_293 (by decide) (by decide) (by decide) (by decide) ?_
    refine q_icmp_ge hx 38 dX10_plots_11 (by decide) (fun hc1 => ?_) (fun hc1 => ?_)
    · replace h := (if_pos hc1).symm.trans h
      refine q_iload_n hx dX10_plots_38 2 rfl ?_
      cases h
      exact q_iret hx hr dX10_plots_39
    · replace h := (if_neg hc1).symm.trans h
      refine q_iload_n hx dX10_plots_14 2 rfl ?_
      refine q_aload_n hx dX10_plots_15 0 rfl ?_
      refine q_iload_n hx dX10_plots_16 3 rfl ?_
      refine q_iconst (v := 1) hx dX10_plots_17 (by decide) ?_
      refine q_bindE h (fun q2 hq2 h => ?_)
      refine q_callVi (As := [.int v3, .int 1]) (rest := [.int v2]) hx q_kR0 (c_X10_sv (q_Xl X) G x σ v3 1 hq2) q_ml_X10_111 q_mn_X10_sv q_mi_X10_sv q_se_X10_sv (by decide) rfl (Nat.le_of_ble_eq_true rfl) dX10_plots_18 (q_ne kd_292 (by decide)) (q_e10 kd_292) rfl rfl rfl ?_
      refine q_iload_n hx dX10_plots_21 1 rfl ?_
      refine q_icmp_lt hx 29 dX10_plots_22 (by decide) (fun hc3 => ?_) (fun hc3 => ?_)
      · replace h := (if_pos hc3).symm.trans h
        refine q_iconst (v := 0) hx dX10_plots_29 (by decide) ?_
        refine q_iadd hx dX10_plots_30 ?_
        refine q_istore_n hx [(2, .int (v2 + 0)), (0, .ref (G.2.1 + 292)), (1, .int v1), (3, .int v3)] dX10_plots_31 (by decide) rfl ?_
        refine q_iinc hx [(3, .int (v3 + 1)), (2, .int (v2 + 0)), (0, .ref (G.2.1 + 292)), (1, .int v1)] dX10_plots_32 3 rfl rfl (by decide) rfl ?_
        refine q_goto hx 4 dX10_plots_35 (by decide) ?_
        refine q_sub [2, 3, 1, 0] rfl ?_
        exact ih v1 (v2 + 0) (v3 + 1) h
      · replace h := (if_neg hc3).symm.trans h
        refine q_iconst (v := 1) hx dX10_plots_25 (by decide) ?_
        refine q_goto hx 30 dX10_plots_26 (by decide) ?_
        refine q_iadd hx dX10_plots_30 ?_
        refine q_istore_n hx [(2, .int (v2 + 1)), (0, .ref (G.2.1 + 292)), (1, .int v1), (3, .int v3)] dX10_plots_31 (by decide) rfl ?_
        refine q_iinc hx [(3, .int (v3 + 1)), (2, .int (v2 + 1)), (0, .ref (G.2.1 + 292)), (1, .int v1)] dX10_plots_32 3 rfl rfl (by decide) rfl ?_
        refine q_goto hx 4 dX10_plots_35 (by decide) ?_
        refine q_sub [2, 3, 1, 0] rfl ?_
        exact ih v1 (v2 + 1) (v3 + 1) h
def f_X10_plots (σ : q_S) (a1 : Int32) : Option (Int32) :=
  f_X10_plots_4 σ q_fu a1 0 0
set_option maxHeartbeats 4000000 in
set_option maxRecDepth 100000 in
theorem c_X10_plots (l : Launch) (G : q_G) (x : q_A) (σ : q_S) (a1 : Int32)  {res : Int32} (h : f_X10_plots σ a1 = some res) : q_Met l yX10_plots cX10_plots 4 (some .int) 2 G [.ref (G.2.1 + 292), .int a1] σ x (q_Qi G x res σ) := by
  refine q_of (by decide) (Nat.le_of_ble_eq_true rfl) (fun X hl0 hx hr => ?_)
  subst hl0
  have hx : q_Cx X G RX10 cX10_plots 4 2 := hx
  unfold f_X10_plots at h
  show q_Wq X G x 4 (q_MQ X G (q_Qi G x res σ)) 0 0 0 [(0, .ref (G.2.1 + 292)), (1, .int a1)] [] σ
  refine q_iconst (v := 0) hx dX10_plots_0 (by decide) ?_
  refine q_istore_n hx [(2, .int 0), (0, .ref (G.2.1 + 292)), (1, .int a1)] dX10_plots_1 (by decide) rfl ?_
  refine q_iconst (v := 0) hx dX10_plots_2 (by decide) ?_
  refine q_istore_n hx [(3, .int 0), (2, .int 0), (0, .ref (G.2.1 + 292)), (1, .int a1)] dX10_plots_3 (by decide) rfl ?_
  refine q_sub [2, 3, 1, 0] rfl ?_
  exact s_X10_plots_4 σ hx hr q_fu a1 0 0 h
-- X10_starts
def f_X10_starts (σ : q_S) (a1 : Int32) (a2 : Int32) (a3 : Int32) : Option (Int32 × q_S) :=
  Option.bind (f_X10_ls σ a1 1 1) (fun q1 => Option.bind (f_X10_ls q1 a1 2 a2) (fun q2 => Option.bind (f_X10_ls q2 a1 3 a3) (fun q3 => Option.bind (f_X10_ls q3 a1 4 0) (fun q4 => Option.bind (f_X10_plots q4 1) (fun q5 => some ((q5, q4)))))))
set_option maxHeartbeats 4000000 in
set_option maxRecDepth 100000 in
theorem c_X10_starts (l : Launch) (G : q_G) (x : q_A) (σ : q_S) (a1 : Int32) (a2 : Int32) (a3 : Int32)  {res : Int32 × q_S} (h : f_X10_starts σ a1 a2 a3 = some res) : q_Met l yX10_starts cX10_starts 4 (some .int) 3 G [.ref (G.2.1 + 292), .int a1, .int a2, .int a3] σ x (q_Qi G x res.1 res.2) := by
  refine q_of (by decide) (Nat.le_of_ble_eq_true rfl) (fun X hl0 hx hr => ?_)
  subst hl0
  have hx : q_Cx X G RX10 cX10_starts 4 3 := hx
  unfold f_X10_starts at h
  show q_Wq X G x 4 (q_MQ X G (q_Qi G x res.1 res.2)) 0 0 0 [(0, .ref (G.2.1 + 292)), (1, .int a1), (2, .int a2), (3, .int a3)] [] σ
  refine q_aload_n hx dX10_starts_0 0 rfl ?_
  refine q_iload_n hx dX10_starts_1 1 rfl ?_
  refine q_iconst (v := 1) hx dX10_starts_2 (by decide) ?_
  refine q_iconst (v := 1) hx dX10_starts_3 (by decide) ?_
  refine q_bindE h (fun q1 hq1 h => ?_)
  refine q_callVv (As := [.int a1, .int 1, .int 1]) (rest := []) hx q_kR0 (c_X10_ls (q_Xl X) G x σ a1 1 1 hq1) q_ml_X10_123 q_mn_X10_ls q_mi_X10_ls q_se_X10_ls (by decide) rfl (Nat.le_of_ble_eq_true rfl) dX10_starts_4 (q_ne kd_292 (by decide)) (q_e10 kd_292) rfl rfl rfl ?_
  refine q_aload_n hx dX10_starts_7 0 rfl ?_
  refine q_iload_n hx dX10_starts_8 1 rfl ?_
  refine q_iconst (v := 2) hx dX10_starts_9 (by decide) ?_
  refine q_iload_n hx dX10_starts_10 2 rfl ?_
  refine q_bindE h (fun q2 hq2 h => ?_)
  refine q_callVv (As := [.int a1, .int 2, .int a2]) (rest := []) hx q_kR0 (c_X10_ls (q_Xl X) G x q1 a1 2 a2 hq2) q_ml_X10_123 q_mn_X10_ls q_mi_X10_ls q_se_X10_ls (by decide) rfl (Nat.le_of_ble_eq_true rfl) dX10_starts_11 (q_ne kd_292 (by decide)) (q_e10 kd_292) rfl rfl rfl ?_
  refine q_aload_n hx dX10_starts_14 0 rfl ?_
  refine q_iload_n hx dX10_starts_15 1 rfl ?_
  refine q_iconst (v := 3) hx dX10_starts_16 (by decide) ?_
  refine q_iload_n hx dX10_starts_17 3 rfl ?_
  refine q_bindE h (fun q3 hq3 h => ?_)
  refine q_callVv (As := [.int a1, .int 3, .int a3]) (rest := []) hx q_kR0 (c_X10_ls (q_Xl X) G x q2 a1 3 a3 hq3) q_ml_X10_123 q_mn_X10_ls q_mi_X10_ls q_se_X10_ls (by decide) rfl (Nat.le_of_ble_eq_true rfl) dX10_starts_18 (q_ne kd_292 (by decide)) (q_e10 kd_292) rfl rfl rfl ?_
  refine q_aload_n hx dX10_starts_21 0 rfl ?_
  refine q_iload_n hx dX10_starts_22 1 rfl ?_
  refine q_iconst (v := 4) hx dX10_starts_23 (by decide) ?_
  refine q_iconst (v := 0) hx dX10_starts_24 (by decide) ?_
  refine q_bindE h (fun q4 hq4 h => ?_)
  refine q_callVv (As := [.int a1, .int 4, .int 0]) (rest := []) hx q_kR0 (c_X10_ls (q_Xl X) G x q3 a1 4 0 hq4) q_ml_X10_123 q_mn_X10_ls q_mi_X10_ls q_se_X10_ls (by decide) rfl (Nat.le_of_ble_eq_true rfl) dX10_starts_25 (q_ne kd_292 (by decide)) (q_e10 kd_292) rfl rfl rfl ?_
  refine q_aload_n hx dX10_starts_28 0 rfl ?_
  refine q_iconst (v := 1) hx dX10_starts_29 (by decide) ?_
  refine q_bindE h (fun q5 hq5 h => ?_)
  refine q_callVi (As := [.int 1]) (rest := []) hx q_kR0 (c_X10_plots (q_Xl X) G x q4 1 hq5) q_ml_X10_163 q_mn_X10_plots q_mi_X10_plots q_se_X10_plots (by decide) rfl (Nat.le_of_ble_eq_true rfl) dX10_starts_30 (q_ne kd_292 (by decide)) (q_e10 kd_292) rfl rfl rfl ?_
  cases h
  exact q_iret hx hr dX10_starts_33
-- X10_plot
def f_X10_plot (σ : q_S) (a1 : Int32) (a2 : Int32) (a3 : Int32) : Option (Int32 × q_S) :=
  Option.bind (f_X10_begins σ) (fun q1 => Option.bind (f_X10_isSleeper q1 a1) (fun q2 => if q2 = 0 then (some (((f_X10_no q1 1).1, (f_X10_no q1 1).2))) else (if ((f_X10_isCorner a2 a3)) = 0 then (some (((f_X10_no q1 1).1, (f_X10_no q1 1).2))) else (Option.bind (f_X10_isRefusedPlot q1 a1) (fun q5 => if q5.1 = 0 then (Option.bind (f_X10_starts q5.2 a1 a2 a3) (fun q7 => Option.bind (f_X10_keeps q7.2 q7.1) (fun q8 => some ((q8.1, q8.2))))) else (some (((f_X10_refused q5.2 2).1, (f_X10_refused q5.2 2).2))))))))
set_option maxHeartbeats 4000000 in
set_option maxRecDepth 100000 in
theorem c_X10_plot (l : Launch) (G : q_G) (x : q_A) (σ : q_S) (a1 : Int32) (a2 : Int32) (a3 : Int32)  {res : Int32 × q_S} (h : f_X10_plot σ a1 a2 a3 = some res) : q_Met l yX10_plot cX10_plot 4 (some .int) 4 G [.ref (G.2.1 + 292), .int a1, .int a2, .int a3] σ x (q_Qi G x res.1 res.2) := by
  refine q_of (by decide) (Nat.le_of_ble_eq_true rfl) (fun X hl0 hx hr => ?_)
  subst hl0
  have hx : q_Cx X G RX10 cX10_plot 4 4 := hx
  unfold f_X10_plot at h
  show q_Wq X G x 4 (q_MQ X G (q_Qi G x res.1 res.2)) 0 0 0 [(0, .ref (G.2.1 + 292)), (1, .int a1), (2, .int a2), (3, .int a3)] [] σ
  refine q_aload_n hx dX10_plot_0 0 rfl ?_
  refine q_bindE h (fun q1 hq1 h => ?_)
  refine q_callVv (As := []) (rest := []) hx q_kR0 (c_X10_begins (q_Xl X) G x σ  hq1) q_ml_X10_127 q_mn_X10_begins q_mi_X10_begins q_se_X10_begins (by decide) rfl (Nat.le_of_ble_eq_true rfl) dX10_plot_1 (q_ne kd_292 (by decide)) (q_e10 kd_292) rfl rfl rfl ?_
  refine q_aload_n hx dX10_plot_4 0 rfl ?_
  refine q_iload_n hx dX10_plot_5 1 rfl ?_
  refine q_bindE h (fun q2 hq2 h => ?_)
  refine q_callVi (As := [.int a1]) (rest := []) hx q_kR0 (c_X10_isSleeper (q_Xl X) G x q1 a1 hq2) q_ml_X10_166 q_mn_X10_isSleeper q_mi_X10_isSleeper q_se_X10_isSleeper (by decide) rfl (Nat.le_of_ble_eq_true rfl) dX10_plot_6 (q_ne kd_292 (by decide)) (q_e10 kd_292) rfl rfl rfl ?_
  refine q_if_eq hx 20 dX10_plot_9 (by decide) (fun hc3 => ?_) (fun hc3 => ?_)
  · replace h := (if_pos hc3).symm.trans h
    refine q_aload_n hx dX10_plot_20 0 rfl ?_
    refine q_iconst (v := 1) hx dX10_plot_21 (by decide) ?_
    refine q_callVi (As := [.int 1]) (rest := []) hx q_kR0 (c_X10_no (q_Xl X) G x q1 1) q_ml_X10_103 q_mn_X10_no q_mi_X10_no q_se_X10_no (by decide) rfl (Nat.le_of_ble_eq_true rfl) dX10_plot_22 (q_ne kd_292 (by decide)) (q_e10 kd_292) rfl rfl rfl ?_
    cases h
    exact q_iret hx hr dX10_plot_25
  · replace h := (if_neg hc3).symm.trans h
    refine q_iload_n hx dX10_plot_12 2 rfl ?_
    refine q_iload_n hx dX10_plot_13 3 rfl ?_
    refine q_callSi (As := [.int a2, .int a3]) (rest := []) hx q_kR0 (c_X10_isCorner (q_Xl X) G x q1 a2 a3) q_ml_X10_149 q_mn_X10_isCorner q_ms_X10_isCorner (by decide) rfl (Nat.le_of_ble_eq_true rfl) dX10_plot_14 rfl ?_
    refine q_if_ne hx 26 dX10_plot_17 (by decide) (fun hc4 => ?_) (fun hc4 => ?_)
    · replace h := (if_neg hc4).symm.trans h
      refine q_aload_n hx dX10_plot_26 0 rfl ?_
      refine q_iload_n hx dX10_plot_27 1 rfl ?_
      refine q_bindE h (fun q5 hq5 h => ?_)
      refine q_callVi (As := [.int a1]) (rest := []) hx q_kR0 (c_X10_isRefusedPlot (q_Xl X) G x q1 a1 hq5) q_ml_X10_169 q_mn_X10_isRefusedPlot q_mi_X10_isRefusedPlot q_se_X10_isRefusedPlot (by decide) rfl (Nat.le_of_ble_eq_true rfl) dX10_plot_28 (q_ne kd_292 (by decide)) (q_e10 kd_292) rfl rfl rfl ?_
      refine q_if_eq hx 42 dX10_plot_31 (by decide) (fun hc6 => ?_) (fun hc6 => ?_)
      · replace h := (if_pos hc6).symm.trans h
        refine q_aload_n hx dX10_plot_42 0 rfl ?_
        refine q_aload_n hx dX10_plot_43 0 rfl ?_
        refine q_iload_n hx dX10_plot_44 1 rfl ?_
        refine q_iload_n hx dX10_plot_45 2 rfl ?_
        refine q_iload_n hx dX10_plot_46 3 rfl ?_
        refine q_bindE h (fun q7 hq7 h => ?_)
        refine q_callVi (As := [.int a1, .int a2, .int a3]) (rest := [.ref (G.2.1 + 292)]) hx q_kR0 (c_X10_starts (q_Xl X) G x q5.2 a1 a2 a3 hq7) q_ml_X10_172 q_mn_X10_starts q_mi_X10_starts q_se_X10_starts (by decide) rfl (Nat.le_of_ble_eq_true rfl) dX10_plot_47 (q_ne kd_292 (by decide)) (q_e10 kd_292) rfl rfl rfl ?_
        refine q_bindE h (fun q8 hq8 h => ?_)
        refine q_callVi (As := [.int q7.1]) (rest := []) hx q_kR0 (c_X10_keeps (q_Xl X) G x q7.2 q7.1 hq8) q_ml_X10_140 q_mn_X10_keeps q_mi_X10_keeps q_se_X10_keeps (by decide) rfl (Nat.le_of_ble_eq_true rfl) dX10_plot_50 (q_ne kd_292 (by decide)) (q_e10 kd_292) rfl rfl rfl ?_
        cases h
        exact q_iret hx hr dX10_plot_53
      · replace h := (if_neg hc6).symm.trans h
        refine q_aload_n hx dX10_plot_34 0 rfl ?_
        refine q_iconst (v := 2) hx dX10_plot_35 (by decide) ?_
        refine q_callVi (As := [.int 2]) (rest := []) hx q_kR0 (c_X10_refused (q_Xl X) G x q5.2 2) q_ml_X10_134 q_mn_X10_refused q_mi_X10_refused q_se_X10_refused (by decide) rfl (Nat.le_of_ble_eq_true rfl) dX10_plot_36 (q_ne kd_292 (by decide)) (q_e10 kd_292) rfl rfl rfl ?_
        refine q_goto hx 53 dX10_plot_39 (by decide) ?_
        cases h
        exact q_iret hx hr dX10_plot_53
    · replace h := (if_pos hc4).symm.trans h
      refine q_aload_n hx dX10_plot_20 0 rfl ?_
      refine q_iconst (v := 1) hx dX10_plot_21 (by decide) ?_
      refine q_callVi (As := [.int 1]) (rest := []) hx q_kR0 (c_X10_no (q_Xl X) G x q1 1) q_ml_X10_103 q_mn_X10_no q_mi_X10_no q_se_X10_no (by decide) rfl (Nat.le_of_ble_eq_true rfl) dX10_plot_22 (q_ne kd_292 (by decide)) (q_e10 kd_292) rfl rfl rfl ?_
      cases h
      exact q_iret hx hr dX10_plot_25
