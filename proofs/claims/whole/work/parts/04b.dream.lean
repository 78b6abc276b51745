-- X5_copyFrom
def f_X5_copyFrom (σ : q_S) (z0 : Nat) (z1 : Nat) : q_S :=
  (f_X9_copyNumbers ((f_X9_copyNumbers ((f_X9_copyNumbers (q_up σ z0 0 (σ z1 0)) ((z1 + 1)) 8 ((z0 + 1)) 8)) ((z1 + 2)) 8 ((z0 + 2)) 8)) ((z1 + 3)) 8 ((z0 + 3)) 8)
set_option maxHeartbeats 4000000 in
set_option maxRecDepth 100000 in
theorem ca_X5_copyFrom (l : Launch) (G : q_G) (x : q_A) (σ : q_S) (z0 : Nat) (z1 : Nat) (hz0 : q_isPegs z0) (hz1 : q_isPegs z1) {res : q_S} (h : f_X5_copyFrom σ z0 z1 = res) : q_Met l yX5_copyFrom cX5_copyFrom 2 (none) 3 G [.ref (G.2.1 + z0), .ref (G.2.1 + z1)] σ x (q_Qv G x res) := by
  refine q_of (by decide) (Nat.le_of_ble_eq_true rfl) (fun X hl0 hx hr => ?_)
  subst hl0
  have hx : q_Cx X G RX5 cX5_copyFrom 2 3 := hx
  unfold f_X5_copyFrom at h
  show q_Wq X G x 2 (q_MQ X G (q_Qv G x res)) 0 0 0 [(0, .ref (G.2.1 + z0)), (1, .ref (G.2.1 + z1))] [] σ
  refine q_aload_n hx dX5_copyFrom_0 0 rfl ?_
  refine q_aload_n hx dX5_copyFrom_1 1 rfl ?_
  refine q_get (v := .int (σ z1 0)) hx q_fl_X5_9 dX5_copyFrom_2 (q_ne hz1.1 (by decide)) (q_e5 hz1.1) rfl ?_
  refine q_put (v := σ z1 0) hx q_fl_X5_9 q_fp_5_0 dX5_copyFrom_5 (q_ne hz0.1 (by decide)) (q_e5 hz0.1) (by rw [q_l5]; decide) rfl rfl (by rw [q_e5 hz0.1, q_s5_0]) ?_
  refine q_aload_n hx dX5_copyFrom_8 1 rfl ?_
  refine q_get (v := .ref (G.2.1 + (z1 + 1))) hx q_fl_X5_15 dX5_copyFrom_9 (q_ne hz1.1 (by decide)) (q_e5 hz1.1) rfl ?_
  refine q_aload_n hx dX5_copyFrom_12 0 rfl ?_
  refine q_get (v := .ref (G.2.1 + (z0 + 1))) hx q_fl_X5_15 dX5_copyFrom_13 (q_ne hz0.1 (by decide)) (q_e5 hz0.1) rfl ?_
  refine q_callSv (As := [.ref (G.2.1 + (z1 + 1)), .ref (G.2.1 + (z0 + 1))]) (rest := []) hx q_kR0 (c_X9_copyNumbers (q_Xl X) G x (q_up σ z0 0 (σ z1 0)) ((z1 + 1)) 8 ((z0 + 1)) 8 hz1.2.1 hz0.2.1) q_ml_X5_25 q_mn_X9_copyNumbers q_ms_X9_copyNumbers (by decide) rfl (Nat.le_of_ble_eq_true rfl) dX5_copyFrom_16 rfl ?_
  refine q_aload_n hx dX5_copyFrom_19 1 rfl ?_
  refine q_get (v := .ref (G.2.1 + (z1 + 2))) hx q_fl_X5_19 dX5_copyFrom_20 (q_ne hz1.1 (by decide)) (q_e5 hz1.1) rfl ?_
  refine q_aload_n hx dX5_copyFrom_23 0 rfl ?_
  refine q_get (v := .ref (G.2.1 + (z0 + 2))) hx q_fl_X5_19 dX5_copyFrom_24 (q_ne hz0.1 (by decide)) (q_e5 hz0.1) rfl ?_
  refine q_callSv (As := [.ref (G.2.1 + (z1 + 2)), .ref (G.2.1 + (z0 + 2))]) (rest := []) hx q_kR0 (c_X9_copyNumbers (q_Xl X) G x ((f_X9_copyNumbers (q_up σ z0 0 (σ z1 0)) ((z1 + 1)) 8 ((z0 + 1)) 8)) ((z1 + 2)) 8 ((z0 + 2)) 8 hz1.2.2.1 hz0.2.2.1) q_ml_X5_25 q_mn_X9_copyNumbers q_ms_X9_copyNumbers (by decide) rfl (Nat.le_of_ble_eq_true rfl) dX5_copyFrom_27 rfl ?_
  refine q_aload_n hx dX5_copyFrom_30 1 rfl ?_
  refine q_get (v := .ref (G.2.1 + (z1 + 3))) hx q_fl_X5_22 dX5_copyFrom_31 (q_ne hz1.1 (by decide)) (q_e5 hz1.1) rfl ?_
  refine q_aload_n hx dX5_copyFrom_34 0 rfl ?_
  refine q_get (v := .ref (G.2.1 + (z0 + 3))) hx q_fl_X5_22 dX5_copyFrom_35 (q_ne hz0.1 (by decide)) (q_e5 hz0.1) rfl ?_
  refine q_callSv (As := [.ref (G.2.1 + (z1 + 3)), .ref (G.2.1 + (z0 + 3))]) (rest := []) hx q_kR0 (c_X9_copyNumbers (q_Xl X) G x ((f_X9_copyNumbers ((f_X9_copyNumbers (q_up σ z0 0 (σ z1 0)) ((z1 + 1)) 8 ((z0 + 1)) 8)) ((z1 + 2)) 8 ((z0 + 2)) 8)) ((z1 + 3)) 8 ((z0 + 3)) 8 hz1.2.2.2 hz0.2.2.2) q_ml_X5_25 q_mn_X9_copyNumbers q_ms_X9_copyNumbers (by decide) rfl (Nat.le_of_ble_eq_true rfl) dX5_copyFrom_38 rfl ?_
  subst h
  exact q_vret hx hr dX5_copyFrom_41
theorem c_X5_copyFrom (l : Launch) (G : q_G) (x : q_A) (σ : q_S) (z0 : Nat) (z1 : Nat) (hz0 : q_isPegs z0) (hz1 : q_isPegs z1) : q_Met l yX5_copyFrom cX5_copyFrom 2 (none) 3 G [.ref (G.2.1 + z0), .ref (G.2.1 + z1)] σ x (q_Qv G x (f_X5_copyFrom σ z0 z1)) := ca_X5_copyFrom l G x σ z0 z1 hz0 hz1 rfl
-- X5_add
def f_X5_add (σ : q_S) (z0 : Nat) (a1 : Int32) (a2 : Int32) (a3 : Int32) : q_S :=
  q_up ((f_X9_setNumberAt ((f_X9_setNumberAt ((f_X9_setNumberAt σ ((z0 + 1)) 8 (σ z0 0) a1)) ((z0 + 2)) 8 (((f_X9_setNumberAt σ ((z0 + 1)) 8 (σ z0 0) a1)) z0 0) a2)) ((z0 + 3)) 8 (((f_X9_setNumberAt ((f_X9_setNumberAt σ ((z0 + 1)) 8 (σ z0 0) a1)) ((z0 + 2)) 8 (((f_X9_setNumberAt σ ((z0 + 1)) 8 (σ z0 0) a1)) z0 0) a2)) z0 0) a3)) z0 0 ((((f_X9_setNumberAt ((f_X9_setNumberAt ((f_X9_setNumberAt σ ((z0 + 1)) 8 (σ z0 0) a1)) ((z0 + 2)) 8 (((f_X9_setNumberAt σ ((z0 + 1)) 8 (σ z0 0) a1)) z0 0) a2)) ((z0 + 3)) 8 (((f_X9_setNumberAt ((f_X9_setNumberAt σ ((z0 + 1)) 8 (σ z0 0) a1)) ((z0 + 2)) 8 (((f_X9_setNumberAt σ ((z0 + 1)) 8 (σ z0 0) a1)) z0 0) a2)) z0 0) a3)) z0 0) + 1)
set_option maxHeartbeats 4000000 in
set_option maxRecDepth 100000 in
theorem ca_X5_add (l : Launch) (G : q_G) (x : q_A) (σ : q_S) (z0 : Nat) (a1 : Int32) (a2 : Int32) (a3 : Int32) (hz0 : q_isPegs z0) {res : q_S} (h : f_X5_add σ z0 a1 a2 a3 = res) : q_Met l yX5_add cX5_add 4 (none) 2 G [.ref (G.2.1 + z0), .int a1, .int a2, .int a3] σ x (q_Qv G x res) := by
  refine q_of (by decide) (Nat.le_of_ble_eq_true rfl) (fun X hl0 hx hr => ?_)
  subst hl0
  have hx : q_Cx X G RX5 cX5_add 4 2 := hx
  unfold f_X5_add at h
  show q_Wq X G x 4 (q_MQ X G (q_Qv G x res)) 0 0 0 [(0, .ref (G.2.1 + z0)), (1, .int a1), (2, .int a2), (3, .int a3)] [] σ
  refine q_aload_n hx dX5_add_0 0 rfl ?_
  refine q_get (v := .ref (G.2.1 + (z0 + 1))) hx q_fl_X5_15 dX5_add_1 (q_ne hz0.1 (by decide)) (q_e5 hz0.1) rfl ?_
  refine q_aload_n hx dX5_add_4 0 rfl ?_
  refine q_get (v := .int (σ z0 0)) hx q_fl_X5_9 dX5_add_5 (q_ne hz0.1 (by decide)) (q_e5 hz0.1) rfl ?_
  refine q_iload_n hx dX5_add_8 1 rfl ?_
  refine q_callSv (As := [.ref (G.2.1 + (z0 + 1)), .int (σ z0 0), .int a1]) (rest := []) hx q_kR0 (c_X9_setNumberAt (q_Xl X) G x σ ((z0 + 1)) 8 (σ z0 0) a1 hz0.2.1) q_ml_X5_29 q_mn_X9_setNumberAt q_ms_X9_setNumberAt (by decide) rfl (Nat.le_of_ble_eq_true rfl) dX5_add_9 rfl ?_
  refine q_aload_n hx dX5_add_12 0 rfl ?_
  refine q_get (v := .ref (G.2.1 + (z0 + 2))) hx q_fl_X5_19 dX5_add_13 (q_ne hz0.1 (by decide)) (q_e5 hz0.1) rfl ?_
  refine q_aload_n hx dX5_add_16 0 rfl ?_
  refine q_get (v := .int (((f_X9_setNumberAt σ ((z0 + 1)) 8 (σ z0 0) a1)) z0 0)) hx q_fl_X5_9 dX5_add_17 (q_ne hz0.1 (by decide)) (q_e5 hz0.1) rfl ?_
  refine q_iload_n hx dX5_add_20 2 rfl ?_
  refine q_callSv (As := [.ref (G.2.1 + (z0 + 2)), .int (((f_X9_setNumberAt σ ((z0 + 1)) 8 (σ z0 0) a1)) z0 0), .int a2]) (rest := []) hx q_kR0 (c_X9_setNumberAt (q_Xl X) G x ((f_X9_setNumberAt σ ((z0 + 1)) 8 (σ z0 0) a1)) ((z0 + 2)) 8 (((f_X9_setNumberAt σ ((z0 + 1)) 8 (σ z0 0) a1)) z0 0) a2 hz0.2.2.1) q_ml_X5_29 q_mn_X9_setNumberAt q_ms_X9_setNumberAt (by decide) rfl (Nat.le_of_ble_eq_true rfl) dX5_add_21 rfl ?_
  refine q_aload_n hx dX5_add_24 0 rfl ?_
  refine q_get (v := .ref (G.2.1 + (z0 + 3))) hx q_fl_X5_22 dX5_add_25 (q_ne hz0.1 (by decide)) (q_e5 hz0.1) rfl ?_
  refine q_aload_n hx dX5_add_28 0 rfl ?_
  refine q_get (v := .int (((f_X9_setNumberAt ((f_X9_setNumberAt σ ((z0 + 1)) 8 (σ z0 0) a1)) ((z0 + 2)) 8 (((f_X9_setNumberAt σ ((z0 + 1)) 8 (σ z0 0) a1)) z0 0) a2)) z0 0)) hx q_fl_X5_9 dX5_add_29 (q_ne hz0.1 (by decide)) (q_e5 hz0.1) rfl ?_
  refine q_iload_n hx dX5_add_32 3 rfl ?_
  refine q_callSv (As := [.ref (G.2.1 + (z0 + 3)), .int (((f_X9_setNumberAt ((f_X9_setNumberAt σ ((z0 + 1)) 8 (σ z0 0) a1)) ((z0 + 2)) 8 (((f_X9_setNumberAt σ ((z0 + 1)) 8 (σ z0 0) a1)) z0 0) a2)) z0 0), .int a3]) (rest := []) hx q_kR0 (c_X9_setNumberAt (q_Xl X) G x ((f_X9_setNumberAt ((f_X9_setNumberAt σ ((z0 + 1)) 8 (σ z0 0) a1)) ((z0 + 2)) 8 (((f_X9_setNumberAt σ ((z0 + 1)) 8 (σ z0 0) a1)) z0 0) a2)) ((z0 + 3)) 8 (((f_X9_setNumberAt ((f_X9_setNumberAt σ ((z0 + 1)) 8 (σ z0 0) a1)) ((z0 + 2)) 8 (((f_X9_setNumberAt σ ((z0 + 1)) 8 (σ z0 0) a1)) z0 0) a2)) z0 0) a3 hz0.2.2.2) q_ml_X5_29 q_mn_X9_setNumberAt q_ms_X9_setNumberAt (by decide) rfl (Nat.le_of_ble_eq_true rfl) dX5_add_33 rfl ?_
  refine q_aload_n hx dX5_add_36 0 rfl ?_
  refine q_dup hx dX5_add_37 rfl ?_
  refine q_get (v := .int (((f_X9_setNumberAt ((f_X9_setNumberAt ((f_X9_setNumberAt σ ((z0 + 1)) 8 (σ z0 0) a1)) ((z0 + 2)) 8 (((f_X9_setNumberAt σ ((z0 + 1)) 8 (σ z0 0) a1)) z0 0) a2)) ((z0 + 3)) 8 (((f_X9_setNumberAt ((f_X9_setNumberAt σ ((z0 + 1)) 8 (σ z0 0) a1)) ((z0 + 2)) 8 (((f_X9_setNumberAt σ ((z0 + 1)) 8 (σ z0 0) a1)) z0 0) a2)) z0 0) a3)) z0 0)) hx q_fl_X5_9 dX5_add_38 (q_ne hz0.1 (by decide)) (q_e5 hz0.1) rfl ?_
  refine q_iconst (v := 1) hx dX5_add_41 (by decide) ?_
  refine q_iadd hx dX5_add_42 ?_
  refine q_put (v := (((f_X9_setNumberAt ((f_X9_setNumberAt ((f_X9_setNumberAt σ ((z0 + 1)) 8 (σ z0 0) a1)) ((z0 + 2)) 8 (((f_X9_setNumberAt σ ((z0 + 1)) 8 (σ z0 0) a1)) z0 0) a2)) ((z0 + 3)) 8 (((f_X9_setNumberAt ((f_X9_setNumberAt σ ((z0 + 1)) 8 (σ z0 0) a1)) ((z0 + 2)) 8 (((f_X9_setNumberAt σ ((z0 + 1)) 8 (σ z0 0) a1)) z0 0) a2)) z0 0) a3)) z0 0) + 1) hx q_fl_X5_9 q_fp_5_0 dX5_add_43 (q_ne hz0.1 (by decide)) (q_e5 hz0.1) (by rw [q_l5]; decide) rfl rfl (by rw [q_e5 hz0.1, q_s5_0]) ?_
  subst h
  exact q_vret hx hr dX5_add_46
theorem c_X5_add (l : Launch) (G : q_G) (x : q_A) (σ : q_S) (z0 : Nat) (a1 : Int32) (a2 : Int32) (a3 : Int32) (hz0 : q_isPegs z0) : q_Met l yX5_add cX5_add 4 (none) 2 G [.ref (G.2.1 + z0), .int a1, .int a2, .int a3] σ x (q_Qv G x (f_X5_add σ z0 a1 a2 a3)) := ca_X5_add l G x σ z0 a1 a2 a3 hz0 rfl
-- X5_findAt
def f_X5_findAt_2 (z0 : Nat) (σ : q_S) : Nat → Int32 → Int32 → Int32 → Option (Int32)
  | 0, _, _, _ => none
  | n + 1, v1, v2, v3 =>
    if (σ z0 0) ≤ v3 then (some ((-1))) else (if ((f_X9_numberAt σ ((z0 + 1)) 8 v3)) = v1 then (if ((f_X9_numberAt σ ((z0 + 2)) 8 v3)) = v2 then (some v3) else (f_X5_findAt_2 z0 σ n v1 v2 (v3 + 1))) else (f_X5_findAt_2 z0 σ n v1 v2 (v3 + 1)))
set_option maxHeartbeats 4000000 in
set_option maxRecDepth 100000 in
theorem s_X5_findAt_2 {X : q_X} {G : q_G} {x : q_A} (z0 : Nat) (σ : q_S) (hx : q_Cx X G RX5 cX5_findAt 4 2) (hr : (q_Xm X).sig.returnType = some .int) (hz0 : q_isPegs z0) {res : Int32} : ∀ (n : Nat) (v1 : Int32) (v2 : Int32) (v3 : Int32), f_X5_findAt_2 z0 σ n v1 v2 v3 = some res → q_Wq X G x 4 (q_MQ X G (q_Qi G x res σ)) 0 0 2 [(0, .ref (G.2.1 + z0)), (1, .int v1), (2, .int v2), (3, .int v3)] [] σ := by
  intro n
  induction n with
  | zero => exact fun _ _ _ h => nomatch (show (none : Option (Int32)) = some res from h)
  | succ n ih =>
    intro v1 v2 v3 h
    rw [f_X5_findAt_2] at h
    refine q_iload_n hx dX5_findAt_2 3 rfl ?_
    refine q_aload_n hx dX5_findAt_3 0 rfl ?_
    refine q_get (v := .int (σ z0 0)) hx q_fl_X5_9 dX5_findAt_4 (q_ne hz0.1 (by decide)) (q_e5 hz0.1) rfl ?_
    refine q_icmp_ge hx 42 dX5_findAt_7 (by decide) (fun hc1 => ?_) (fun hc1 => ?_)
    · replace h := (if_pos hc1).symm.trans h
      refine q_iconst (v := (-1)) hx dX5_findAt_42 (by decide) ?_
      cases h
      exact q_iret hx hr dX5_findAt_43
    · replace h := (if_neg hc1).symm.trans h
      refine q_aload_n hx dX5_findAt_10 0 rfl ?_
      refine q_get (v := .ref (G.2.1 + (z0 + 1))) hx q_fl_X5_15 dX5_findAt_11 (q_ne hz0.1 (by decide)) (q_e5 hz0.1) rfl ?_
      refine q_iload_n hx dX5_findAt_14 3 rfl ?_
      refine q_callSi (As := [.ref (G.2.1 + (z0 + 1)), .int v3]) (rest := []) hx q_kR0 (c_X9_numberAt (q_Xl X) G x σ ((z0 + 1)) 8 v3 hz0.2.1) q_ml_X5_33 q_mn_X9_numberAt q_ms_X9_numberAt (by decide) rfl (Nat.le_of_ble_eq_true rfl) dX5_findAt_15 rfl ?_
      refine q_iload_n hx dX5_findAt_18 1 rfl ?_
      refine q_icmp_ne hx 36 dX5_findAt_19 (by decide) (fun hc2 => ?_) (fun hc2 => ?_)
      · replace h := (if_neg hc2).symm.trans h
        refine q_iinc hx [(3, .int (v3 + 1)), (0, .ref (G.2.1 + z0)), (1, .int v1), (2, .int v2)] dX5_findAt_36 3 rfl rfl (by decide) rfl ?_
        refine q_goto hx 2 dX5_findAt_39 (by decide) ?_
        refine q_sub [1, 2, 3, 0] rfl ?_
        exact ih v1 v2 (v3 + 1) h
      · replace h := (if_pos hc2).symm.trans h
        refine q_aload_n hx dX5_findAt_22 0 rfl ?_
        refine q_get (v := .ref (G.2.1 + (z0 + 2))) hx q_fl_X5_19 dX5_findAt_23 (q_ne hz0.1 (by decide)) (q_e5 hz0.1) rfl ?_
        refine q_iload_n hx dX5_findAt_26 3 rfl ?_
        refine q_callSi (As := [.ref (G.2.1 + (z0 + 2)), .int v3]) (rest := []) hx q_kR0 (c_X9_numberAt (q_Xl X) G x σ ((z0 + 2)) 8 v3 hz0.2.2.1) q_ml_X5_33 q_mn_X9_numberAt q_ms_X9_numberAt (by decide) rfl (Nat.le_of_ble_eq_true rfl) dX5_findAt_27 rfl ?_
        refine q_iload_n hx dX5_findAt_30 2 rfl ?_
        refine q_icmp_ne hx 36 dX5_findAt_31 (by decide) (fun hc3 => ?_) (fun hc3 => ?_)
        · replace h := (if_neg hc3).symm.trans h
          refine q_iinc hx [(3, .int (v3 + 1)), (0, .ref (G.2.1 + z0)), (1, .int v1), (2, .int v2)] dX5_findAt_36 3 rfl rfl (by decide) rfl ?_
          refine q_goto hx 2 dX5_findAt_39 (by decide) ?_
          refine q_sub [1, 2, 3, 0] rfl ?_
          exact ih v1 v2 (v3 + 1) h
        · replace h := (if_pos hc3).symm.trans h
          refine q_iload_n hx dX5_findAt_34 3 rfl ?_
          cases h
          exact q_iret hx hr dX5_findAt_35
def f_X5_findAt (σ : q_S) (z0 : Nat) (a1 : Int32) (a2 : Int32) : Option (Int32) :=
  f_X5_findAt_2 z0 σ q_fu a1 a2 0
set_option maxHeartbeats 4000000 in
set_option maxRecDepth 100000 in
theorem c_X5_findAt (l : Launch) (G : q_G) (x : q_A) (σ : q_S) (z0 : Nat) (a1 : Int32) (a2 : Int32) (hz0 : q_isPegs z0) {res : Int32} (h : f_X5_findAt σ z0 a1 a2 = some res) : q_Met l yX5_findAt cX5_findAt 4 (some .int) 2 G [.ref (G.2.1 + z0), .int a1, .int a2] σ x (q_Qi G x res σ) := by
  refine q_of (by decide) (Nat.le_of_ble_eq_true rfl) (fun X hl0 hx hr => ?_)
  subst hl0
  have hx : q_Cx X G RX5 cX5_findAt 4 2 := hx
  unfold f_X5_findAt at h
  show q_Wq X G x 4 (q_MQ X G (q_Qi G x res σ)) 0 0 0 [(0, .ref (G.2.1 + z0)), (1, .int a1), (2, .int a2)] [] σ
  refine q_iconst (v := 0) hx dX5_findAt_0 (by decide) ?_
  refine q_istore_n hx [(3, .int 0), (0, .ref (G.2.1 + z0)), (1, .int a1), (2, .int a2)] dX5_findAt_1 (by decide) rfl ?_
  refine q_sub [1, 2, 3, 0] rfl ?_
  exact s_X5_findAt_2 z0 σ hx hr hz0 q_fu a1 a2 0 h
-- X5_hoursUntilLit
def f_X5_hoursUntilLit (σ : q_S) (z0 : Nat) (a1 : Int32) (a2 : Int32) : Option (Int32) :=
  if 0 < ((f_X9_numberAt σ ((z0 + 3)) 8 a1)) then (if (f_X9_numberAt σ ((z0 + 3)) 8 a1) = 0 then none else if (a2 - a2 / ((f_X9_numberAt σ ((z0 + 3)) 8 a1)) * ((f_X9_numberAt σ ((z0 + 3)) 8 a1))) = 0 then (some 0) else (some (((f_X9_numberAt σ ((z0 + 3)) 8 a1)) - (a2 - a2 / ((f_X9_numberAt σ ((z0 + 3)) 8 a1)) * ((f_X9_numberAt σ ((z0 + 3)) 8 a1)))))) else (some 0)
set_option maxHeartbeats 4000000 in
set_option maxRecDepth 100000 in
theorem c_X5_hoursUntilLit (l : Launch) (G : q_G) (x : q_A) (σ : q_S) (z0 : Nat) (a1 : Int32) (a2 : Int32) (hz0 : q_isPegs z0) {res : Int32} (h : f_X5_hoursUntilLit σ z0 a1 a2 = some res) : q_Met l yX5_hoursUntilLit cX5_hoursUntilLit 5 (some .int) 2 G [.ref (G.2.1 + z0), .int a1, .int a2] σ x (q_Qi G x res σ) := by
  refine q_of (by decide) (Nat.le_of_ble_eq_true rfl) (fun X hl0 hx hr => ?_)
  subst hl0
  have hx : q_Cx X G RX5 cX5_hoursUntilLit 5 2 := hx
  unfold f_X5_hoursUntilLit at h
  show q_Wq X G x 5 (q_MQ X G (q_Qi G x res σ)) 0 0 0 [(0, .ref (G.2.1 + z0)), (1, .int a1), (2, .int a2)] [] σ
  refine q_aload_n hx dX5_hoursUntilLit_0 0 rfl ?_
  refine q_get (v := .ref (G.2.1 + (z0 + 3))) hx q_fl_X5_22 dX5_hoursUntilLit_1 (q_ne hz0.1 (by decide)) (q_e5 hz0.1) rfl ?_
  refine q_iload_n hx dX5_hoursUntilLit_4 1 rfl ?_
  refine q_callSi (As := [.ref (G.2.1 + (z0 + 3)), .int a1]) (rest := []) hx q_kR0 (c_X9_numberAt (q_Xl X) G x σ ((z0 + 3)) 8 a1 hz0.2.2.2) q_ml_X5_33 q_mn_X9_numberAt q_ms_X9_numberAt (by decide) rfl (Nat.le_of_ble_eq_true rfl) dX5_hoursUntilLit_5 rfl ?_
  refine q_istore_n hx [(3, .int ((f_X9_numberAt σ ((z0 + 3)) 8 a1))), (0, .ref (G.2.1 + z0)), (1, .int a1), (2, .int a2)] dX5_hoursUntilLit_8 (by decide) rfl ?_
  refine q_iload_n hx dX5_hoursUntilLit_9 0 rfl ?_
  refine q_if_gt hx 15 dX5_hoursUntilLit_10 (by decide) (fun hc1 => ?_) (fun hc1 => ?_)
  · replace h := (if_pos hc1).symm.trans h
    refine q_iload_n hx dX5_hoursUntilLit_15 3 rfl ?_
    refine q_iload_n hx dX5_hoursUntilLit_16 0 rfl ?_
    by_cases hg2 : (f_X9_numberAt σ ((z0 + 3)) 8 a1) = 0
    · rw [if_pos hg2] at h; exact nomatch h
    replace h := (if_neg hg2).symm.trans h
    refine q_irem hx dX5_hoursUntilLit_17 hg2 ?_
    refine q_istore hx [(4, .int (a2 - a2 / ((f_X9_numberAt σ ((z0 + 3)) 8 a1)) * ((f_X9_numberAt σ ((z0 + 3)) 8 a1)))), (3, .int ((f_X9_numberAt σ ((z0 + 3)) 8 a1))), (0, .ref (G.2.1 + z0)), (1, .int a1), (2, .int a2)] dX5_hoursUntilLit_18 (by decide) rfl ?_
    refine q_iload hx dX5_hoursUntilLit_20 0 rfl ?_
    refine q_if_ne hx 29 dX5_hoursUntilLit_22 (by decide) (fun hc3 => ?_) (fun hc3 => ?_)
    · replace h := (if_neg hc3).symm.trans h
      refine q_iload_n hx dX5_hoursUntilLit_29 1 rfl ?_
      refine q_iload hx dX5_hoursUntilLit_30 0 rfl ?_
      refine q_isub hx dX5_hoursUntilLit_32 ?_
      cases h
      exact q_iret hx hr dX5_hoursUntilLit_33
    · replace h := (if_pos hc3).symm.trans h
      refine q_iconst (v := 0) hx dX5_hoursUntilLit_25 (by decide) ?_
      refine q_goto hx 33 dX5_hoursUntilLit_26 (by decide) ?_
      cases h
      exact q_iret hx hr dX5_hoursUntilLit_33
  · replace h := (if_neg hc1).symm.trans h
    refine q_iconst (v := 0) hx dX5_hoursUntilLit_13 (by decide) ?_
    cases h
    exact q_iret hx hr dX5_hoursUntilLit_14
-- X5_hoursUntilAnyLit
def f_X5_hoursUntilAnyLit_9 (z0 : Nat) (σ : q_S) : Nat → Int32 → Int32 → Int32 → Option (Int32)
  | 0, _, _, _ => none
  | n + 1, v1, v2, v3 =>
    if (σ z0 0) ≤ v3 then (some v2) else (Option.bind (f_X5_hoursUntilLit σ z0 v3 v1) (fun q3 => f_X5_hoursUntilAnyLit_9 z0 σ n v1 ((if q3 < v2 then q3 else v2)) (v3 + 1)))
set_option maxHeartbeats 4000000 in
set_option maxRecDepth 100000 in
theorem s_X5_hoursUntilAnyLit_9 {X : q_X} {G : q_G} {x : q_A} (z0 : Nat) (σ : q_S) (hx : q_Cx X G RX5 cX5_hoursUntilAnyLit 4 3) (hr : (q_Xm X).sig.returnType = some .int) (hz0 : q_isPegs z0) {res : Int32} : ∀ (n : Nat) (v1 : Int32) (v2 : Int32) (v3 : Int32), f_X5_hoursUntilAnyLit_9 z0 σ n v1 v2 v3 = some res → q_Wq X G x 4 (q_MQ X G (q_Qi G x res σ)) 0 0 9 [(0, .ref (G.2.1 + z0)), (1, .int v1), (2, .int v2), (3, .int v3)] [] σ := by
  intro n
  induction n with
  | zero => exact fun _ _ _ h => nomatch (show (none : Option (Int32)) = some res from h)
  | succ n ih =>
    intro v1 v2 v3 h
    rw [f_X5_hoursUntilAnyLit_9] at h
    refine q_iload_n hx dX5_hoursUntilAnyLit_9 3 rfl ?_
    refine q_aload_n hx dX5_hoursUntilAnyLit_10 0 rfl ?_
    refine q_get (v := .int (σ z0 0)) hx q_fl_X5_9 dX5_hoursUntilAnyLit_11 (q_ne hz0.1 (by decide)) (q_e5 hz0.1) rfl ?_
    refine q_icmp_ge hx 34 dX5_hoursUntilAnyLit_14 (by decide) (fun hc2 => ?_) (fun hc2 => ?_)
    · replace h := (if_pos hc2).symm.trans h
      refine q_iload_n hx dX5_hoursUntilAnyLit_34 2 rfl ?_
      cases h
      exact q_iret hx hr dX5_hoursUntilAnyLit_35
    · replace h := (if_neg hc2).symm.trans h
      refine q_iload_n hx dX5_hoursUntilAnyLit_17 2 rfl ?_
      refine q_aload_n hx dX5_hoursUntilAnyLit_18 0 rfl ?_
      refine q_iload_n hx dX5_hoursUntilAnyLit_19 3 rfl ?_
      refine q_iload_n hx dX5_hoursUntilAnyLit_20 1 rfl ?_
      refine q_bindE h (fun q3 hq3 h => ?_)
      refine q_callVi (As := [.int v3, .int v1]) (rest := [.int v2]) hx q_kR0 (c_X5_hoursUntilLit (q_Xl X) G x σ z0 v3 v1 hz0 hq3) q_ml_X5_37 q_mn_X5_hoursUntilLit q_mi_X5_hoursUntilLit q_se_X5_hoursUntilLit (by decide) rfl (Nat.le_of_ble_eq_true rfl) dX5_hoursUntilAnyLit_21 (q_ne hz0.1 (by decide)) (q_e5 hz0.1) rfl rfl rfl ?_
      refine q_mmin hx q_kR0 (by decide) q_mml_X5_41 q_mm_min.1 q_mm_min.2.1 q_mm_min.2.2 (Nat.le_of_ble_eq_true rfl) dX5_hoursUntilAnyLit_24 ?_
      refine q_istore_n hx [(2, .int ((if q3 < v2 then q3 else v2))), (0, .ref (G.2.1 + z0)), (1, .int v1), (3, .int v3)] dX5_hoursUntilAnyLit_27 (by decide) rfl ?_
      refine q_iinc hx [(3, .int (v3 + 1)), (2, .int ((if q3 < v2 then q3 else v2))), (0, .ref (G.2.1 + z0)), (1, .int v1)] dX5_hoursUntilAnyLit_28 3 rfl rfl (by decide) rfl ?_
      refine q_goto hx 9 dX5_hoursUntilAnyLit_31 (by decide) ?_
      refine q_sub [2, 3, 1, 0] rfl ?_
      exact ih v1 ((if q3 < v2 then q3 else v2)) (v3 + 1) h
def f_X5_hoursUntilAnyLit (σ : q_S) (z0 : Nat) (a1 : Int32) : Option (Int32) :=
  Option.bind (f_X5_hoursUntilLit σ z0 0 a1) (fun q1 => f_X5_hoursUntilAnyLit_9 z0 σ q_fu a1 q1 1)
set_option maxHeartbeats 4000000 in
set_option maxRecDepth 100000 in
theorem c_X5_hoursUntilAnyLit (l : Launch) (G : q_G) (x : q_A) (σ : q_S) (z0 : Nat) (a1 : Int32) (hz0 : q_isPegs z0) {res : Int32} (h : f_X5_hoursUntilAnyLit σ z0 a1 = some res) : q_Met l yX5_hoursUntilAnyLit cX5_hoursUntilAnyLit 4 (some .int) 3 G [.ref (G.2.1 + z0), .int a1] σ x (q_Qi G x res σ) := by
  refine q_of (by decide) (Nat.le_of_ble_eq_true rfl) (fun X hl0 hx hr => ?_)
  subst hl0
  have hx : q_Cx X G RX5 cX5_hoursUntilAnyLit 4 3 := hx
  unfold f_X5_hoursUntilAnyLit at h
  show q_Wq X G x 4 (q_MQ X G (q_Qi G x res σ)) 0 0 0 [(0, .ref (G.2.1 + z0)), (1, .int a1)] [] σ
  refine q_aload_n hx dX5_hoursUntilAnyLit_0 0 rfl ?_
  refine q_iconst (v := 0) hx dX5_hoursUntilAnyLit_1 (by decide) ?_
  refine q_iload_n hx dX5_hoursUntilAnyLit_2 1 rfl ?_
  refine q_bindE h (fun q1 hq1 h => ?_)
  refine q_callVi (As := [.int 0, .int a1]) (rest := []) hx q_kR0 (c_X5_hoursUntilLit (q_Xl X) G x σ z0 0 a1 hz0 hq1) q_ml_X5_37 q_mn_X5_hoursUntilLit q_mi_X5_hoursUntilLit q_se_X5_hoursUntilLit (by decide) rfl (Nat.le_of_ble_eq_true rfl) dX5_hoursUntilAnyLit_3 (q_ne hz0.1 (by decide)) (q_e5 hz0.1) rfl rfl rfl ?_
  refine q_istore_n hx [(2, .int q1), (0, .ref (G.2.1 + z0)), (1, .int a1)] dX5_hoursUntilAnyLit_6 (by decide) rfl ?_
  refine q_iconst (v := 1) hx dX5_hoursUntilAnyLit_7 (by decide) ?_
  refine q_istore_n hx [(3, .int 1), (2, .int q1), (0, .ref (G.2.1 + z0)), (1, .int a1)] dX5_hoursUntilAnyLit_8 (by decide) rfl ?_
  refine q_sub [2, 3, 1, 0] rfl ?_
  exact s_X5_hoursUntilAnyLit_9 z0 σ hx hr hz0 q_fu a1 q1 1 h
-- X5_countLit
def f_X5_countLit_4 (z0 : Nat) (σ : q_S) : Nat → Int32 → Int32 → Int32 → Option (Int32)
  | 0, _, _, _ => none
  | n + 1, v1, v2, v3 =>
    if (σ z0 0) ≤ v3 then (some v2) else (Option.bind (f_X5_hoursUntilLit σ z0 v3 v1) (fun q2 => if q2 = 0 then (f_X5_countLit_4 z0 σ n v1 (v2 + 1) (v3 + 1)) else (f_X5_countLit_4 z0 σ n v1 v2 (v3 + 1))))
set_option maxHeartbeats 4000000 in
set_option maxRecDepth 100000 in
theorem s_X5_countLit_4 {X : q_X} {G : q_G} {x : q_A} (z0 : Nat) (σ : q_S) (hx : q_Cx X G RX5 cX5_countLit 4 3) (hr : (q_Xm X).sig.returnType = some .int) (hz0 : q_isPegs z0) {res : Int32} : ∀ (n : Nat) (v1 : Int32) (v2 : Int32) (v3 : Int32), f_X5_countLit_4 z0 σ n v1 v2 v3 = some res → q_Wq X G x 4 (q_MQ X G (q_Qi G x res σ)) 0 0 4 [(0, .ref (G.2.1 + z0)), (1, .int v1), (2, .int v2), (3, .int v3)] [] σ := by
  intro n
  induction n with
  | zero => exact fun _ _ _ h => nomatch (show (none : Option (Int32)) = some res from h)
  | succ n ih =>
    intro v1 v2 v3 h
    rw [f_X5_countLit_4] at h
    refine q_iload_n hx dX5_countLit_4 3 rfl ?_
    refine q_aload_n hx dX5_countLit_5 0 rfl ?_
    refine q_get (v := .int (σ z0 0)) hx q_fl_X5_9 dX5_countLit_6 (q_ne hz0.1 (by decide)) (q_e5 hz0.1) rfl ?_
    refine q_icmp_ge hx 30 dX5_countLit_9 (by decide) (fun hc1 => ?_) (fun hc1 => ?_)
    · replace h := (if_pos hc1).symm.trans h
      refine q_iload_n hx dX5_countLit_30 2 rfl ?_
      cases h
      exact q_iret hx hr dX5_countLit_31
    · replace h := (if_neg hc1).symm.trans h
      refine q_aload_n hx dX5_countLit_12 0 rfl ?_
      refine q_iload_n hx dX5_countLit_13 3 rfl ?_
      refine q_iload_n hx dX5_countLit_14 1 rfl ?_
      refine q_bindE h (fun q2 hq2 h => ?_)
      refine q_callVi (As := [.int v3, .int v1]) (rest := []) hx q_kR0 (c_X5_hoursUntilLit (q_Xl X) G x σ z0 v3 v1 hz0 hq2) q_ml_X5_37 q_mn_X5_hoursUntilLit q_mi_X5_hoursUntilLit q_se_X5_hoursUntilLit (by decide) rfl (Nat.le_of_ble_eq_true rfl) dX5_countLit_15 (q_ne hz0.1 (by decide)) (q_e5 hz0.1) rfl rfl rfl ?_
      refine q_if_ne hx 24 dX5_countLit_18 (by decide) (fun hc3 => ?_) (fun hc3 => ?_)
      · replace h := (if_neg hc3).symm.trans h
        refine q_iinc hx [(3, .int (v3 + 1)), (0, .ref (G.2.1 + z0)), (1, .int v1), (2, .int v2)] dX5_countLit_24 3 rfl rfl (by decide) rfl ?_
        refine q_goto hx 4 dX5_countLit_27 (by decide) ?_
        refine q_sub [1, 2, 3, 0] rfl ?_
        exact ih v1 v2 (v3 + 1) h
      · replace h := (if_pos hc3).symm.trans h
        refine q_iinc hx [(2, .int (v2 + 1)), (0, .ref (G.2.1 + z0)), (1, .int v1), (3, .int v3)] dX5_countLit_21 2 rfl rfl (by decide) rfl ?_
        refine q_iinc hx [(3, .int (v3 + 1)), (2, .int (v2 + 1)), (0, .ref (G.2.1 + z0)), (1, .int v1)] dX5_countLit_24 3 rfl rfl (by decide) rfl ?_
        refine q_goto hx 4 dX5_countLit_27 (by decide) ?_
        refine q_sub [2, 3, 1, 0] rfl ?_
        exact ih v1 (v2 + 1) (v3 + 1) h
def f_X5_countLit (σ : q_S) (z0 : Nat) (a1 : Int32) : Option (Int32) :=
  f_X5_countLit_4 z0 σ q_fu a1 0 0
set_option maxHeartbeats 4000000 in
set_option maxRecDepth 100000 in
theorem c_X5_countLit (l : Launch) (G : q_G) (x : q_A) (σ : q_S) (z0 : Nat) (a1 : Int32) (hz0 : q_isPegs z0) {res : Int32} (h : f_X5_countLit σ z0 a1 = some res) : q_Met l yX5_countLit cX5_countLit 4 (some .int) 3 G [.ref (G.2.1 + z0), .int a1] σ x (q_Qi G x res σ) := by
  refine q_of (by decide) (Nat.le_of_ble_eq_true rfl) (fun X hl0 hx hr => ?_)
  subst hl0
  have hx : q_Cx X G RX5 cX5_countLit 4 3 := hx
  unfold f_X5_countLit at h
  show q_Wq X G x 4 (q_MQ X G (q_Qi G x res σ)) 0 0 0 [(0, .ref (G.2.1 + z0)), (1, .int a1)] [] σ
  refine q_iconst (v := 0) hx dX5_countLit_0 (by decide) ?_
  refine q_istore_n hx [(2, .int 0), (0, .ref (G.2.1 + z0)), (1, .int a1)] dX5_countLit_1 (by decide) rfl ?_
  refine q_iconst (v := 0) hx dX5_countLit_2 (by decide) ?_
  refine q_istore_n hx [(3, .int 0), (2, .int 0), (0, .ref (G.2.1 + z0)), (1, .int a1)] dX5_countLit_3 (by decide) rfl ?_
  refine q_sub [2, 3, 1, 0] rfl ?_
  exact s_X5_countLit_4 z0 σ hx hr hz0 q_fu a1 0 0 h
-- X2_hasSleeper
def f_X2_hasSleeper (σ : q_S) (z0 : Nat) (a1 : Int32) : Int32 :=
  if a1 < 0 then (0) else (if (σ z0 0) ≤ a1 then (0) else (1))
set_option maxHeartbeats 4000000 in
set_option maxRecDepth 100000 in
theorem ca_X2_hasSleeper (l : Launch) (G : q_G) (x : q_A) (σ : q_S) (z0 : Nat) (a1 : Int32) (hz0 : q_isDream z0) {res : Int32} (h : f_X2_hasSleeper σ z0 a1 = res) : q_Met l yX2_hasSleeper cX2_hasSleeper 2 (some .boolean) 1 G [.ref (G.2.1 + z0), .int a1] σ x (q_Qi G x res σ) := by
  refine q_of (by decide) (Nat.le_of_ble_eq_true rfl) (fun X hl0 hx hr => ?_)
  subst hl0
  have hx : q_Cx X G RX2 cX2_hasSleeper 2 1 := hx
  unfold f_X2_hasSleeper at h
  show q_Wq X G x 2 (q_MQ X G (q_Qi G x res σ)) 0 0 0 [(0, .ref (G.2.1 + z0)), (1, .int a1)] [] σ
  refine q_iload_n hx dX2_hasSleeper_0 1 rfl ?_
  refine q_if_lt hx 16 dX2_hasSleeper_1 (by decide) (fun hc1 => ?_) (fun hc1 => ?_)
  · replace h := (if_pos hc1).symm.trans h
    refine q_iconst (v := 0) hx dX2_hasSleeper_16 (by decide) ?_
    subst h
    exact q_zret hx hr rfl dX2_hasSleeper_17
  · replace h := (if_neg hc1).symm.trans h
    refine q_iload_n hx dX2_hasSleeper_4 1 rfl ?_
    refine q_aload_n hx dX2_hasSleeper_5 0 rfl ?_
    refine q_get (v := .int (σ z0 0)) hx q_fl_X2_9 dX2_hasSleeper_6 (q_ne hz0.1 (by decide)) (q_e2 hz0.1) rfl ?_
    refine q_icmp_ge hx 16 dX2_hasSleeper_9 (by decide) (fun hc2 => ?_) (fun hc2 => ?_)
    · replace h := (if_pos hc2).symm.trans h
      refine q_iconst (v := 0) hx dX2_hasSleeper_16 (by decide) ?_
      subst h
      exact q_zret hx hr rfl dX2_hasSleeper_17
    · replace h := (if_neg hc2).symm.trans h
      refine q_iconst (v := 1) hx dX2_hasSleeper_12 (by decide) ?_
      refine q_goto hx 17 dX2_hasSleeper_13 (by decide) ?_
      subst h
      exact q_zret hx hr rfl dX2_hasSleeper_17
theorem c_X2_hasSleeper (l : Launch) (G : q_G) (x : q_A) (σ : q_S) (z0 : Nat) (a1 : Int32) (hz0 : q_isDream z0) : q_Met l yX2_hasSleeper cX2_hasSleeper 2 (some .boolean) 1 G [.ref (G.2.1 + z0), .int a1] σ x (q_Qi G x (f_X2_hasSleeper σ z0 a1) σ) := ca_X2_hasSleeper l G x σ z0 a1 hz0 rfl
-- X2_depthOf
def f_X2_depthOf (σ : q_S) (z0 : Nat) (a1 : Int32) : Int32 :=
  (f_X9_numberAt σ ((z0 + 1)) 5 a1)
set_option maxHeartbeats 4000000 in
set_option maxRecDepth 100000 in
theorem ca_X2_depthOf (l : Launch) (G : q_G) (x : q_A) (σ : q_S) (z0 : Nat) (a1 : Int32) (hz0 : q_isDream z0) {res : Int32} (h : f_X2_depthOf σ z0 a1 = res) : q_Met l yX2_depthOf cX2_depthOf 2 (some .int) 2 G [.ref (G.2.1 + z0), .int a1] σ x (q_Qi G x res σ) := by
  refine q_of (by decide) (Nat.le_of_ble_eq_true rfl) (fun X hl0 hx hr => ?_)
  subst hl0
  have hx : q_Cx X G RX2 cX2_depthOf 2 2 := hx
  unfold f_X2_depthOf at h
  show q_Wq X G x 2 (q_MQ X G (q_Qi G x res σ)) 0 0 0 [(0, .ref (G.2.1 + z0)), (1, .int a1)] [] σ
  refine q_aload_n hx dX2_depthOf_0 0 rfl ?_
  refine q_get (v := .ref (G.2.1 + (z0 + 1))) hx q_fl_X2_15 dX2_depthOf_1 (q_ne hz0.1 (by decide)) (q_e2 hz0.1) rfl ?_
  refine q_iload_n hx dX2_depthOf_4 1 rfl ?_
  refine q_callSi (As := [.ref (G.2.1 + (z0 + 1)), .int a1]) (rest := []) hx q_kR0 (c_X9_numberAt (q_Xl X) G x σ ((z0 + 1)) 5 a1 hz0.2.1) q_ml_X2_58 q_mn_X9_numberAt q_ms_X9_numberAt (by decide) rfl (Nat.le_of_ble_eq_true rfl) dX2_depthOf_5 rfl ?_
  subst h
  exact q_iret hx hr dX2_depthOf_8
theorem c_X2_depthOf (l : Launch) (G : q_G) (x : q_A) (σ : q_S) (z0 : Nat) (a1 : Int32) (hz0 : q_isDream z0) : q_Met l yX2_depthOf cX2_depthOf 2 (some .int) 2 G [.ref (G.2.1 + z0), .int a1] σ x (q_Qi G x (f_X2_depthOf σ z0 a1) σ) := ca_X2_depthOf l G x σ z0 a1 hz0 rfl
-- X2_copyFrom
def f_X2_copyFrom_21 (z0 : Nat) (z1 : Nat) : Nat → Int32 → q_S → Option (q_S)
  | 0, _, _ => none
  | n + 1, v2, σ =>
    if 5 ≤ v2 then (some (q_up (q_up ((f_X5_copyFrom σ ((z0 + 6)) ((z1 + 6)))) z0 5 (((f_X5_copyFrom σ ((z0 + 6)) ((z1 + 6)))) z1 5)) z0 6 ((q_up ((f_X5_copyFrom σ ((z0 + 6)) ((z1 + 6)))) z0 5 (((f_X5_copyFrom σ ((z0 + 6)) ((z1 + 6)))) z1 5)) z1 6))) else (Option.bind (f_X6_copyFrom σ ((f_X2_plotOf z0 v2)) ((f_X2_plotOf z1 v2))) (fun q2 => f_X2_copyFrom_21 z0 z1 n (v2 + 1) q2))
set_option maxHeartbeats 4000000 in
set_option maxRecDepth 100000 in
theorem s_X2_copyFrom_21 {X : q_X} {G : q_G} {x : q_A} (z0 : Nat) (z1 : Nat) (hx : q_Cx X G RX2 cX2_copyFrom 3 4) (hr : (q_Xm X).sig.returnType = none) (hz0 : q_isDream z0) (hz1 : q_isDream z1) {res : q_S} : ∀ (n : Nat) (v2 : Int32) (σ : q_S), f_X2_copyFrom_21 z0 z1 n v2 σ = some res → q_Wq X G x 3 (q_MQ X G (q_Qv G x res)) 0 0 21 [(0, .ref (G.2.1 + z0)), (1, .ref (G.2.1 + z1)), (2, .int v2)] [] σ := by
  intro n
  induction n with
  | zero => exact fun _ _ h => nomatch (show (none : Option (q_S)) = some res from h)
  | succ n ih =>
    intro v2 σ h
    rw [f_X2_copyFrom_21] at h
    refine q_iload_n hx dX2_copyFrom_21 2 rfl ?_
    refine q_iconst (v := 5) hx dX2_copyFrom_22 (by decide) ?_
    refine q_icmp_ge hx 45 dX2_copyFrom_23 (by decide) (fun hc1 => ?_) (fun hc1 => ?_)
    · replace h := (if_pos hc1).symm.trans h
      refine q_aload_n hx dX2_copyFrom_45 0 rfl ?_
      refine q_get (v := .ref (G.2.1 + (z0 + 6))) hx q_fl_X2_33 dX2_copyFrom_46 (q_ne hz0.1 (by decide)) (q_e2 hz0.1) rfl ?_
      refine q_aload_n hx dX2_copyFrom_49 1 rfl ?_
      refine q_get (v := .ref (G.2.1 + (z1 + 6))) hx q_fl_X2_33 dX2_copyFrom_50 (q_ne hz1.1 (by decide)) (q_e2 hz1.1) rfl ?_
      refine q_callVv (As := [.ref (G.2.1 + (z1 + 6))]) (rest := []) hx q_kR0 (c_X5_copyFrom (q_Xl X) G x σ ((z0 + 6)) ((z1 + 6)) hz0.2.2.2.2.1 hz1.2.2.2.2.1) q_ml_X2_55 q_mn_X5_copyFrom q_mi_X5_copyFrom q_se_X5_copyFrom (by decide) rfl (Nat.le_of_ble_eq_true rfl) dX2_copyFrom_53 (q_ne hz0.2.2.2.2.1.1 (by decide)) (q_e5 hz0.2.2.2.2.1.1) rfl rfl rfl ?_
      refine q_aload_n hx dX2_copyFrom_56 0 rfl ?_
      refine q_aload_n hx dX2_copyFrom_57 1 rfl ?_
      refine q_get (v := .int (((f_X5_copyFrom σ ((z0 + 6)) ((z1 + 6)))) z1 5)) hx q_fl_X2_37 dX2_copyFrom_58 (q_ne hz1.1 (by decide)) (q_e2 hz1.1) rfl ?_
      refine q_put (v := ((f_X5_copyFrom σ ((z0 + 6)) ((z1 + 6)))) z1 5) hx q_fl_X2_37 q_fp_2_5 dX2_copyFrom_61 (q_ne hz0.1 (by decide)) (q_e2 hz0.1) (by rw [q_l2]; decide) rfl rfl (by rw [q_e2 hz0.1, q_s2_5]) ?_
      refine q_aload_n hx dX2_copyFrom_64 0 rfl ?_
      refine q_aload_n hx dX2_copyFrom_65 1 rfl ?_
      refine q_get (v := .int ((q_up ((f_X5_copyFrom σ ((z0 + 6)) ((z1 + 6)))) z0 5 (((f_X5_copyFrom σ ((z0 + 6)) ((z1 + 6)))) z1 5)) z1 6)) hx q_fl_X2_40 dX2_copyFrom_66 (q_ne hz1.1 (by decide)) (q_e2 hz1.1) rfl ?_
      refine q_put (v := (q_up ((f_X5_copyFrom σ ((z0 + 6)) ((z1 + 6)))) z0 5 (((f_X5_copyFrom σ ((z0 + 6)) ((z1 + 6)))) z1 5)) z1 6) hx q_fl_X2_40 q_fp_2_6 dX2_copyFrom_69 (q_ne hz0.1 (by decide)) (q_e2 hz0.1) (by rw [q_l2]; decide) rfl rfl (by rw [q_e2 hz0.1, q_s2_6]) ?_
      cases h
      exact q_vret hx hr dX2_copyFrom_72
    · replace h := (if_neg hc1).symm.trans h
      refine q_aload_n hx dX2_copyFrom_26 0 rfl ?_
      refine q_iload_n hx dX2_copyFrom_27 2 rfl ?_
      refine q_callVr (As := [.int v2]) (rest := []) hx q_kR0 (c_X2_plotOf (q_Xl X) G x σ z0 v2 hz0) q_ml_X2_47 q_mn_X2_plotOf q_mi_X2_plotOf q_se_X2_plotOf (by decide) rfl (Nat.le_of_ble_eq_true rfl) dX2_copyFrom_28 (q_ne hz0.1 (by decide)) (q_e2 hz0.1) rfl rfl rfl ?_
      refine q_aload_n hx dX2_copyFrom_31 1 rfl ?_
      refine q_iload_n hx dX2_copyFrom_32 2 rfl ?_
      refine q_callVr (As := [.int v2]) (rest := [.ref (G.2.1 + (f_X2_plotOf z0 v2))]) hx q_kR0 (c_X2_plotOf (q_Xl X) G x σ z1 v2 hz1) q_ml_X2_47 q_mn_X2_plotOf q_mi_X2_plotOf q_se_X2_plotOf (by decide) rfl (Nat.le_of_ble_eq_true rfl) dX2_copyFrom_33 (q_ne hz1.1 (by decide)) (q_e2 hz1.1) rfl rfl rfl ?_
      refine q_bindE h (fun q2 hq2 h => ?_)
      refine q_callVv (As := [.ref (G.2.1 + (f_X2_plotOf z1 v2))]) (rest := []) hx q_kR0 (c_X6_copyFrom (q_Xl X) G x σ ((f_X2_plotOf z0 v2)) ((f_X2_plotOf z1 v2)) ((q_plotOf_ok hz0 v2)) ((q_plotOf_ok hz1 v2)) hq2) q_ml_X2_51 q_mn_X6_copyFrom q_mi_X6_copyFrom q_se_X6_copyFrom (by decide) rfl (Nat.le_of_ble_eq_true rfl) dX2_copyFrom_36 (q_ne (q_plotOf_ok hz0 v2).1 (by decide)) (q_e6 (q_plotOf_ok hz0 v2).1) rfl rfl rfl ?_
      refine q_iinc hx [(2, .int (v2 + 1)), (0, .ref (G.2.1 + z0)), (1, .ref (G.2.1 + z1))] dX2_copyFrom_39 2 rfl rfl (by decide) rfl ?_
      refine q_goto hx 21 dX2_copyFrom_42 (by decide) ?_
      refine q_sub [1, 2, 0] rfl ?_
      exact ih (v2 + 1) q2 h
def f_X2_copyFrom (σ : q_S) (z0 : Nat) (z1 : Nat) : Option (q_S) :=
  f_X2_copyFrom_21 z0 z1 q_fu 0 ((f_X9_copyNumbers (q_up σ z0 0 (σ z1 0)) ((z1 + 1)) 5 ((z0 + 1)) 5))
set_option maxHeartbeats 4000000 in
set_option maxRecDepth 100000 in
theorem c_X2_copyFrom (l : Launch) (G : q_G) (x : q_A) (σ : q_S) (z0 : Nat) (z1 : Nat) (hz0 : q_isDream z0) (hz1 : q_isDream z1) {res : q_S} (h : f_X2_copyFrom σ z0 z1 = some res) : q_Met l yX2_copyFrom cX2_copyFrom 3 (none) 4 G [.ref (G.2.1 + z0), .ref (G.2.1 + z1)] σ x (q_Qv G x res) := by
  refine q_of (by decide) (Nat.le_of_ble_eq_true rfl) (fun X hl0 hx hr => ?_)
  subst hl0
  have hx : q_Cx X G RX2 cX2_copyFrom 3 4 := hx
  unfold f_X2_copyFrom at h
  show q_Wq X G x 3 (q_MQ X G (q_Qv G x res)) 0 0 0 [(0, .ref (G.2.1 + z0)), (1, .ref (G.2.1 + z1))] [] σ
  refine q_aload_n hx dX2_copyFrom_0 0 rfl ?_
  refine q_aload_n hx dX2_copyFrom_1 1 rfl ?_
  refine q_get (v := .int (σ z1 0)) hx q_fl_X2_9 dX2_copyFrom_2 (q_ne hz1.1 (by decide)) (q_e2 hz1.1) rfl ?_
  refine q_put (v := σ z1 0) hx q_fl_X2_9 q_fp_2_0 dX2_copyFrom_5 (q_ne hz0.1 (by decide)) (q_e2 hz0.1) (by rw [q_l2]; decide) rfl rfl (by rw [q_e2 hz0.1, q_s2_0]) ?_
  refine q_aload_n hx dX2_copyFrom_8 1 rfl ?_
  refine q_get (v := .ref (G.2.1 + (z1 + 1))) hx q_fl_X2_15 dX2_copyFrom_9 (q_ne hz1.1 (by decide)) (q_e2 hz1.1) rfl ?_
  refine q_aload_n hx dX2_copyFrom_12 0 rfl ?_
  refine q_get (v := .ref (G.2.1 + (z0 + 1))) hx q_fl_X2_15 dX2_copyFrom_13 (q_ne hz0.1 (by decide)) (q_e2 hz0.1) rfl ?_
  refine q_callSv (As := [.ref (G.2.1 + (z1 + 1)), .ref (G.2.1 + (z0 + 1))]) (rest := []) hx q_kR0 (c_X9_copyNumbers (q_Xl X) G x (q_up σ z0 0 (σ z1 0)) ((z1 + 1)) 5 ((z0 + 1)) 5 hz1.2.1 hz0.2.1) q_ml_X2_43 q_mn_X9_copyNumbers q_ms_X9_copyNumbers (by decide) rfl (Nat.le_of_ble_eq_true rfl) dX2_copyFrom_16 rfl ?_
  refine q_iconst (v := 0) hx dX2_copyFrom_19 (by decide) ?_
  refine q_istore_n hx [(2, .int 0), (0, .ref (G.2.1 + z0)), (1, .ref (G.2.1 + z1))] dX2_copyFrom_20 (by decide) rfl ?_
  refine q_sub [1, 2, 0] rfl ?_
  exact s_X2_copyFrom_21 z0 z1 hx hr hz0 hz1 q_fu 0 ((f_X9_copyNumbers (q_up σ z0 0 (σ z1 0)) ((z1 + 1)) 5 ((z0 + 1)) 5)) h
-- X2_deepestAt
def f_X2_deepestAt_9 (z0 : Nat) (σ : q_S) : Nat → Int32 → Int32 → Int32 → Int32 → Int32 → Int32 → Option (Int32)
  | 0, _, _, _, _, _, _ => none
  | n + 1, v1, v2, v3, v4, v5, v6 =>
    if (σ z0 0) ≤ v6 then (some v4) else (if (((f_X2_depthOf σ z0 v6)) - v3) ≤ v5 then (f_X2_deepestAt_9 z0 σ n v1 v2 v3 v4 v5 (v6 + 1)) else (Option.bind (f_X6_holds σ ((f_X2_plotOf z0 v6)) v1 v2) (fun q3 => if q3 = 0 then (f_X2_deepestAt_9 z0 σ n v1 v2 v3 v4 v5 (v6 + 1)) else (f_X2_deepestAt_9 z0 σ n v1 v2 v3 v6 (((f_X2_depthOf σ z0 v6)) - v3) (v6 + 1)))))
set_option maxHeartbeats 4000000 in
set_option maxRecDepth 100000 in
theorem s_X2_deepestAt_9 {X : q_X} {G : q_G} {x : q_A} (z0 : Nat) (σ : q_S) (hx : q_Cx X G RX2 cX2_deepestAt 8 4) (hr : (q_Xm X).sig.returnType = some .int) (hz0 : q_isDream z0) {res : Int32} : ∀ (n : Nat) (v1 : Int32) (v2 : Int32) (v3 : Int32) (v4 : Int32) (v5 : Int32) (v6 : Int32), f_X2_deepestAt_9 z0 σ n v1 v2 v3 v4 v5 v6 = some res → q_Wq X G x 8 (q_MQ X G (q_Qi G x res σ)) 0 0 9 [(0, .ref (G.2.1 + z0)), (1, .int v1), (2, .int v2), (3, .int v3), (4, .int v4), (5, .int v5), (6, .int v6)] [] σ := by
  intro n
  induction n with
  | zero => exact fun _ _ _ _ _ _ h => nomatch (show (none : Option (Int32)) = some res from h)
  | succ n ih =>
    intro v1 v2 v3 v4 v5 v6 h
    rw [f_X2_deepestAt_9] at h
    refine q_iload hx dX2_deepestAt_9 6 rfl ?_
    refine q_aload_n hx dX2_deepestAt_11 0 rfl ?_
    refine q_get (v := .int (σ z0 0)) hx q_fl_X2_9 dX2_deepestAt_12 (q_ne hz0.1 (by decide)) (q_e2 hz0.1) rfl ?_
    refine q_icmp_ge hx 63 dX2_deepestAt_15 (by decide) (fun hc1 => ?_) (fun hc1 => ?_)
    · replace h := (if_pos hc1).symm.trans h
      refine q_iload hx dX2_deepestAt_63 4 rfl ?_
      cases h
      exact q_iret hx hr dX2_deepestAt_65
    · replace h := (if_neg hc1).symm.trans h
      refine q_aload_n hx dX2_deepestAt_18 0 rfl ?_
      refine q_iload hx dX2_deepestAt_19 6 rfl ?_
      refine q_callVi (As := [.int v6]) (rest := []) hx q_kR0 (c_X2_depthOf (q_Xl X) G x σ z0 v6 hz0) q_ml_X2_62 q_mn_X2_depthOf q_mi_X2_depthOf q_se_X2_depthOf (by decide) rfl (Nat.le_of_ble_eq_true rfl) dX2_deepestAt_21 (q_ne hz0.1 (by decide)) (q_e2 hz0.1) rfl rfl rfl ?_
      refine q_iload_n hx dX2_deepestAt_24 3 rfl ?_
      refine q_isub hx dX2_deepestAt_25 ?_
      refine q_istore hx [(7, .int (((f_X2_depthOf σ z0 v6)) - v3)), (0, .ref (G.2.1 + z0)), (1, .int v1), (2, .int v2), (3, .int v3), (4, .int v4), (5, .int v5), (6, .int v6)] dX2_deepestAt_26 (by decide) rfl ?_
      refine q_iload hx dX2_deepestAt_28 0 rfl ?_
      refine q_iload hx dX2_deepestAt_30 6 rfl ?_
      refine q_icmp_le hx 57 dX2_deepestAt_32 (by decide) (fun hc2 => ?_) (fun hc2 => ?_)
      · replace h := (if_pos hc2).symm.trans h
        refine q_iinc hx [(6, .int (v6 + 1)), (7, .int (((f_X2_depthOf σ z0 v6)) - v3)), (0, .ref (G.2.1 + z0)), (1, .int v1), (2, .int v2), (3, .int v3), (4, .int v4), (5, .int v5)] dX2_deepestAt_57 7 rfl rfl (by decide) rfl ?_
        refine q_goto hx 9 dX2_deepestAt_60 (by decide) ?_
        refine q_sub [2, 3, 4, 5, 6, 7, 0] rfl ?_
        exact ih v1 v2 v3 v4 v5 (v6 + 1) h
      · replace h := (if_neg hc2).symm.trans h
        refine q_aload_n hx dX2_deepestAt_35 1 rfl ?_
        refine q_iload hx dX2_deepestAt_36 7 rfl ?_
        refine q_callVr (As := [.int v6]) (rest := []) hx q_kR0 (c_X2_plotOf (q_Xl X) G x σ z0 v6 hz0) q_ml_X2_47 q_mn_X2_plotOf q_mi_X2_plotOf q_se_X2_plotOf (by decide) rfl (Nat.le_of_ble_eq_true rfl) dX2_deepestAt_38 (q_ne hz0.1 (by decide)) (q_e2 hz0.1) rfl rfl rfl ?_
        refine q_iload_n hx dX2_deepestAt_41 2 rfl ?_
        refine q_iload_n hx dX2_deepestAt_42 3 rfl ?_
        refine q_bindE h (fun q3 hq3 h => ?_)
        refine q_callVi (As := [.int v1, .int v2]) (rest := []) hx q_kR0 (c_X6_holds (q_Xl X) G x σ ((f_X2_plotOf z0 v6)) v1 v2 ((q_plotOf_ok hz0 v6)) hq3) q_ml_X2_66 q_mn_X6_holds q_mi_X6_holds q_se_X6_holds (by decide) rfl (Nat.le_of_ble_eq_true rfl) dX2_deepestAt_43 (q_ne (q_plotOf_ok hz0 v6).1 (by decide)) (q_e6 (q_plotOf_ok hz0 v6).1) rfl rfl rfl ?_
        refine q_if_eq hx 57 dX2_deepestAt_46 (by decide) (fun hc4 => ?_) (fun hc4 => ?_)
        · replace h := (if_pos hc4).symm.trans h
          refine q_iinc hx [(6, .int (v6 + 1)), (7, .int (((f_X2_depthOf σ z0 v6)) - v3)), (0, .ref (G.2.1 + z0)), (1, .int v1), (2, .int v2), (3, .int v3), (4, .int v4), (5, .int v5)] dX2_deepestAt_57 7 rfl rfl (by decide) rfl ?_
          refine q_goto hx 9 dX2_deepestAt_60 (by decide) ?_
          refine q_sub [2, 3, 4, 5, 6, 7, 0] rfl ?_
          exact ih v1 v2 v3 v4 v5 (v6 + 1) h
        · replace h := (if_neg hc4).symm.trans h
          refine q_iload hx dX2_deepestAt_49 7 rfl ?_
          refine q_istore hx [(4, .int v6), (7, .int (((f_X2_depthOf σ z0 v6)) - v3)), (0, .ref (G.2.1 + z0)), (1, .int v1), (2, .int v2), (3, .int v3), (5, .int v5), (6, .int v6)] dX2_deepestAt_51 (by decide) rfl ?_
          refine q_iload hx dX2_deepestAt_53 1 rfl ?_
          refine q_istore hx [(5, .int (((f_X2_depthOf σ z0 v6)) - v3)), (4, .int v6), (7, .int (((f_X2_depthOf σ z0 v6)) - v3)), (0, .ref (G.2.1 + z0)), (1, .int v1), (2, .int v2), (3, .int v3), (6, .int v6)] dX2_deepestAt_55 (by decide) rfl ?_
          refine q_iinc hx [(6, .int (v6 + 1)), (5, .int (((f_X2_depthOf σ z0 v6)) - v3)), (4, .int v6), (7, .int (((f_X2_depthOf σ z0 v6)) - v3)), (0, .ref (G.2.1 + z0)), (1, .int v1), (2, .int v2), (3, .int v3)] dX2_deepestAt_57 7 rfl rfl (by decide) rfl ?_
          refine q_goto hx 9 dX2_deepestAt_60 (by decide) ?_
          refine q_sub [4, 5, 6, 7, 2, 1, 0] rfl ?_
          exact ih v1 v2 v3 v6 (((f_X2_depthOf σ z0 v6)) - v3) (v6 + 1) h
def f_X2_deepestAt (σ : q_S) (z0 : Nat) (a1 : Int32) (a2 : Int32) (a3 : Int32) : Option (Int32) :=
  f_X2_deepestAt_9 z0 σ q_fu a1 a2 a3 ((-1)) 0 0
set_option maxHeartbeats 4000000 in
set_option maxRecDepth 100000 in
theorem c_X2_deepestAt (l : Launch) (G : q_G) (x : q_A) (σ : q_S) (z0 : Nat) (a1 : Int32) (a2 : Int32) (a3 : Int32) (hz0 : q_isDream z0) {res : Int32} (h : f_X2_deepestAt σ z0 a1 a2 a3 = some res) : q_Met l yX2_deepestAt cX2_deepestAt 8 (some .int) 4 G [.ref (G.2.1 + z0), .int a1, .int a2, .int a3] σ x (q_Qi G x res σ) := by
  refine q_of (by decide) (Nat.le_of_ble_eq_true rfl) (fun X hl0 hx hr => ?_)
  subst hl0
  have hx : q_Cx X G RX2 cX2_deepestAt 8 4 := hx
  unfold f_X2_deepestAt at h
  show q_Wq X G x 8 (q_MQ X G (q_Qi G x res σ)) 0 0 0 [(0, .ref (G.2.1 + z0)), (1, .int a1), (2, .int a2), (3, .int a3)] [] σ
  refine q_iconst (v := (-1)) hx dX2_deepestAt_0 (by decide) ?_
  refine q_istore hx [(4, .int ((-1))), (0, .ref (G.2.1 + z0)), (1, .int a1), (2, .int a2), (3, .int a3)] dX2_deepestAt_1 (by decide) rfl ?_
  refine q_iconst (v := 0) hx dX2_deepestAt_3 (by decide) ?_
  refine q_istore hx [(5, .int 0), (4, .int ((-1))), (0, .ref (G.2.1 + z0)), (1, .int a1), (2, .int a2), (3, .int a3)] dX2_deepestAt_4 (by decide) rfl ?_
  refine q_iconst (v := 0) hx dX2_deepestAt_6 (by decide) ?_
  refine q_istore hx [(6, .int 0), (5, .int 0), (4, .int ((-1))), (0, .ref (G.2.1 + z0)), (1, .int a1), (2, .int a2), (3, .int a3)] dX2_deepestAt_7 (by decide) rfl ?_
  refine q_sub [3, 4, 5, 6, 2, 1, 0] rfl ?_
  exact s_X2_deepestAt_9 z0 σ hx hr hz0 q_fu a1 a2 a3 ((-1)) 0 0 h
-- X2_countAwake
def f_X2_countAwake_4 (z0 : Nat) (σ : q_S) : Nat → Int32 → Int32 → Option (Int32)
  | 0, _, _ => none
  | n + 1, v1, v2 =>
    if (σ z0 0) ≤ v2 then (some v1) else (if ((f_X2_depthOf σ z0 v2)) = 0 then (f_X2_countAwake_4 z0 σ n (v1 + 1) (v2 + 1)) else (f_X2_countAwake_4 z0 σ n v1 (v2 + 1)))
set_option maxHeartbeats 4000000 in
set_option maxRecDepth 100000 in
theorem s_X2_countAwake_4 {X : q_X} {G : q_G} {x : q_A} (z0 : Nat) (σ : q_S) (hx : q_Cx X G RX2 cX2_countAwake 3 3) (hr : (q_Xm X).sig.returnType = some .int) (hz0 : q_isDream z0) {res : Int32} : ∀ (n : Nat) (v1 : Int32) (v2 : Int32), f_X2_countAwake_4 z0 σ n v1 v2 = some res → q_Wq X G x 3 (q_MQ X G (q_Qi G x res σ)) 0 0 4 [(0, .ref (G.2.1 + z0)), (1, .int v1), (2, .int v2)] [] σ := by
  intro n
  induction n with
  | zero => exact fun _ _ h => nomatch (show (none : Option (Int32)) = some res from h)
  | succ n ih =>
    intro v1 v2 h
    rw [f_X2_countAwake_4] at h
    refine q_iload_n hx dX2_countAwake_4 2 rfl ?_
    refine q_aload_n hx dX2_countAwake_5 0 rfl ?_
    refine q_get (v := .int (σ z0 0)) hx q_fl_X2_9 dX2_countAwake_6 (q_ne hz0.1 (by decide)) (q_e2 hz0.1) rfl ?_
    refine q_icmp_ge hx 29 dX2_countAwake_9 (by decide) (fun hc1 => ?_) (fun hc1 => ?_)
    · replace h := (if_pos hc1).symm.trans h
      refine q_iload_n hx dX2_countAwake_29 1 rfl ?_
      cases h
      exact q_iret hx hr dX2_countAwake_30
    · replace h := (if_neg hc1).symm.trans h
      refine q_aload_n hx dX2_countAwake_12 0 rfl ?_
      refine q_iload_n hx dX2_countAwake_13 2 rfl ?_
      refine q_callVi (As := [.int v2]) (rest := []) hx q_kR0 (c_X2_depthOf (q_Xl X) G x σ z0 v2 hz0) q_ml_X2_62 q_mn_X2_depthOf q_mi_X2_depthOf q_se_X2_depthOf (by decide) rfl (Nat.le_of_ble_eq_true rfl) dX2_countAwake_14 (q_ne hz0.1 (by decide)) (q_e2 hz0.1) rfl rfl rfl ?_
      refine q_if_ne hx 23 dX2_countAwake_17 (by decide) (fun hc2 => ?_) (fun hc2 => ?_)
      · replace h := (if_neg hc2).symm.trans h
        refine q_iinc hx [(2, .int (v2 + 1)), (0, .ref (G.2.1 + z0)), (1, .int v1)] dX2_countAwake_23 2 rfl rfl (by decide) rfl ?_
        refine q_goto hx 4 dX2_countAwake_26 (by decide) ?_
        refine q_sub [1, 2, 0] rfl ?_
        exact ih v1 (v2 + 1) h
      · replace h := (if_pos hc2).symm.trans h
        refine q_iinc hx [(1, .int (v1 + 1)), (0, .ref (G.2.1 + z0)), (2, .int v2)] dX2_countAwake_20 1 rfl rfl (by decide) rfl ?_
        refine q_iinc hx [(2, .int (v2 + 1)), (1, .int (v1 + 1)), (0, .ref (G.2.1 + z0))] dX2_countAwake_23 2 rfl rfl (by decide) rfl ?_
        refine q_goto hx 4 dX2_countAwake_26 (by decide) ?_
        refine q_sub [2, 1, 0] rfl ?_
        exact ih (v1 + 1) (v2 + 1) h
def f_X2_countAwake (σ : q_S) (z0 : Nat) : Option (Int32) :=
  f_X2_countAwake_4 z0 σ q_fu 0 0
set_option maxHeartbeats 4000000 in
set_option maxRecDepth 100000 in
theorem c_X2_countAwake (l : Launch) (G : q_G) (x : q_A) (σ : q_S) (z0 : Nat) (hz0 : q_isDream z0) {res : Int32} (h : f_X2_countAwake σ z0 = some res) : q_Met l yX2_countAwake cX2_countAwake 3 (some .int) 3 G [.ref (G.2.1 + z0)] σ x (q_Qi G x res σ) := by
  refine q_of (by decide) (Nat.le_of_ble_eq_true rfl) (fun X hl0 hx hr => ?_)
  subst hl0
  have hx : q_Cx X G RX2 cX2_countAwake 3 3 := hx
  unfold f_X2_countAwake at h
  show q_Wq X G x 3 (q_MQ X G (q_Qi G x res σ)) 0 0 0 [(0, .ref (G.2.1 + z0))] [] σ
  refine q_iconst (v := 0) hx dX2_countAwake_0 (by decide) ?_
  refine q_istore_n hx [(1, .int 0), (0, .ref (G.2.1 + z0))] dX2_countAwake_1 (by decide) rfl ?_
  refine q_iconst (v := 0) hx dX2_countAwake_2 (by decide) ?_
  refine q_istore_n hx [(2, .int 0), (1, .int 0), (0, .ref (G.2.1 + z0))] dX2_countAwake_3 (by decide) rfl ?_
  refine q_sub [2, 1, 0] rfl ?_
  exact s_X2_countAwake_4 z0 σ hx hr hz0 q_fu 0 0 h
-- X2_sumOfDepths
def f_X2_sumOfDepths_4 (z0 : Nat) (σ : q_S) : Nat → Int32 → Int32 → Option (Int32)
  | 0, _, _ => none
  | n + 1, v1, v2 =>
    if (σ z0 0) ≤ v2 then (some v1) else (f_X2_sumOfDepths_4 z0 σ n (v1 + ((f_X2_depthOf σ z0 v2))) (v2 + 1))
set_option maxHeartbeats 4000000 in
set_option maxRecDepth 100000 in
theorem s_X2_sumOfDepths_4 {X : q_X} {G : q_G} {x : q_A} (z0 : Nat) (σ : q_S) (hx : q_Cx X G RX2 cX2_sumOfDepths 3 3) (hr : (q_Xm X).sig.returnType = some .int) (hz0 : q_isDream z0) {res : Int32} : ∀ (n : Nat) (v1 : Int32) (v2 : Int32), f_X2_sumOfDepths_4 z0 σ n v1 v2 = some res → q_Wq X G x 3 (q_MQ X G (q_Qi G x res σ)) 0 0 4 [(0, .ref (G.2.1 + z0)), (1, .int v1), (2, .int v2)] [] σ := by
  intro n
  induction n with
  | zero => exact fun _ _ h => nomatch (show (none : Option (Int32)) = some res from h)
  | succ n ih =>
    intro v1 v2 h
    rw [f_X2_sumOfDepths_4] at h
    refine q_iload_n hx dX2_sumOfDepths_4 2 rfl ?_
    refine q_aload_n hx dX2_sumOfDepths_5 0 rfl ?_
    refine q_get (v := .int (σ z0 0)) hx q_fl_X2_9 dX2_sumOfDepths_6 (q_ne hz0.1 (by decide)) (q_e2 hz0.1) rfl ?_
    refine q_icmp_ge hx 26 dX2_sumOfDepths_9 (by decide) (fun hc1 => ?_) (fun hc1 => ?_)
    · replace h := (if_pos hc1).symm.trans h
      refine q_iload_n hx dX2_sumOfDepths_26 1 rfl ?_
      cases h
      exact q_iret hx hr dX2_sumOfDepths_27
    · replace h := (if_neg hc1).symm.trans h
      refine q_iload_n hx dX2_sumOfDepths_12 1 rfl ?_
      refine q_aload_n hx dX2_sumOfDepths_13 0 rfl ?_
      refine q_iload_n hx dX2_sumOfDepths_14 2 rfl ?_
      refine q_callVi (As := [.int v2]) (rest := [.int v1]) hx q_kR0 (c_X2_depthOf (q_Xl X) G x σ z0 v2 hz0) q_ml_X2_62 q_mn_X2_depthOf q_mi_X2_depthOf q_se_X2_depthOf (by decide) rfl (Nat.le_of_ble_eq_true rfl) dX2_sumOfDepths_15 (q_ne hz0.1 (by decide)) (q_e2 hz0.1) rfl rfl rfl ?_
      refine q_iadd hx dX2_sumOfDepths_18 ?_
      refine q_istore_n hx [(1, .int (v1 + ((f_X2_depthOf σ z0 v2)))), (0, .ref (G.2.1 + z0)), (2, .int v2)] dX2_sumOfDepths_19 (by decide) rfl ?_
      refine q_iinc hx [(2, .int (v2 + 1)), (1, .int (v1 + ((f_X2_depthOf σ z0 v2)))), (0, .ref (G.2.1 + z0))] dX2_sumOfDepths_20 2 rfl rfl (by decide) rfl ?_
      refine q_goto hx 4 dX2_sumOfDepths_23 (by decide) ?_
      refine q_sub [2, 1, 0] rfl ?_
      exact ih (v1 + ((f_X2_depthOf σ z0 v2))) (v2 + 1) h
def f_X2_sumOfDepths (σ : q_S) (z0 : Nat) : Option (Int32) :=
  f_X2_sumOfDepths_4 z0 σ q_fu 0 0
set_option maxHeartbeats 4000000 in
set_option maxRecDepth 100000 in
theorem c_X2_sumOfDepths (l : Launch) (G : q_G) (x : q_A) (σ : q_S) (z0 : Nat) (hz0 : q_isDream z0) {res : Int32} (h : f_X2_sumOfDepths σ z0 = some res) : q_Met l yX2_sumOfDepths cX2_sumOfDepths 3 (some .int) 3 G [.ref (G.2.1 + z0)] σ x (q_Qi G x res σ) := by
  refine q_of (by decide) (Nat.le_of_ble_eq_true rfl) (fun X hl0 hx hr => ?_)
  subst hl0
  have hx : q_Cx X G RX2 cX2_sumOfDepths 3 3 := hx
  unfold f_X2_sumOfDepths at h
  show q_Wq X G x 3 (q_MQ X G (q_Qi G x res σ)) 0 0 0 [(0, .ref (G.2.1 + z0))] [] σ
  refine q_iconst (v := 0) hx dX2_sumOfDepths_0 (by decide) ?_
  refine q_istore_n hx [(1, .int 0), (0, .ref (G.2.1 + z0))] dX2_sumOfDepths_1 (by decide) rfl ?_
  refine q_iconst (v := 0) hx dX2_sumOfDepths_2 (by decide) ?_
  refine q_istore_n hx [(2, .int 0), (1, .int 0), (0, .ref (G.2.1 + z0))] dX2_sumOfDepths_3 (by decide) rfl ?_
  refine q_sub [2, 1, 0] rfl ?_
  exact s_X2_sumOfDepths_4 z0 σ hx hr hz0 q_fu 0 0 h
-- X2_countPlots
def f_X2_countPlots_4 (z0 : Nat) (σ : q_S) : Nat → Int32 → Int32 → Option (Int32)
  | 0, _, _ => none
  | n + 1, v1, v2 =>
    if (σ z0 0) ≤ v2 then (some v1) else (if (σ (f_X2_plotOf z0 v2) 0) = 0 then (f_X2_countPlots_4 z0 σ n v1 (v2 + 1)) else (f_X2_countPlots_4 z0 σ n (v1 + 1) (v2 + 1)))
set_option maxHeartbeats 4000000 in
set_option maxRecDepth 100000 in
theorem s_X2_countPlots_4 {X : q_X} {G : q_G} {x : q_A} (z0 : Nat) (σ : q_S) (hx : q_Cx X G RX2 cX2_countPlots 3 2) (hr : (q_Xm X).sig.returnType = some .int) (hz0 : q_isDream z0) {res : Int32} : ∀ (n : Nat) (v1 : Int32) (v2 : Int32), f_X2_countPlots_4 z0 σ n v1 v2 = some res → q_Wq X G x 3 (q_MQ X G (q_Qi G x res σ)) 0 0 4 [(0, .ref (G.2.1 + z0)), (1, .int v1), (2, .int v2)] [] σ := by
  intro n
  induction n with
  | zero => exact fun _ _ h => nomatch (show (none : Option (Int32)) = some res from h)
  | succ n ih =>
    intro v1 v2 h
    rw [f_X2_countPlots_4] at h
    refine q_iload_n hx dX2_countPlots_4 2 rfl ?_
    refine q_aload_n hx dX2_countPlots_5 0 rfl ?_
    refine q_get (v := .int (σ z0 0)) hx q_fl_X2_9 dX2_countPlots_6 (q_ne hz0.1 (by decide)) (q_e2 hz0.1) rfl ?_
    refine q_icmp_ge hx 32 dX2_countPlots_9 (by decide) (fun hc1 => ?_) (fun hc1 => ?_)
    · replace h := (if_pos hc1).symm.trans h
      refine q_iload_n hx dX2_countPlots_32 1 rfl ?_
      cases h
      exact q_iret hx hr dX2_countPlots_33
    · replace h := (if_neg hc1).symm.trans h
      refine q_aload_n hx dX2_countPlots_12 0 rfl ?_
      refine q_iload_n hx dX2_countPlots_13 2 rfl ?_
      refine q_callVr (As := [.int v2]) (rest := []) hx q_kR0 (c_X2_plotOf (q_Xl X) G x σ z0 v2 hz0) q_ml_X2_47 q_mn_X2_plotOf q_mi_X2_plotOf q_se_X2_plotOf (by decide) rfl (Nat.le_of_ble_eq_true rfl) dX2_countPlots_14 (q_ne hz0.1 (by decide)) (q_e2 hz0.1) rfl rfl rfl ?_
      refine q_get (v := .int (σ (f_X2_plotOf z0 v2) 0)) hx q_fl_X2_70 dX2_countPlots_17 (q_ne (q_plotOf_ok hz0 v2).1 (by decide)) (q_e6 (q_plotOf_ok hz0 v2).1) rfl ?_
      refine q_if_eq hx 26 dX2_countPlots_20 (by decide) (fun hc2 => ?_) (fun hc2 => ?_)
      · replace h := (if_pos hc2).symm.trans h
        refine q_iinc hx [(2, .int (v2 + 1)), (0, .ref (G.2.1 + z0)), (1, .int v1)] dX2_countPlots_26 2 rfl rfl (by decide) rfl ?_
        refine q_goto hx 4 dX2_countPlots_29 (by decide) ?_
        refine q_sub [1, 2, 0] rfl ?_
        exact ih v1 (v2 + 1) h
      · replace h := (if_neg hc2).symm.trans h
        refine q_iinc hx [(1, .int (v1 + 1)), (0, .ref (G.2.1 + z0)), (2, .int v2)] dX2_countPlots_23 1 rfl rfl (by decide) rfl ?_
        refine q_iinc hx [(2, .int (v2 + 1)), (1, .int (v1 + 1)), (0, .ref (G.2.1 + z0))] dX2_countPlots_26 2 rfl rfl (by decide) rfl ?_
        refine q_goto hx 4 dX2_countPlots_29 (by decide) ?_
        refine q_sub [2, 1, 0] rfl ?_
        exact ih (v1 + 1) (v2 + 1) h
def f_X2_countPlots (σ : q_S) (z0 : Nat) : Option (Int32) :=
  f_X2_countPlots_4 z0 σ q_fu 0 0
set_option maxHeartbeats 4000000 in
set_option maxRecDepth 100000 in
theorem c_X2_countPlots (l : Launch) (G : q_G) (x : q_A) (σ : q_S) (z0 : Nat) (hz0 : q_isDream z0) {res : Int32} (h : f_X2_countPlots σ z0 = some res) : q_Met l yX2_countPlots cX2_countPlots 3 (some .int) 2 G [.ref (G.2.1 + z0)] σ x (q_Qi G x res σ) := by
  refine q_of (by decide) (Nat.le_of_ble_eq_true rfl) (fun X hl0 hx hr => ?_)
  subst hl0
  have hx : q_Cx X G RX2 cX2_countPlots 3 2 := hx
  unfold f_X2_countPlots at h
  show q_Wq X G x 3 (q_MQ X G (q_Qi G x res σ)) 0 0 0 [(0, .ref (G.2.1 + z0))] [] σ
  refine q_iconst (v := 0) hx dX2_countPlots_0 (by decide) ?_
  refine q_istore_n hx [(1, .int 0), (0, .ref (G.2.1 + z0))] dX2_countPlots_1 (by decide) rfl ?_
  refine q_iconst (v := 0) hx dX2_countPlots_2 (by decide) ?_
  refine q_istore_n hx [(2, .int 0), (1, .int 0), (0, .ref (G.2.1 + z0))] dX2_countPlots_3 (by decide) rfl ?_
  refine q_sub [2, 1, 0] rfl ?_
  exact s_X2_countPlots_4 z0 σ hx hr hz0 q_fu 0 0 h
-- X2_countClosed
def f_X2_countClosed_4 (z0 : Nat) (σ : q_S) : Nat → Int32 → Int32 → Option (Int32)
  | 0, _, _ => none
  | n + 1, v1, v2 =>
    if (σ z0 0) ≤ v2 then (some v1) else (if (σ (f_X2_plotOf z0 v2) 1) = 0 then (f_X2_countClosed_4 z0 σ n v1 (v2 + 1)) else (f_X2_countClosed_4 z0 σ n (v1 + 1) (v2 + 1)))
set_option maxHeartbeats 4000000 in
set_option maxRecDepth 100000 in
theorem s_X2_countClosed_4 {X : q_X} {G : q_G} {x : q_A} (z0 : Nat) (σ : q_S) (hx : q_Cx X G RX2 cX2_countClosed 3 2) (hr : (q_Xm X).sig.returnType = some .int) (hz0 : q_isDream z0) {res : Int32} : ∀ (n : Nat) (v1 : Int32) (v2 : Int32), f_X2_countClosed_4 z0 σ n v1 v2 = some res → q_Wq X G x 3 (q_MQ X G (q_Qi G x res σ)) 0 0 4 [(0, .ref (G.2.1 + z0)), (1, .int v1), (2, .int v2)] [] σ := by
  intro n
  induction n with
  | zero => exact fun _ _ h => nomatch (show (none : Option (Int32)) = some res from h)
  | succ n ih =>
    intro v1 v2 h
    rw [f_X2_countClosed_4] at h
    refine q_iload_n hx dX2_countClosed_4 2 rfl ?_
    refine q_aload_n hx dX2_countClosed_5 0 rfl ?_
    refine q_get (v := .int (σ z0 0)) hx q_fl_X2_9 dX2_countClosed_6 (q_ne hz0.1 (by decide)) (q_e2 hz0.1) rfl ?_
    refine q_icmp_ge hx 32 dX2_countClosed_9 (by decide) (fun hc1 => ?_) (fun hc1 => ?_)
    · replace h := (if_pos hc1).symm.trans h
      refine q_iload_n hx dX2_countClosed_32 1 rfl ?_
      cases h
      exact q_iret hx hr dX2_countClosed_33
    · replace h := (if_neg hc1).symm.trans h
      refine q_aload_n hx dX2_countClosed_12 0 rfl ?_
      refine q_iload_n hx dX2_countClosed_13 2 rfl ?_
      refine q_callVr (As := [.int v2]) (rest := []) hx q_kR0 (c_X2_plotOf (q_Xl X) G x σ z0 v2 hz0) q_ml_X2_47 q_mn_X2_plotOf q_mi_X2_plotOf q_se_X2_plotOf (by decide) rfl (Nat.le_of_ble_eq_true rfl) dX2_countClosed_14 (q_ne hz0.1 (by decide)) (q_e2 hz0.1) rfl rfl rfl ?_
      refine q_get (v := .int (σ (f_X2_plotOf z0 v2) 1)) hx q_fl_X2_74 dX2_countClosed_17 (q_ne (q_plotOf_ok hz0 v2).1 (by decide)) (q_e6 (q_plotOf_ok hz0 v2).1) rfl ?_
      refine q_if_eq hx 26 dX2_countClosed_20 (by decide) (fun hc2 => ?_) (fun hc2 => ?_)
      · replace h := (if_pos hc2).symm.trans h
        refine q_iinc hx [(2, .int (v2 + 1)), (0, .ref (G.2.1 + z0)), (1, .int v1)] dX2_countClosed_26 2 rfl rfl (by decide) rfl ?_
        refine q_goto hx 4 dX2_countClosed_29 (by decide) ?_
        refine q_sub [1, 2, 0] rfl ?_
        exact ih v1 (v2 + 1) h
      · replace h := (if_neg hc2).symm.trans h
        refine q_iinc hx [(1, .int (v1 + 1)), (0, .ref (G.2.1 + z0)), (2, .int v2)] dX2_countClosed_23 1 rfl rfl (by decide) rfl ?_
        refine q_iinc hx [(2, .int (v2 + 1)), (1, .int (v1 + 1)), (0, .ref (G.2.1 + z0))] dX2_countClosed_26 2 rfl rfl (by decide) rfl ?_
        refine q_goto hx 4 dX2_countClosed_29 (by decide) ?_
        refine q_sub [2, 1, 0] rfl ?_
        exact ih (v1 + 1) (v2 + 1) h
def f_X2_countClosed (σ : q_S) (z0 : Nat) : Option (Int32) :=
  f_X2_countClosed_4 z0 σ q_fu 0 0
set_option maxHeartbeats 4000000 in
set_option maxRecDepth 100000 in
theorem c_X2_countClosed (l : Launch) (G : q_G) (x : q_A) (σ : q_S) (z0 : Nat) (hz0 : q_isDream z0) {res : Int32} (h : f_X2_countClosed σ z0 = some res) : q_Met l yX2_countClosed cX2_countClosed 3 (some .int) 2 G [.ref (G.2.1 + z0)] σ x (q_Qi G x res σ) := by
  refine q_of (by decide) (Nat.le_of_ble_eq_true rfl) (fun X hl0 hx hr => ?_)
  subst hl0
  have hx : q_Cx X G RX2 cX2_countClosed 3 2 := hx
  unfold f_X2_countClosed at h
  show q_Wq X G x 3 (q_MQ X G (q_Qi G x res σ)) 0 0 0 [(0, .ref (G.2.1 + z0))] [] σ
  refine q_iconst (v := 0) hx dX2_countClosed_0 (by decide) ?_
  refine q_istore_n hx [(1, .int 0), (0, .ref (G.2.1 + z0))] dX2_countClosed_1 (by decide) rfl ?_
  refine q_iconst (v := 0) hx dX2_countClosed_2 (by decide) ?_
  refine q_istore_n hx [(2, .int 0), (1, .int 0), (0, .ref (G.2.1 + z0))] dX2_countClosed_3 (by decide) rfl ?_
  refine q_sub [2, 1, 0] rfl ?_
  exact s_X2_countClosed_4 z0 σ hx hr hz0 q_fu 0 0 h
-- X2_countChains
def f_X2_countChains_4 (z0 : Nat) (σ : q_S) : Nat → Int32 → Int32 → Option (Int32)
  | 0, _, _ => none
  | n + 1, v1, v2 =>
    if (σ z0 0) ≤ v2 then (some v1) else (f_X2_countChains_4 z0 σ n (v1 + (σ (f_X2_plotOf z0 v2) 6)) (v2 + 1))
set_option maxHeartbeats 4000000 in
set_option maxRecDepth 100000 in
theorem s_X2_countChains_4 {X : q_X} {G : q_G} {x : q_A} (z0 : Nat) (σ : q_S) (hx : q_Cx X G RX2 cX2_countChains 3 2) (hr : (q_Xm X).sig.returnType = some .int) (hz0 : q_isDream z0) {res : Int32} : ∀ (n : Nat) (v1 : Int32) (v2 : Int32), f_X2_countChains_4 z0 σ n v1 v2 = some res → q_Wq X G x 3 (q_MQ X G (q_Qi G x res σ)) 0 0 4 [(0, .ref (G.2.1 + z0)), (1, .int v1), (2, .int v2)] [] σ := by
  intro n
  induction n with
  | zero => exact fun _ _ h => nomatch (show (none : Option (Int32)) = some res from h)
  | succ n ih =>
    intro v1 v2 h
    rw [f_X2_countChains_4] at h
    refine q_iload_n hx dX2_countChains_4 2 rfl ?_
    refine q_aload_n hx dX2_countChains_5 0 rfl ?_
    refine q_get (v := .int (σ z0 0)) hx q_fl_X2_9 dX2_countChains_6 (q_ne hz0.1 (by decide)) (q_e2 hz0.1) rfl ?_
    refine q_icmp_ge hx 29 dX2_countChains_9 (by decide) (fun hc1 => ?_) (fun hc1 => ?_)
    · replace h := (if_pos hc1).symm.trans h
      refine q_iload_n hx dX2_countChains_29 1 rfl ?_
      cases h
      exact q_iret hx hr dX2_countChains_30
    · replace h := (if_neg hc1).symm.trans h
      refine q_iload_n hx dX2_countChains_12 1 rfl ?_
      refine q_aload_n hx dX2_countChains_13 0 rfl ?_
      refine q_iload_n hx dX2_countChains_14 2 rfl ?_
      refine q_callVr (As := [.int v2]) (rest := [.int v1]) hx q_kR0 (c_X2_plotOf (q_Xl X) G x σ z0 v2 hz0) q_ml_X2_47 q_mn_X2_plotOf q_mi_X2_plotOf q_se_X2_plotOf (by decide) rfl (Nat.le_of_ble_eq_true rfl) dX2_countChains_15 (q_ne hz0.1 (by decide)) (q_e2 hz0.1) rfl rfl rfl ?_
      refine q_get (v := .int (σ (f_X2_plotOf z0 v2) 6)) hx q_fl_X2_77 dX2_countChains_18 (q_ne (q_plotOf_ok hz0 v2).1 (by decide)) (q_e6 (q_plotOf_ok hz0 v2).1) rfl ?_
      refine q_iadd hx dX2_countChains_21 ?_
      refine q_istore_n hx [(1, .int (v1 + (σ (f_X2_plotOf z0 v2) 6))), (0, .ref (G.2.1 + z0)), (2, .int v2)] dX2_countChains_22 (by decide) rfl ?_
      refine q_iinc hx [(2, .int (v2 + 1)), (1, .int (v1 + (σ (f_X2_plotOf z0 v2) 6))), (0, .ref (G.2.1 + z0))] dX2_countChains_23 2 rfl rfl (by decide) rfl ?_
      refine q_goto hx 4 dX2_countChains_26 (by decide) ?_
      refine q_sub [2, 1, 0] rfl ?_
      exact ih (v1 + (σ (f_X2_plotOf z0 v2) 6)) (v2 + 1) h
def f_X2_countChains (σ : q_S) (z0 : Nat) : Option (Int32) :=
  f_X2_countChains_4 z0 σ q_fu 0 0
set_option maxHeartbeats 4000000 in
set_option maxRecDepth 100000 in
theorem c_X2_countChains (l : Launch) (G : q_G) (x : q_A) (σ : q_S) (z0 : Nat) (hz0 : q_isDream z0) {res : Int32} (h : f_X2_countChains σ z0 = some res) : q_Met l yX2_countChains cX2_countChains 3 (some .int) 2 G [.ref (G.2.1 + z0)] σ x (q_Qi G x res σ) := by
  refine q_of (by decide) (Nat.le_of_ble_eq_true rfl) (fun X hl0 hx hr => ?_)
  subst hl0
  have hx : q_Cx X G RX2 cX2_countChains 3 2 := hx
  unfold f_X2_countChains at h
  show q_Wq X G x 3 (q_MQ X G (q_Qi G x res σ)) 0 0 0 [(0, .ref (G.2.1 + z0))] [] σ
  refine q_iconst (v := 0) hx dX2_countChains_0 (by decide) ?_
  refine q_istore_n hx [(1, .int 0), (0, .ref (G.2.1 + z0))] dX2_countChains_1 (by decide) rfl ?_
  refine q_iconst (v := 0) hx dX2_countChains_2 (by decide) ?_
  refine q_istore_n hx [(2, .int 0), (1, .int 0), (0, .ref (G.2.1 + z0))] dX2_countChains_3 (by decide) rfl ?_
  refine q_sub [2, 1, 0] rfl ?_
  exact s_X2_countChains_4 z0 σ hx hr hz0 q_fu 0 0 h
-- X7_refuse
def f_X7_refuse (σ : q_S) (a1 : Int32) (a2 : Int32) : Int32 × q_S :=
  ((-3), q_up (q_up (q_up (q_up σ 27 0 a1) 27 1 a2) 27 2 0) 27 3 0)
set_option maxHeartbeats 4000000 in
set_option maxRecDepth 100000 in
theorem ca_X7_refuse (l : Launch) (G : q_G) (x : q_A) (σ : q_S) (a1 : Int32) (a2 : Int32)  {res : Int32 × q_S} (h : f_X7_refuse σ a1 a2 = res) : q_Met l yX7_refuse cX7_refuse 3 (some .int) 1 G [.ref (G.2.1 + 27), .int a1, .int a2] σ x (q_Qi G x res.1 res.2) := by
  refine q_of (by decide) (Nat.le_of_ble_eq_true rfl) (fun X hl0 hx hr => ?_)
  subst hl0
  have hx : q_Cx X G RX7 cX7_refuse 3 1 := hx
  unfold f_X7_refuse at h
  show q_Wq X G x 3 (q_MQ X G (q_Qi G x res.1 res.2)) 0 0 0 [(0, .ref (G.2.1 + 27)), (1, .int a1), (2, .int a2)] [] σ
  refine q_aload_n hx dX7_refuse_0 0 rfl ?_
  refine q_iload_n hx dX7_refuse_1 1 rfl ?_
  refine q_put (v := a1) hx q_fl_X7_9 q_fp_7_0 dX7_refuse_2 (q_ne kd_27 (by decide)) (q_e7 kd_27) (by rw [q_l7]; decide) rfl rfl (by rw [q_e7 kd_27, q_s7_0]) ?_
  refine q_aload_n hx dX7_refuse_5 0 rfl ?_
  refine q_iload_n hx dX7_refuse_6 2 rfl ?_
  refine q_put (v := a2) hx q_fl_X7_15 q_fp_7_1 dX7_refuse_7 (q_ne kd_27 (by decide)) (q_e7 kd_27) (by rw [q_l7]; decide) rfl rfl (by rw [q_e7 kd_27, q_s7_1]) ?_
  refine q_aload_n hx dX7_refuse_10 0 rfl ?_
  refine q_iconst (v := 0) hx dX7_refuse_11 (by decide) ?_
  refine q_put (v := 0) hx q_fl_X7_18 q_fp_7_2 dX7_refuse_12 (q_ne kd_27 (by decide)) (q_e7 kd_27) (by rw [q_l7]; decide) rfl rfl (by rw [q_e7 kd_27, q_s7_2]) ?_
  refine q_aload_n hx dX7_refuse_15 0 rfl ?_
  refine q_iconst (v := 0) hx dX7_refuse_16 (by decide) ?_
  refine q_put (v := 0) hx q_fl_X7_21 q_fp_7_3 dX7_refuse_17 (q_ne kd_27 (by decide)) (q_e7 kd_27) (by rw [q_l7]; decide) rfl rfl (by rw [q_e7 kd_27, q_s7_3]) ?_
  refine q_bipush (v := (-3)) hx dX7_refuse_20 (by decide) ?_
  subst h
  exact q_iret hx hr dX7_refuse_22
theorem c_X7_refuse (l : Launch) (G : q_G) (x : q_A) (σ : q_S) (a1 : Int32) (a2 : Int32)  : q_Met l yX7_refuse cX7_refuse 3 (some .int) 1 G [.ref (G.2.1 + 27), .int a1, .int a2] σ x (q_Qi G x (f_X7_refuse σ a1 a2).1 (f_X7_refuse σ a1 a2).2) := ca_X7_refuse l G x σ a1 a2 rfl
-- X7_refuseCommand
def f_X7_refuseCommand_13 (v1 : Int32) (v2 : Int32) (s0 : Int32) (σ : q_S) : q_S :=
  if v2 = 0 then (q_up (q_up (q_up (q_up σ 27 2 s0) 27 3 0) 27 0 11) 27 1 v1) else (q_up (q_up (q_up (q_up σ 27 2 s0) 27 3 ((q_up σ 27 2 s0) 27 1)) 27 0 11) 27 1 v1)
set_option maxHeartbeats 4000000 in
set_option maxRecDepth 100000 in
theorem s_X7_refuseCommand_13 {X : q_X} {G : q_G} {x : q_A} (hx : q_Cx X G RX7 cX7_refuseCommand 3 1) (hr : (q_Xm X).sig.returnType = none) {res : q_S} : ∀ (v1 : Int32) (v2 : Int32) (s0 : Int32) (σ : q_S), f_X7_refuseCommand_13 v1 v2 s0 σ = res → q_Wq X G x 3 (q_MQ X G (q_Qv G x res)) 0 0 13 [(0, .ref (G.2.1 + 27)), (1, .int v1), (2, .int v2)] [.int s0, .ref (G.2.1 + 27)] σ := by
  intro v1 v2 s0 σ h
  unfold f_X7_refuseCommand_13 at h
  refine q_put (v := s0) hx q_fl_X7_18 q_fp_7_2 dX7_refuseCommand_13 (q_ne kd_27 (by decide)) (q_e7 kd_27) (by rw [q_l7]; decide) rfl rfl (by rw [q_e7 kd_27, q_s7_2]) ?_
  refine q_aload_n hx dX7_refuseCommand_16 0 rfl ?_
  refine q_iload_n hx dX7_refuseCommand_17 2 rfl ?_
  refine q_if_eq hx 28 dX7_refuseCommand_18 (by decide) (fun hc2 => ?_) (fun hc2 => ?_)
  · replace h := (if_pos hc2).symm.trans h
    refine q_iconst (v := 0) hx dX7_refuseCommand_28 (by decide) ?_
    refine q_put (v := 0) hx q_fl_X7_21 q_fp_7_3 dX7_refuseCommand_29 (q_ne kd_27 (by decide)) (q_e7 kd_27) (by rw [q_l7]; decide) rfl rfl (by rw [q_e7 kd_27, q_s7_3]) ?_
    refine q_aload_n hx dX7_refuseCommand_32 0 rfl ?_
    refine q_bipush (v := 11) hx dX7_refuseCommand_33 (by decide) ?_
    refine q_put (v := 11) hx q_fl_X7_9 q_fp_7_0 dX7_refuseCommand_35 (q_ne kd_27 (by decide)) (q_e7 kd_27) (by rw [q_l7]; decide) rfl rfl (by rw [q_e7 kd_27, q_s7_0]) ?_
    refine q_aload_n hx dX7_refuseCommand_38 0 rfl ?_
    refine q_iload_n hx dX7_refuseCommand_39 1 rfl ?_
    refine q_put (v := v1) hx q_fl_X7_15 q_fp_7_1 dX7_refuseCommand_40 (q_ne kd_27 (by decide)) (q_e7 kd_27) (by rw [q_l7]; decide) rfl rfl (by rw [q_e7 kd_27, q_s7_1]) ?_
    subst h
    exact q_vret hx hr dX7_refuseCommand_43
  · replace h := (if_neg hc2).symm.trans h
    refine q_aload_n hx dX7_refuseCommand_21 0 rfl ?_
    refine q_get (v := .int ((q_up σ 27 2 s0) 27 1)) hx q_fl_X7_15 dX7_refuseCommand_22 (q_ne kd_27 (by decide)) (q_e7 kd_27) rfl ?_
    refine q_goto hx 29 dX7_refuseCommand_25 (by decide) ?_
    refine q_put (v := (q_up σ 27 2 s0) 27 1) hx q_fl_X7_21 q_fp_7_3 dX7_refuseCommand_29 (q_ne kd_27 (by decide)) (q_e7 kd_27) (by rw [q_l7]; decide) rfl rfl (by rw [q_e7 kd_27, q_s7_3]) ?_
    refine q_aload_n hx dX7_refuseCommand_32 0 rfl ?_
    refine q_bipush (v := 11) hx dX7_refuseCommand_33 (by decide) ?_
    refine q_put (v := 11) hx q_fl_X7_9 q_fp_7_0 dX7_refuseCommand_35 (q_ne kd_27 (by decide)) (q_e7 kd_27) (by rw [q_l7]; decide) rfl rfl (by rw [q_e7 kd_27, q_s7_0]) ?_
    refine q_aload_n hx dX7_refuseCommand_38 0 rfl ?_
    refine q_iload_n hx dX7_refuseCommand_39 1 rfl ?_
    refine q_put (v := v1) hx q_fl_X7_15 q_fp_7_1 dX7_refuseCommand_40 (q_ne kd_27 (by decide)) (q_e7 kd_27) (by rw [q_l7]; decide) rfl rfl (by rw [q_e7 kd_27, q_s7_1]) ?_
    subst h
    exact q_vret hx hr dX7_refuseCommand_43
def f_X7_refuseCommand (σ : q_S) (a1 : Int32) (a2 : Int32) : q_S :=
  if a2 = 0 then (f_X7_refuseCommand_13 a1 a2 0 σ) else (f_X7_refuseCommand_13 a1 a2 (σ 27 0) σ)
set_option maxHeartbeats 4000000 in
set_option maxRecDepth 100000 in
theorem ca_X7_refuseCommand (l : Launch) (G : q_G) (x : q_A) (σ : q_S) (a1 : Int32) (a2 : Int32)  {res : q_S} (h : f_X7_refuseCommand σ a1 a2 = res) : q_Met l yX7_refuseCommand cX7_refuseCommand 3 (none) 1 G [.ref (G.2.1 + 27), .int a1, .int a2] σ x (q_Qv G x res) := by
  refine q_of (by decide) (Nat.le_of_ble_eq_true rfl) (fun X hl0 hx hr => ?_)
  subst hl0
  have hx : q_Cx X G RX7 cX7_refuseCommand 3 1 := hx
  unfold f_X7_refuseCommand at h
  show q_Wq X G x 3 (q_MQ X G (q_Qv G x res)) 0 0 0 [(0, .ref (G.2.1 + 27)), (1, .int a1), (2, .int a2)] [] σ
  refine q_aload_n hx dX7_refuseCommand_0 0 rfl ?_
  refine q_iload_n hx dX7_refuseCommand_1 2 rfl ?_
  refine q_if_eq hx 12 dX7_refuseCommand_2 (by decide) (fun hc1 => ?_) (fun hc1 => ?_)
  · replace h := (if_pos hc1).symm.trans h
    refine q_iconst (v := 0) hx dX7_refuseCommand_12 (by decide) ?_
    refine q_sub [0, 1, 2] rfl ?_
    exact s_X7_refuseCommand_13 hx hr a1 a2 0 σ h
  · replace h := (if_neg hc1).symm.trans h
    refine q_aload_n hx dX7_refuseCommand_5 0 rfl ?_
    refine q_get (v := .int (σ 27 0)) hx q_fl_X7_9 dX7_refuseCommand_6 (q_ne kd_27 (by decide)) (q_e7 kd_27) rfl ?_
    refine q_goto hx 13 dX7_refuseCommand_9 (by decide) ?_
    refine q_sub [0, 1, 2] rfl ?_
    exact s_X7_refuseCommand_13 hx hr a1 a2 (σ 27 0) σ h
theorem c_X7_refuseCommand (l : Launch) (G : q_G) (x : q_A) (σ : q_S) (a1 : Int32) (a2 : Int32)  : q_Met l yX7_refuseCommand cX7_refuseCommand 3 (none) 1 G [.ref (G.2.1 + 27), .int a1, .int a2] σ x (q_Qv G x (f_X7_refuseCommand σ a1 a2)) := ca_X7_refuseCommand l G x σ a1 a2 rfl
