-- X1_isDigit
def f_X1_isDigit (a0 : Int32) : Option (Int32) :=
  if ((f_X9_isFrom a0 48 57) = 0 ∨ (f_X9_isFrom a0 48 57) = 1) then some ((f_X9_isFrom a0 48 57)) else none
set_option maxHeartbeats 4000000 in
set_option maxRecDepth 100000 in
theorem c_X1_isDigit (l : Launch) (G : q_G) (x : q_A) (σ : q_S) (a0 : Int32)  {res : Int32} (h : f_X1_isDigit a0 = some res) : q_Met l yX1_isDigit cX1_isDigit 1 (some .boolean) 2 G [.int a0] σ x (q_Qi G x res σ) := by
  refine q_of (by decide) (Nat.le_of_ble_eq_true rfl) (fun X hl0 hx hr => ?_)
  subst hl0
  have hx : q_Cx X G RX1 cX1_isDigit 1 2 := hx
  unfold f_X1_isDigit at h
  show q_Wq X G x 1 (q_MQ X G (q_Qi G x res σ)) 0 0 0 [(0, .int a0)] [] σ
  refine q_iload_n hx dX1_isDigit_0 0 rfl ?_
  refine q_bipush (v := 48) hx dX1_isDigit_1 (by decide) ?_
  refine q_bipush (v := 57) hx dX1_isDigit_3 (by decide) ?_
  refine q_callSi (As := [.int a0, .int 48, .int 57]) (rest := []) hx q_kR0 (c_X9_isFrom (q_Xl X) G x σ a0 48 57) q_ml_X1_102 q_mn_X9_isFrom q_ms_X9_isFrom (by decide) rfl (Nat.le_of_ble_eq_true rfl) dX1_isDigit_5 rfl ?_
  by_cases hg1 : ((f_X9_isFrom a0 48 57) = 0 ∨ (f_X9_isFrom a0 48 57) = 1)
  case neg => rw [if_neg hg1] at h; exact nomatch h
  replace h := (if_pos hg1).symm.trans h
  cases h
  exact q_zret hx hr (q_zn hg1) dX1_isDigit_8
-- X1_isFit
def f_X1_isFit (a0 : Int32) (a1 : Int32) : Option (Int32) :=
  if a0 = 35 then (Option.bind (f_X1_isDigit a1) (fun q2 => if (q2 = 0 ∨ q2 = 1) then some q2 else none)) else if a0 = 37 then (Option.bind (f_X1_isDigit a1) (fun q5 => if (q5 = 0 ∨ q5 = 1) then some q5 else none)) else if a0 = 64 then (if ((f_X9_directionFor a1)) = ((-1)) then (some 0) else (some 1)) else if a0 = 126 then (if a1 = 43 then (some 1) else (if a1 = 45 then (some 1) else (some 0))) else if a1 = a0 then (some 1) else (some 0)
set_option maxHeartbeats 4000000 in
set_option maxRecDepth 100000 in
theorem c_X1_isFit (l : Launch) (G : q_G) (x : q_A) (σ : q_S) (a0 : Int32) (a1 : Int32)  {res : Int32} (h : f_X1_isFit a0 a1 = some res) : q_Met l yX1_isFit cX1_isFit 2 (some .boolean) 3 G [.int a0, .int a1] σ x (q_Qi G x res σ) := by
  refine q_of (by decide) (Nat.le_of_ble_eq_true rfl) (fun X hl0 hx hr => ?_)
  subst hl0
  have hx : q_Cx X G RX1 cX1_isFit 2 3 := hx
  unfold f_X1_isFit at h
  show q_Wq X G x 2 (q_MQ X G (q_Qi G x res σ)) 0 0 0 [(0, .int a0), (1, .int a1)] [] σ
  refine q_iload_n hx dX1_isFit_0 0 rfl ?_
  by_cases hc1 : a0 = 35
  · replace h := (if_pos hc1).symm.trans h
    refine q_look hx 44 dX1_isFit_1 (by decide) (by rw [hc1] <;> rfl) (by decide) ?_
    refine q_iload_n hx dX1_isFit_44 1 rfl ?_
    refine q_bindE h (fun q2 hq2 h => ?_)
    refine q_callSi (As := [.int a1]) (rest := []) hx q_kR0 (c_X1_isDigit (q_Xl X) G x σ a1 hq2) q_ml_X1_94 q_mn_X1_isDigit q_ms_X1_isDigit (by decide) rfl (Nat.le_of_ble_eq_true rfl) dX1_isFit_45 rfl ?_
    by_cases hg3 : (q2 = 0 ∨ q2 = 1)
    case neg => rw [if_neg hg3] at h; exact nomatch h
    replace h := (if_pos hg3).symm.trans h
    cases h
    exact q_zret hx hr (q_zn hg3) dX1_isFit_48
  replace h := (if_neg hc1).symm.trans h
  by_cases hc4 : a0 = 37
  · replace h := (if_pos hc4).symm.trans h
    refine q_look hx 44 dX1_isFit_1 (by decide) (by rw [hc4] <;> rfl) (by decide) ?_
    refine q_iload_n hx dX1_isFit_44 1 rfl ?_
    refine q_bindE h (fun q5 hq5 h => ?_)
    refine q_callSi (As := [.int a1]) (rest := []) hx q_kR0 (c_X1_isDigit (q_Xl X) G x σ a1 hq5) q_ml_X1_94 q_mn_X1_isDigit q_ms_X1_isDigit (by decide) rfl (Nat.le_of_ble_eq_true rfl) dX1_isFit_45 rfl ?_
    by_cases hg6 : (q5 = 0 ∨ q5 = 1)
    case neg => rw [if_neg hg6] at h; exact nomatch h
    replace h := (if_pos hg6).symm.trans h
    cases h
    exact q_zret hx hr (q_zn hg6) dX1_isFit_48
  replace h := (if_neg hc4).symm.trans h
  by_cases hc7 : a0 = 64
  · replace h := (if_pos hc7).symm.trans h
    refine q_look hx 49 dX1_isFit_1 (by decide) (by rw [hc7] <;> rfl) (by decide) ?_
    refine q_iload_n hx dX1_isFit_49 1 rfl ?_
    refine q_callSi (As := [.int a1]) (rest := []) hx q_kR0 (c_X9_directionFor (q_Xl X) G x σ a1) q_ml_X1_98 q_mn_X9_directionFor q_ms_X9_directionFor (by decide) rfl (Nat.le_of_ble_eq_true rfl) dX1_isFit_50 rfl ?_
    refine q_iconst (v := (-1)) hx dX1_isFit_53 (by decide) ?_
    refine q_icmp_eq hx 61 dX1_isFit_54 (by decide) (fun hc8 => ?_) (fun hc8 => ?_)
    · replace h := (if_pos hc8).symm.trans h
      refine q_iconst (v := 0) hx dX1_isFit_61 (by decide) ?_
      cases h
      exact q_zret hx hr rfl dX1_isFit_62
    · replace h := (if_neg hc8).symm.trans h
      refine q_iconst (v := 1) hx dX1_isFit_57 (by decide) ?_
      refine q_goto hx 62 dX1_isFit_58 (by decide) ?_
      cases h
      exact q_zret hx hr rfl dX1_isFit_62
  replace h := (if_neg hc7).symm.trans h
  by_cases hc9 : a0 = 126
  · replace h := (if_pos hc9).symm.trans h
    refine q_look hx 63 dX1_isFit_1 (by decide) (by rw [hc9] <;> rfl) (by decide) ?_
    refine q_iload_n hx dX1_isFit_63 1 rfl ?_
    refine q_bipush (v := 43) hx dX1_isFit_64 (by decide) ?_
    refine q_icmp_eq hx 75 dX1_isFit_66 (by decide) (fun hc10 => ?_) (fun hc10 => ?_)
    · replace h := (if_pos hc10).symm.trans h
      refine q_iconst (v := 1) hx dX1_isFit_75 (by decide) ?_
      refine q_goto hx 80 dX1_isFit_76 (by decide) ?_
      cases h
      exact q_zret hx hr rfl dX1_isFit_80
    · replace h := (if_neg hc10).symm.trans h
      refine q_iload_n hx dX1_isFit_69 1 rfl ?_
      refine q_bipush (v := 45) hx dX1_isFit_70 (by decide) ?_
      refine q_icmp_ne hx 79 dX1_isFit_72 (by decide) (fun hc11 => ?_) (fun hc11 => ?_)
      · replace h := (if_neg hc11).symm.trans h
        refine q_iconst (v := 0) hx dX1_isFit_79 (by decide) ?_
        cases h
        exact q_zret hx hr rfl dX1_isFit_80
      · replace h := (if_pos hc11).symm.trans h
        refine q_iconst (v := 1) hx dX1_isFit_75 (by decide) ?_
        refine q_goto hx 80 dX1_isFit_76 (by decide) ?_
        cases h
        exact q_zret hx hr rfl dX1_isFit_80
  replace h := (if_neg hc9).symm.trans h
  refine q_look (off := 80) hx 81 dX1_isFit_1 (by decide) (by rw [lv_osw (k := 35) hc1 (by decide), lv_osw (k := 37) hc4 (by decide), lv_osw (k := 64) hc7 (by decide), lv_osw (k := 126) hc9 (by decide)] <;> rfl) (by decide) ?_
  refine q_iload_n hx dX1_isFit_81 1 rfl ?_
  refine q_iload_n hx dX1_isFit_82 0 rfl ?_
  refine q_icmp_ne hx 90 dX1_isFit_83 (by decide) (fun hc12 => ?_) (fun hc12 => ?_)
  · replace h := (if_neg hc12).symm.trans h
    refine q_iconst (v := 0) hx dX1_isFit_90 (by decide) ?_
    cases h
    exact q_zret hx hr rfl dX1_isFit_91
  · replace h := (if_pos hc12).symm.trans h
    refine q_iconst (v := 1) hx dX1_isFit_86 (by decide) ?_
    refine q_goto hx 91 dX1_isFit_87 (by decide) ?_
    cases h
    exact q_zret hx hr rfl dX1_isFit_91
-- X1_characterAt
def f_X1_characterAt (σ : q_S) (a1 : Int32) (a2 : Int32) : Option (Int32) :=
  if a2 < 0 then (some ((-1))) else (if a1 ≤ a2 then (some ((-1))) else (if 60 ≤ a2 then (some ((-1))) else (if (a2 < 0 ∨ 60 ≤ a2.toNatClampNeg) then none else some (σ 283 a2.toNatClampNeg))))
set_option maxHeartbeats 4000000 in
set_option maxRecDepth 100000 in
theorem c_X1_characterAt (l : Launch) (G : q_G) (x : q_A) (σ : q_S) (a1 : Int32) (a2 : Int32)  {res : Int32} (h : f_X1_characterAt σ a1 a2 = some res) : q_Met l yX1_characterAt cX1_characterAt 3 (some .int) 1 G [.ref (G.2.1 + 283), .int a1, .int a2] σ x (q_Qi G x res σ) := by
  refine q_of (by decide) (Nat.le_of_ble_eq_true rfl) (fun X hl0 hx hr => ?_)
  subst hl0
  have hx : q_Cx X G RX1 cX1_characterAt 3 1 := hx
  unfold f_X1_characterAt at h
  show q_Wq X G x 3 (q_MQ X G (q_Qi G x res σ)) 0 0 0 [(0, .ref (G.2.1 + 283)), (1, .int a1), (2, .int a2)] [] σ
  refine q_iload_n hx dX1_characterAt_0 2 rfl ?_
  refine q_if_lt hx 21 dX1_characterAt_1 (by decide) (fun hc1 => ?_) (fun hc1 => ?_)
  · replace h := (if_pos hc1).symm.trans h
    refine q_iconst (v := (-1)) hx dX1_characterAt_21 (by decide) ?_
    cases h
    exact q_iret hx hr dX1_characterAt_22
  · replace h := (if_neg hc1).symm.trans h
    refine q_iload_n hx dX1_characterAt_4 2 rfl ?_
    refine q_iload_n hx dX1_characterAt_5 1 rfl ?_
    refine q_icmp_ge hx 21 dX1_characterAt_6 (by decide) (fun hc2 => ?_) (fun hc2 => ?_)
    · replace h := (if_pos hc2).symm.trans h
      refine q_iconst (v := (-1)) hx dX1_characterAt_21 (by decide) ?_
      cases h
      exact q_iret hx hr dX1_characterAt_22
    · replace h := (if_neg hc2).symm.trans h
      refine q_iload_n hx dX1_characterAt_9 2 rfl ?_
      refine q_aload_n hx dX1_characterAt_10 0 rfl ?_
      refine q_alen1 (N := 60) (v := 60) hx dX1_characterAt_11 kd_283 (by decide) (by decide) ?_
      refine q_icmp_ge hx 21 dX1_characterAt_12 (by decide) (fun hc3 => ?_) (fun hc3 => ?_)
      · replace h := (if_pos hc3).symm.trans h
        refine q_iconst (v := (-1)) hx dX1_characterAt_21 (by decide) ?_
        cases h
        exact q_iret hx hr dX1_characterAt_22
      · replace h := (if_neg hc3).symm.trans h
        refine q_aload_n hx dX1_characterAt_15 0 rfl ?_
        refine q_iload_n hx dX1_characterAt_16 2 rfl ?_
        by_cases hg4 : (a2 < 0 ∨ 60 ≤ a2.toNatClampNeg)
        · rw [if_pos hg4] at h; exact nomatch h
        replace h := (if_neg hg4).symm.trans h
        refine q_cald (N := 60) hx dX1_characterAt_17 kd_283 (by first | decide | assumption) hg4 ?_
        refine q_goto hx 22 dX1_characterAt_18 (by decide) ?_
        cases h
        exact q_iret hx hr dX1_characterAt_22
-- X1_add
def f_X1_add (σ : q_S) (a1 : Int32) : q_S :=
  q_up ((f_X9_setNumberAt ((f_X9_setNumberAt ((f_X9_setNumberAt ((f_X9_setNumberAt σ 285 10 (σ 284 0) a1)) 286 10 (((f_X9_setNumberAt σ 285 10 (σ 284 0) a1)) 284 0) ((f_X9_numberAt ((f_X9_setNumberAt σ 285 10 (σ 284 0) a1)) 289 3 0)))) 287 10 (((f_X9_setNumberAt ((f_X9_setNumberAt σ 285 10 (σ 284 0) a1)) 286 10 (((f_X9_setNumberAt σ 285 10 (σ 284 0) a1)) 284 0) ((f_X9_numberAt ((f_X9_setNumberAt σ 285 10 (σ 284 0) a1)) 289 3 0)))) 284 0) ((f_X9_numberAt ((f_X9_setNumberAt ((f_X9_setNumberAt σ 285 10 (σ 284 0) a1)) 286 10 (((f_X9_setNumberAt σ 285 10 (σ 284 0) a1)) 284 0) ((f_X9_numberAt ((f_X9_setNumberAt σ 285 10 (σ 284 0) a1)) 289 3 0)))) 289 3 1)))) 288 10 (((f_X9_setNumberAt ((f_X9_setNumberAt ((f_X9_setNumberAt σ 285 10 (σ 284 0) a1)) 286 10 (((f_X9_setNumberAt σ 285 10 (σ 284 0) a1)) 284 0) ((f_X9_numberAt ((f_X9_setNumberAt σ 285 10 (σ 284 0) a1)) 289 3 0)))) 287 10 (((f_X9_setNumberAt ((f_X9_setNumberAt σ 285 10 (σ 284 0) a1)) 286 10 (((f_X9_setNumberAt σ 285 10 (σ 284 0) a1)) 284 0) ((f_X9_numberAt ((f_X9_setNumberAt σ 285 10 (σ 284 0) a1)) 289 3 0)))) 284 0) ((f_X9_numberAt ((f_X9_setNumberAt ((f_X9_setNumberAt σ 285 10 (σ 284 0) a1)) 286 10 (((f_X9_setNumberAt σ 285 10 (σ 284 0) a1)) 284 0) ((f_X9_numberAt ((f_X9_setNumberAt σ 285 10 (σ 284 0) a1)) 289 3 0)))) 289 3 1)))) 284 0) ((f_X9_numberAt ((f_X9_setNumberAt ((f_X9_setNumberAt ((f_X9_setNumberAt σ 285 10 (σ 284 0) a1)) 286 10 (((f_X9_setNumberAt σ 285 10 (σ 284 0) a1)) 284 0) ((f_X9_numberAt ((f_X9_setNumberAt σ 285 10 (σ 284 0) a1)) 289 3 0)))) 287 10 (((f_X9_setNumberAt ((f_X9_setNumberAt σ 285 10 (σ 284 0) a1)) 286 10 (((f_X9_setNumberAt σ 285 10 (σ 284 0) a1)) 284 0) ((f_X9_numberAt ((f_X9_setNumberAt σ 285 10 (σ 284 0) a1)) 289 3 0)))) 284 0) ((f_X9_numberAt ((f_X9_setNumberAt ((f_X9_setNumberAt σ 285 10 (σ 284 0) a1)) 286 10 (((f_X9_setNumberAt σ 285 10 (σ 284 0) a1)) 284 0) ((f_X9_numberAt ((f_X9_setNumberAt σ 285 10 (σ 284 0) a1)) 289 3 0)))) 289 3 1)))) 289 3 2)))) 284 0 ((((f_X9_setNumberAt ((f_X9_setNumberAt ((f_X9_setNumberAt ((f_X9_setNumberAt σ 285 10 (σ 284 0) a1)) 286 10 (((f_X9_setNumberAt σ 285 10 (σ 284 0) a1)) 284 0) ((f_X9_numberAt ((f_X9_setNumberAt σ 285 10 (σ 284 0) a1)) 289 3 0)))) 287 10 (((f_X9_setNumberAt ((f_X9_setNumberAt σ 285 10 (σ 284 0) a1)) 286 10 (((f_X9_setNumberAt σ 285 10 (σ 284 0) a1)) 284 0) ((f_X9_numberAt ((f_X9_setNumberAt σ 285 10 (σ 284 0) a1)) 289 3 0)))) 284 0) ((f_X9_numberAt ((f_X9_setNumberAt ((f_X9_setNumberAt σ 285 10 (σ 284 0) a1)) 286 10 (((f_X9_setNumberAt σ 285 10 (σ 284 0) a1)) 284 0) ((f_X9_numberAt ((f_X9_setNumberAt σ 285 10 (σ 284 0) a1)) 289 3 0)))) 289 3 1)))) 288 10 (((f_X9_setNumberAt ((f_X9_setNumberAt ((f_X9_setNumberAt σ 285 10 (σ 284 0) a1)) 286 10 (((f_X9_setNumberAt σ 285 10 (σ 284 0) a1)) 284 0) ((f_X9_numberAt ((f_X9_setNumberAt σ 285 10 (σ 284 0) a1)) 289 3 0)))) 287 10 (((f_X9_setNumberAt ((f_X9_setNumberAt σ 285 10 (σ 284 0) a1)) 286 10 (((f_X9_setNumberAt σ 285 10 (σ 284 0) a1)) 284 0) ((f_X9_numberAt ((f_X9_setNumberAt σ 285 10 (σ 284 0) a1)) 289 3 0)))) 284 0) ((f_X9_numberAt ((f_X9_setNumberAt ((f_X9_setNumberAt σ 285 10 (σ 284 0) a1)) 286 10 (((f_X9_setNumberAt σ 285 10 (σ 284 0) a1)) 284 0) ((f_X9_numberAt ((f_X9_setNumberAt σ 285 10 (σ 284 0) a1)) 289 3 0)))) 289 3 1)))) 284 0) ((f_X9_numberAt ((f_X9_setNumberAt ((f_X9_setNumberAt ((f_X9_setNumberAt σ 285 10 (σ 284 0) a1)) 286 10 (((f_X9_setNumberAt σ 285 10 (σ 284 0) a1)) 284 0) ((f_X9_numberAt ((f_X9_setNumberAt σ 285 10 (σ 284 0) a1)) 289 3 0)))) 287 10 (((f_X9_setNumberAt ((f_X9_setNumberAt σ 285 10 (σ 284 0) a1)) 286 10 (((f_X9_setNumberAt σ 285 10 (σ 284 0) a1)) 284 0) ((f_X9_numberAt ((f_X9_setNumberAt σ 285 10 (σ 284 0) a1)) 289 3 0)))) 284 0) ((f_X9_numberAt ((f_X9_setNumberAt ((f_X9_setNumberAt σ 285 10 (σ 284 0) a1)) 286 10 (((f_X9_setNumberAt σ 285 10 (σ 284 0) a1)) 284 0) ((f_X9_numberAt ((f_X9_setNumberAt σ 285 10 (σ 284 0) a1)) 289 3 0)))) 289 3 1)))) 289 3 2)))) 284 0) + 1)
set_option maxHeartbeats 4000000 in
set_option maxRecDepth 100000 in
theorem ca_X1_add (l : Launch) (G : q_G) (x : q_A) (σ : q_S) (a1 : Int32)  {res : q_S} (h : f_X1_add σ a1 = res) : q_Met l yX1_add cX1_add 2 (none) 2 G [.ref (G.2.1 + 284), .int a1] σ x (q_Qv G x res) := by
  refine q_of (by decide) (Nat.le_of_ble_eq_true rfl) (fun X hl0 hx hr => ?_)
  subst hl0
  have hx : q_Cx X G RX1 cX1_add 2 2 := hx
  unfold f_X1_add at h
  show q_Wq X G x 2 (q_MQ X G (q_Qv G x res)) 0 0 0 [(0, .ref (G.2.1 + 284)), (1, .int a1)] [] σ
  refine q_aload_n hx dX1_add_0 0 rfl ?_
  refine q_get (v := .ref (G.2.1 + 285)) hx q_fl_X1_15 dX1_add_1 (q_ne kd_284 (by decide)) (q_e1 kd_284) rfl ?_
  refine q_aload_n hx dX1_add_4 0 rfl ?_
  refine q_get (v := .int (σ 284 0)) hx q_fl_X1_9 dX1_add_5 (q_ne kd_284 (by decide)) (q_e1 kd_284) rfl ?_
  refine q_iload_n hx dX1_add_8 1 rfl ?_
  refine q_callSv (As := [.ref (G.2.1 + 285), .int (σ 284 0), .int a1]) (rest := []) hx q_kR0 (c_X9_setNumberAt (q_Xl X) G x σ 285 10 (σ 284 0) a1 kd_285) q_ml_X1_56 q_mn_X9_setNumberAt q_ms_X9_setNumberAt (by decide) rfl (Nat.le_of_ble_eq_true rfl) dX1_add_9 rfl ?_
  refine q_aload_n hx dX1_add_12 0 rfl ?_
  refine q_get (v := .ref (G.2.1 + 286)) hx q_fl_X1_19 dX1_add_13 (q_ne kd_284 (by decide)) (q_e1 kd_284) rfl ?_
  refine q_aload_n hx dX1_add_16 0 rfl ?_
  refine q_get (v := .int (((f_X9_setNumberAt σ 285 10 (σ 284 0) a1)) 284 0)) hx q_fl_X1_9 dX1_add_17 (q_ne kd_284 (by decide)) (q_e1 kd_284) rfl ?_
  refine q_aload_n hx dX1_add_20 0 rfl ?_
  refine q_get (v := .ref (G.2.1 + 289)) hx q_fl_X1_28 dX1_add_21 (q_ne kd_284 (by decide)) (q_e1 kd_284) rfl ?_
  refine q_iconst (v := 0) hx dX1_add_24 (by decide) ?_
  refine q_callSi (As := [.ref (G.2.1 + 289), .int 0]) (rest := [.int (((f_X9_setNumberAt σ 285 10 (σ 284 0) a1)) 284 0), .ref (G.2.1 + 286)]) hx q_kR0 (c_X9_numberAt (q_Xl X) G x ((f_X9_setNumberAt σ 285 10 (σ 284 0) a1)) 289 3 0 kd_289) q_ml_X1_60 q_mn_X9_numberAt q_ms_X9_numberAt (by decide) rfl (Nat.le_of_ble_eq_true rfl) dX1_add_25 rfl ?_
  refine q_callSv (As := [.ref (G.2.1 + 286), .int (((f_X9_setNumberAt σ 285 10 (σ 284 0) a1)) 284 0), .int ((f_X9_numberAt ((f_X9_setNumberAt σ 285 10 (σ 284 0) a1)) 289 3 0))]) (rest := []) hx q_kR0 (c_X9_setNumberAt (q_Xl X) G x ((f_X9_setNumberAt σ 285 10 (σ 284 0) a1)) 286 10 (((f_X9_setNumberAt σ 285 10 (σ 284 0) a1)) 284 0) ((f_X9_numberAt ((f_X9_setNumberAt σ 285 10 (σ 284 0) a1)) 289 3 0)) kd_286) q_ml_X1_56 q_mn_X9_setNumberAt q_ms_X9_setNumberAt (by decide) rfl (Nat.le_of_ble_eq_true rfl) dX1_add_28 rfl ?_
  refine q_aload_n hx dX1_add_31 0 rfl ?_
  refine q_get (v := .ref (G.2.1 + 287)) hx q_fl_X1_22 dX1_add_32 (q_ne kd_284 (by decide)) (q_e1 kd_284) rfl ?_
  refine q_aload_n hx dX1_add_35 0 rfl ?_
  refine q_get (v := .int (((f_X9_setNumberAt ((f_X9_setNumberAt σ 285 10 (σ 284 0) a1)) 286 10 (((f_X9_setNumberAt σ 285 10 (σ 284 0) a1)) 284 0) ((f_X9_numberAt ((f_X9_setNumberAt σ 285 10 (σ 284 0) a1)) 289 3 0)))) 284 0)) hx q_fl_X1_9 dX1_add_36 (q_ne kd_284 (by decide)) (q_e1 kd_284) rfl ?_
  refine q_aload_n hx dX1_add_39 0 rfl ?_
  refine q_get (v := .ref (G.2.1 + 289)) hx q_fl_X1_28 dX1_add_40 (q_ne kd_284 (by decide)) (q_e1 kd_284) rfl ?_
  refine q_iconst (v := 1) hx dX1_add_43 (by decide) ?_
  refine q_callSi (As := [.ref (G.2.1 + 289), .int 1]) (rest := [.int (((f_X9_setNumberAt ((f_X9_setNumberAt σ 285 10 (σ 284 0) a1)) 286 10 (((f_X9_setNumberAt σ 285 10 (σ 284 0) a1)) 284 0) ((f_X9_numberAt ((f_X9_setNumberAt σ 285 10 (σ 284 0) a1)) 289 3 0)))) 284 0), .ref (G.2.1 + 287)]) hx q_kR0 (c_X9_numberAt (q_Xl X) G x ((f_X9_setNumberAt ((f_X9_setNumberAt σ 285 10 (σ 284 0) a1)) 286 10 (((f_X9_setNumberAt σ 285 10 (σ 284 0) a1)) 284 0) ((f_X9_numberAt ((f_X9_setNumberAt σ 285 10 (σ 284 0) a1)) 289 3 0)))) 289 3 1 kd_289) q_ml_X1_60 q_mn_X9_numberAt q_ms_X9_numberAt (by decide) rfl (Nat.le_of_ble_eq_true rfl) dX1_add_44 rfl ?_
  refine q_callSv (As := [.ref (G.2.1 + 287), .int (((f_X9_setNumberAt ((f_X9_setNumberAt σ 285 10 (σ 284 0) a1)) 286 10 (((f_X9_setNumberAt σ 285 10 (σ 284 0) a1)) 284 0) ((f_X9_numberAt ((f_X9_setNumberAt σ 285 10 (σ 284 0) a1)) 289 3 0)))) 284 0), .int ((f_X9_numberAt ((f_X9_setNumberAt ((f_X9_setNumberAt σ 285 10 (σ 284 0) a1)) 286 10 (((f_X9_setNumberAt σ 285 10 (σ 284 0) a1)) 284 0) ((f_X9_numberAt ((f_X9_setNumberAt σ 285 10 (σ 284 0) a1)) 289 3 0)))) 289 3 1))]) (rest := []) hx q_kR0 (c_X9_setNumberAt (q_Xl X) G x ((f_X9_setNumberAt ((f_X9_setNumberAt σ 285 10 (σ 284 0) a1)) 286 10 (((f_X9_setNumberAt σ 285 10 (σ 284 0) a1)) 284 0) ((f_X9_numberAt ((f_X9_setNumberAt σ 285 10 (σ 284 0) a1)) 289 3 0)))) 287 10 (((f_X9_setNumberAt ((f_X9_setNumberAt σ 285 10 (σ 284 0) a1)) 286 10 (((f_X9_setNumberAt σ 285 10 (σ 284 0) a1)) 284 0) ((f_X9_numberAt ((f_X9_setNumberAt σ 285 10 (σ 284 0) a1)) 289 3 0)))) 284 0) ((f_X9_numberAt ((f_X9_setNumberAt ((f_X9_setNumberAt σ 285 10 (σ 284 0) a1)) 286 10 (((f_X9_setNumberAt σ 285 10 (σ 284 0) a1)) 284 0) ((f_X9_numberAt ((f_X9_setNumberAt σ 285 10 (σ 284 0) a1)) 289 3 0)))) 289 3 1)) kd_287) q_ml_X1_56 q_mn_X9_setNumberAt q_ms_X9_setNumberAt (by decide) rfl (Nat.le_of_ble_eq_true rfl) dX1_add_47 rfl ?_
  refine q_aload_n hx dX1_add_50 0 rfl ?_
  refine q_get (v := .ref (G.2.1 + 288)) hx q_fl_X1_25 dX1_add_51 (q_ne kd_284 (by decide)) (q_e1 kd_284) rfl ?_
  refine q_aload_n hx dX1_add_54 0 rfl ?_
  refine q_get (v := .int (((f_X9_setNumberAt ((f_X9_setNumberAt ((f_X9_setNumberAt σ 285 10 (σ 284 0) a1)) 286 10 (((f_X9_setNumberAt σ 285 10 (σ 284 0) a1)) 284 0) ((f_X9_numberAt ((f_X9_setNumberAt σ 285 10 (σ 284 0) a1)) 289 3 0)))) 287 10 (((f_X9_setNumberAt ((f_X9_setNumberAt σ 285 10 (σ 284 0) a1)) 286 10 (((f_X9_setNumberAt σ 285 10 (σ 284 0) a1)) 284 0) ((f_X9_numberAt ((f_X9_setNumberAt σ 285 10 (σ 284 0) a1)) 289 3 0)))) 284 0) ((f_X9_numberAt ((f_X9_setNumberAt ((f_X9_setNumberAt σ 285 10 (σ 284 0) a1)) 286 10 (((f_X9_setNumberAt σ 285 10 (σ 284 0) a1)) 284 0) ((f_X9_numberAt ((f_X9_setNumberAt σ 285 10 (σ 284 0) a1)) 289 3 0)))) 289 3 1)))) 284 0)) hx q_fl_X1_9 dX1_add_55 (q_ne kd_284 (by decide)) (q_e1 kd_284) rfl ?_
  refine q_aload_n hx dX1_add_58 0 rfl ?_
  refine q_get (v := .ref (G.2.1 + 289)) hx q_fl_X1_28 dX1_add_59 (q_ne kd_284 (by decide)) (q_e1 kd_284) rfl ?_
  refine q_iconst (v := 2) hx dX1_add_62 (by decide) ?_
  refine q_callSi (As := [.ref (G.2.1 + 289), .int 2]) (rest := [.int (((f_X9_setNumberAt ((f_X9_setNumberAt ((f_X9_setNumberAt σ 285 10 (σ 284 0) a1)) 286 10 (((f_X9_setNumberAt σ 285 10 (σ 284 0) a1)) 284 0) ((f_X9_numberAt ((f_X9_setNumberAt σ 285 10 (σ 284 0) a1)) 289 3 0)))) 287 10 (((f_X9_setNumberAt ((f_X9_setNumberAt σ 285 10 (σ 284 0) a1)) 286 10 (((f_X9_setNumberAt σ 285 10 (σ 284 0) a1)) 284 0) ((f_X9_numberAt ((f_X9_setNumberAt σ 285 10 (σ 284 0) a1)) 289 3 0)))) 284 0) ((f_X9_numberAt ((f_X9_setNumberAt ((f_X9_setNumberAt σ 285 10 (σ 284 0) a1)) 286 10 (((f_X9_setNumberAt σ 285 10 (σ 284 0) a1)) 284 0) ((f_X9_numberAt ((f_X9_setNumberAt σ 285 10 (σ 284 0) a1)) 289 3 0)))) 289 3 1)))) 284 0), .ref (G.2.1 + 288)]) hx q_kR0 (c_X9_numberAt (q_Xl X) G x ((f_X9_setNumberAt ((f_X9_setNumberAt ((f_X9_setNumberAt σ 285 10 (σ 284 0) a1)) 286 10 (((f_X9_setNumberAt σ 285 10 (σ 284 0) a1)) 284 0) ((f_X9_numberAt ((f_X9_setNumberAt σ 285 10 (σ 284 0) a1)) 289 3 0)))) 287 10 (((f_X9_setNumberAt ((f_X9_setNumberAt σ 285 10 (σ 284 0) a1)) 286 10 (((f_X9_setNumberAt σ 285 10 (σ 284 0) a1)) 284 0) ((f_X9_numberAt ((f_X9_setNumberAt σ 285 10 (σ 284 0) a1)) 289 3 0)))) 284 0) ((f_X9_numberAt ((f_X9_setNumberAt ((f_X9_setNumberAt σ 285 10 (σ 284 0) a1)) 286 10 (((f_X9_setNumberAt σ 285 10 (σ 284 0) a1)) 284 0) ((f_X9_numberAt ((f_X9_setNumberAt σ 285 10 (σ 284 0) a1)) 289 3 0)))) 289 3 1)))) 289 3 2 kd_289) q_ml_X1_60 q_mn_X9_numberAt q_ms_X9_numberAt (by decide) rfl (Nat.le_of_ble_eq_true rfl) dX1_add_63 rfl ?_
  refine q_callSv (As := [.ref (G.2.1 + 288), .int (((f_X9_setNumberAt ((f_X9_setNumberAt ((f_X9_setNumberAt σ 285 10 (σ 284 0) a1)) 286 10 (((f_X9_setNumberAt σ 285 10 (σ 284 0) a1)) 284 0) ((f_X9_numberAt ((f_X9_setNumberAt σ 285 10 (σ 284 0) a1)) 289 3 0)))) 287 10 (((f_X9_setNumberAt ((f_X9_setNumberAt σ 285 10 (σ 284 0) a1)) 286 10 (((f_X9_setNumberAt σ 285 10 (σ 284 0) a1)) 284 0) ((f_X9_numberAt ((f_X9_setNumberAt σ 285 10 (σ 284 0) a1)) 289 3 0)))) 284 0) ((f_X9_numberAt ((f_X9_setNumberAt ((f_X9_setNumberAt σ 285 10 (σ 284 0) a1)) 286 10 (((f_X9_setNumberAt σ 285 10 (σ 284 0) a1)) 284 0) ((f_X9_numberAt ((f_X9_setNumberAt σ 285 10 (σ 284 0) a1)) 289 3 0)))) 289 3 1)))) 284 0), .int ((f_X9_numberAt ((f_X9_setNumberAt ((f_X9_setNumberAt ((f_X9_setNumberAt σ 285 10 (σ 284 0) a1)) 286 10 (((f_X9_setNumberAt σ 285 10 (σ 284 0) a1)) 284 0) ((f_X9_numberAt ((f_X9_setNumberAt σ 285 10 (σ 284 0) a1)) 289 3 0)))) 287 10 (((f_X9_setNumberAt ((f_X9_setNumberAt σ 285 10 (σ 284 0) a1)) 286 10 (((f_X9_setNumberAt σ 285 10 (σ 284 0) a1)) 284 0) ((f_X9_numberAt ((f_X9_setNumberAt σ 285 10 (σ 284 0) a1)) 289 3 0)))) 284 0) ((f_X9_numberAt ((f_X9_setNumberAt ((f_X9_setNumberAt σ 285 10 (σ 284 0) a1)) 286 10 (((f_X9_setNumberAt σ 285 10 (σ 284 0) a1)) 284 0) ((f_X9_numberAt ((f_X9_setNumberAt σ 285 10 (σ 284 0) a1)) 289 3 0)))) 289 3 1)))) 289 3 2))]) (rest := []) hx q_kR0 (c_X9_setNumberAt (q_Xl X) G x ((f_X9_setNumberAt ((f_X9_setNumberAt ((f_X9_setNumberAt σ 285 10 (σ 284 0) a1)) 286 10 (((f_X9_setNumberAt σ 285 10 (σ 284 0) a1)) 284 0) ((f_X9_numberAt ((f_X9_setNumberAt σ 285 10 (σ 284 0) a1)) 289 3 0)))) 287 10 (((f_X9_setNumberAt ((f_X9_setNumberAt σ 285 10 (σ 284 0) a1)) 286 10 (((f_X9_setNumberAt σ 285 10 (σ 284 0) a1)) 284 0) ((f_X9_numberAt ((f_X9_setNumberAt σ 285 10 (σ 284 0) a1)) 289 3 0)))) 284 0) ((f_X9_numberAt ((f_X9_setNumberAt ((f_X9_setNumberAt σ 285 10 (σ 284 0) a1)) 286 10 (((f_X9_setNumberAt σ 285 10 (σ 284 0) a1)) 284 0) ((f_X9_numberAt ((f_X9_setNumberAt σ 285 10 (σ 284 0) a1)) 289 3 0)))) 289 3 1)))) 288 10 (((f_X9_setNumberAt ((f_X9_setNumberAt ((f_X9_setNumberAt σ 285 10 (σ 284 0) a1)) 286 10 (((f_X9_setNumberAt σ 285 10 (σ 284 0) a1)) 284 0) ((f_X9_numberAt ((f_X9_setNumberAt σ 285 10 (σ 284 0) a1)) 289 3 0)))) 287 10 (((f_X9_setNumberAt ((f_X9_setNumberAt σ 285 10 (σ 284 0) a1)) 286 10 (((f_X9_setNumberAt σ 285 10 (σ 284 0) a1)) 284 0) ((f_X9_numberAt ((f_X9_setNumberAt σ 285 10 (σ 284 0) a1)) 289 3 0)))) 284 0) ((f_X9_numberAt ((f_X9_setNumberAt ((f_X9_setNumberAt σ 285 10 (σ 284 0) a1)) 286 10 (((f_X9_setNumberAt σ 285 10 (σ 284 0) a1)) 284 0) ((f_X9_numberAt ((f_X9_setNumberAt σ 285 10 (σ 284 0) a1)) 289 3 0)))) 289 3 1)))) 284 0) ((f_X9_numberAt ((f_X9_setNumberAt ((f_X9_setNumberAt ((f_X9_setNumberAt σ 285 10 (σ 284 0) a1)) 286 10 (((f_X9_setNumberAt σ 285 10 (σ 284 0) a1)) 284 0) ((f_X9_numberAt ((f_X9_setNumberAt σ 285 10 (σ 284 0) a1)) 289 3 0)))) 287 10 (((f_X9_setNumberAt ((f_X9_setNumberAt σ 285 10 (σ 284 0) a1)) 286 10 (((f_X9_setNumberAt σ 285 10 (σ 284 0) a1)) 284 0) ((f_X9_numberAt ((f_X9_setNumberAt σ 285 10 (σ 284 0) a1)) 289 3 0)))) 284 0) ((f_X9_numberAt ((f_X9_setNumberAt ((f_X9_setNumberAt σ 285 10 (σ 284 0) a1)) 286 10 (((f_X9_setNumberAt σ 285 10 (σ 284 0) a1)) 284 0) ((f_X9_numberAt ((f_X9_setNumberAt σ 285 10 (σ 284 0) a1)) 289 3 0)))) 289 3 1)))) 289 3 2)) kd_288) q_ml_X1_56 q_mn_X9_setNumberAt q_ms_X9_setNumberAt (by decide) rfl (Nat.le_of_ble_eq_true rfl) dX1_add_66 rfl ?_
  refine q_aload_n hx dX1_add_69 0 rfl ?_
  refine q_dup hx dX1_add_70 rfl ?_
  refine q_get (v := .int (((f_X9_setNumberAt ((f_X9_setNumberAt ((f_X9_setNumberAt ((f_X9_setNumberAt σ 285 10 (σ 284 0) a1)) 286 10 (((f_X9_setNumberAt σ 285 10 (σ 284 0) a1)) 284 0) ((f_X9_numberAt ((f_X9_setNumberAt σ 285 10 (σ 284 0) a1)) 289 3 0)))) 287 10 (((f_X9_setNumberAt ((f_X9_setNumberAt σ 285 10 (σ 284 0) a1)) 286 10 (((f_X9_setNumberAt σ 285 10 (σ 284 0) a1)) 284 0) ((f_X9_numberAt ((f_X9_setNumberAt σ 285 10 (σ 284 0) a1)) 289 3 0)))) 284 0) ((f_X9_numberAt ((f_X9_setNumberAt ((f_X9_setNumberAt σ 285 10 (σ 284 0) a1)) 286 10 (((f_X9_setNumberAt σ 285 10 (σ 284 0) a1)) 284 0) ((f_X9_numberAt ((f_X9_setNumberAt σ 285 10 (σ 284 0) a1)) 289 3 0)))) 289 3 1)))) 288 10 (((f_X9_setNumberAt ((f_X9_setNumberAt ((f_X9_setNumberAt σ 285 10 (σ 284 0) a1)) 286 10 (((f_X9_setNumberAt σ 285 10 (σ 284 0) a1)) 284 0) ((f_X9_numberAt ((f_X9_setNumberAt σ 285 10 (σ 284 0) a1)) 289 3 0)))) 287 10 (((f_X9_setNumberAt ((f_X9_setNumberAt σ 285 10 (σ 284 0) a1)) 286 10 (((f_X9_setNumberAt σ 285 10 (σ 284 0) a1)) 284 0) ((f_X9_numberAt ((f_X9_setNumberAt σ 285 10 (σ 284 0) a1)) 289 3 0)))) 284 0) ((f_X9_numberAt ((f_X9_setNumberAt ((f_X9_setNumberAt σ 285 10 (σ 284 0) a1)) 286 10 (((f_X9_setNumberAt σ 285 10 (σ 284 0) a1)) 284 0) ((f_X9_numberAt ((f_X9_setNumberAt σ 285 10 (σ 284 0) a1)) 289 3 0)))) 289 3 1)))) 284 0) ((f_X9_numberAt ((f_X9_setNumberAt ((f_X9_setNumberAt ((f_X9_setNumberAt σ 285 10 (σ 284 0) a1)) 286 10 (((f_X9_setNumberAt σ 285 10 (σ 284 0) a1)) 284 0) ((f_X9_numberAt ((f_X9_setNumberAt σ 285 10 (σ 284 0) a1)) 289 3 0)))) 287 10 (((f_X9_setNumberAt ((f_X9_setNumberAt σ 285 10 (σ 284 0) a1)) 286 10 (((f_X9_setNumberAt σ 285 10 (σ 284 0) a1)) 284 0) ((f_X9_numberAt ((f_X9_setNumberAt σ 285 10 (σ 284 0) a1)) 289 3 0)))) 284 0) ((f_X9_numberAt ((f_X9_setNumberAt ((f_X9_setNumberAt σ 285 10 (σ 284 0) a1)) 286 10 (((f_X9_setNumberAt σ 285 10 (σ 284 0) a1)) 284 0) ((f_X9_numberAt ((f_X9_setNumberAt σ 285 10 (σ 284 0) a1)) 289 3 0)))) 289 3 1)))) 289 3 2)))) 284 0)) hx q_fl_X1_9 dX1_add_71 (q_ne kd_284 (by decide)) (q_e1 kd_284) rfl ?_
  refine q_iconst (v := 1) hx dX1_add_74 (by decide) ?_
  refine q_iadd hx dX1_add_75 ?_
  refine q_put (v := (((f_X9_setNumberAt ((f_X9_setNumberAt ((f_X9_setNumberAt ((f_X9_setNumberAt σ 285 10 (σ 284 0) a1)) 286 10 (((f_X9_setNumberAt σ 285 10 (σ 284 0) a1)) 284 0) ((f_X9_numberAt ((f_X9_setNumberAt σ 285 10 (σ 284 0) a1)) 289 3 0)))) 287 10 (((f_X9_setNumberAt ((f_X9_setNumberAt σ 285 10 (σ 284 0) a1)) 286 10 (((f_X9_setNumberAt σ 285 10 (σ 284 0) a1)) 284 0) ((f_X9_numberAt ((f_X9_setNumberAt σ 285 10 (σ 284 0) a1)) 289 3 0)))) 284 0) ((f_X9_numberAt ((f_X9_setNumberAt ((f_X9_setNumberAt σ 285 10 (σ 284 0) a1)) 286 10 (((f_X9_setNumberAt σ 285 10 (σ 284 0) a1)) 284 0) ((f_X9_numberAt ((f_X9_setNumberAt σ 285 10 (σ 284 0) a1)) 289 3 0)))) 289 3 1)))) 288 10 (((f_X9_setNumberAt ((f_X9_setNumberAt ((f_X9_setNumberAt σ 285 10 (σ 284 0) a1)) 286 10 (((f_X9_setNumberAt σ 285 10 (σ 284 0) a1)) 284 0) ((f_X9_numberAt ((f_X9_setNumberAt σ 285 10 (σ 284 0) a1)) 289 3 0)))) 287 10 (((f_X9_setNumberAt ((f_X9_setNumberAt σ 285 10 (σ 284 0) a1)) 286 10 (((f_X9_setNumberAt σ 285 10 (σ 284 0) a1)) 284 0) ((f_X9_numberAt ((f_X9_setNumberAt σ 285 10 (σ 284 0) a1)) 289 3 0)))) 284 0) ((f_X9_numberAt ((f_X9_setNumberAt ((f_X9_setNumberAt σ 285 10 (σ 284 0) a1)) 286 10 (((f_X9_setNumberAt σ 285 10 (σ 284 0) a1)) 284 0) ((f_X9_numberAt ((f_X9_setNumberAt σ 285 10 (σ 284 0) a1)) 289 3 0)))) 289 3 1)))) 284 0) ((f_X9_numberAt ((f_X9_setNumberAt ((f_X9_setNumberAt ((f_X9_setNumberAt σ 285 10 (σ 284 0) a1)) 286 10 (((f_X9_setNumberAt σ 285 10 (σ 284 0) a1)) 284 0) ((f_X9_numberAt ((f_X9_setNumberAt σ 285 10 (σ 284 0) a1)) 289 3 0)))) 287 10 (((f_X9_setNumberAt ((f_X9_setNumberAt σ 285 10 (σ 284 0) a1)) 286 10 (((f_X9_setNumberAt σ 285 10 (σ 284 0) a1)) 284 0) ((f_X9_numberAt ((f_X9_setNumberAt σ 285 10 (σ 284 0) a1)) 289 3 0)))) 284 0) ((f_X9_numberAt ((f_X9_setNumberAt ((f_X9_setNumberAt σ 285 10 (σ 284 0) a1)) 286 10 (((f_X9_setNumberAt σ 285 10 (σ 284 0) a1)) 284 0) ((f_X9_numberAt ((f_X9_setNumberAt σ 285 10 (σ 284 0) a1)) 289 3 0)))) 289 3 1)))) 289 3 2)))) 284 0) + 1) hx q_fl_X1_9 q_fp_1_0 dX1_add_76 (q_ne kd_284 (by decide)) (q_e1 kd_284) (by rw [q_l1]; decide) rfl rfl (by rw [q_e1 kd_284, q_s1_0]) ?_
  subst h
  exact q_vret hx hr dX1_add_79
theorem c_X1_add (l : Launch) (G : q_G) (x : q_A) (σ : q_S) (a1 : Int32)  : q_Met l yX1_add cX1_add 2 (none) 2 G [.ref (G.2.1 + 284), .int a1] σ x (q_Qv G x (f_X1_add σ a1)) := ca_X1_add l G x σ a1 rfl
-- X4_clear
def f_X4_clear (σ : q_S) : q_S :=
  q_up σ 290 1 0
set_option maxHeartbeats 4000000 in
set_option maxRecDepth 100000 in
theorem ca_X4_clear (l : Launch) (G : q_G) (x : q_A) (σ : q_S)   {res : q_S} (h : f_X4_clear σ = res) : q_Met l yX4_clear cX4_clear 1 (none) 1 G [.ref (G.2.1 + 290)] σ x (q_Qv G x res) := by
  refine q_of (by decide) (Nat.le_of_ble_eq_true rfl) (fun X hl0 hx hr => ?_)
  subst hl0
  have hx : q_Cx X G RX4 cX4_clear 1 1 := hx
  unfold f_X4_clear at h
  show q_Wq X G x 1 (q_MQ X G (q_Qv G x res)) 0 0 0 [(0, .ref (G.2.1 + 290))] [] σ
  refine q_aload_n hx dX4_clear_0 0 rfl ?_
  refine q_iconst (v := 0) hx dX4_clear_1 (by decide) ?_
  refine q_put (v := 0) hx q_fl_X4_15 q_fp_4_1 dX4_clear_2 (q_ne kd_290 (by decide)) (q_e4 kd_290) (by rw [q_l4]; decide) rfl rfl (by rw [q_e4 kd_290, q_s4_1]) ?_
  subst h
  exact q_vret hx hr dX4_clear_5
theorem c_X4_clear (l : Launch) (G : q_G) (x : q_A) (σ : q_S)   : q_Met l yX4_clear cX4_clear 1 (none) 1 G [.ref (G.2.1 + 290)] σ x (q_Qv G x (f_X4_clear σ)) := ca_X4_clear l G x σ  rfl
-- X4_put
def f_X4_put (σ : q_S) (a1 : Int32) : Option (q_S) :=
  if (σ 290 1) < 0 then (some σ) else (if 39 ≤ (σ 290 1) then (some σ) else (if ((σ 290 1) < 0 ∨ 39 ≤ (σ 290 1).toNatClampNeg) then none else some (q_up (q_up σ 291 (σ 290 1).toNatClampNeg (vp_nar .char a1)) 290 1 (((q_up σ 291 (σ 290 1).toNatClampNeg (vp_nar .char a1)) 290 1) + 1))))
set_option maxHeartbeats 4000000 in
set_option maxRecDepth 100000 in
theorem c_X4_put (l : Launch) (G : q_G) (x : q_A) (σ : q_S) (a1 : Int32)  {res : q_S} (h : f_X4_put σ a1 = some res) : q_Met l yX4_put cX4_put 2 (none) 1 G [.ref (G.2.1 + 290), .int a1] σ x (q_Qv G x res) := by
  refine q_of (by decide) (Nat.le_of_ble_eq_true rfl) (fun X hl0 hx hr => ?_)
  subst hl0
  have hx : q_Cx X G RX4 cX4_put 2 1 := hx
  unfold f_X4_put at h
  show q_Wq X G x 2 (q_MQ X G (q_Qv G x res)) 0 0 0 [(0, .ref (G.2.1 + 290)), (1, .int a1)] [] σ
  refine q_aload_n hx dX4_put_0 0 rfl ?_
  refine q_get (v := .int (σ 290 1)) hx q_fl_X4_15 dX4_put_1 (q_ne kd_290 (by decide)) (q_e4 kd_290) rfl ?_
  refine q_if_lt hx 39 dX4_put_4 (by decide) (fun hc1 => ?_) (fun hc1 => ?_)
  · replace h := (if_pos hc1).symm.trans h
    cases h
    exact q_vret hx hr dX4_put_39
  · replace h := (if_neg hc1).symm.trans h
    refine q_aload_n hx dX4_put_7 0 rfl ?_
    refine q_get (v := .int (σ 290 1)) hx q_fl_X4_15 dX4_put_8 (q_ne kd_290 (by decide)) (q_e4 kd_290) rfl ?_
    refine q_aload_n hx dX4_put_11 0 rfl ?_
    refine q_get (v := .ref (G.2.1 + 291)) hx q_fl_X4_9 dX4_put_12 (q_ne kd_290 (by decide)) (q_e4 kd_290) rfl ?_
    refine q_alen1 (N := 39) (v := 39) hx dX4_put_15 kd_291 (by decide) (by decide) ?_
    refine q_icmp_ge hx 39 dX4_put_16 (by decide) (fun hc2 => ?_) (fun hc2 => ?_)
    · replace h := (if_pos hc2).symm.trans h
      cases h
      exact q_vret hx hr dX4_put_39
    · replace h := (if_neg hc2).symm.trans h
      refine q_aload_n hx dX4_put_19 0 rfl ?_
      refine q_get (v := .ref (G.2.1 + 291)) hx q_fl_X4_9 dX4_put_20 (q_ne kd_290 (by decide)) (q_e4 kd_290) rfl ?_
      refine q_aload_n hx dX4_put_23 0 rfl ?_
      refine q_get (v := .int (σ 290 1)) hx q_fl_X4_15 dX4_put_24 (q_ne kd_290 (by decide)) (q_e4 kd_290) rfl ?_
      refine q_iload_n hx dX4_put_27 1 rfl ?_
      by_cases hg3 : ((σ 290 1) < 0 ∨ 39 ≤ (σ 290 1).toNatClampNeg)
      · rw [if_pos hg3] at h; exact nomatch h
      replace h := (if_neg hg3).symm.trans h
      refine q_cast (N := 39) hx dX4_put_28 kd_291 (by first | decide | assumption) hg3 ?_
      refine q_aload_n hx dX4_put_29 0 rfl ?_
      refine q_dup hx dX4_put_30 rfl ?_
      refine q_get (v := .int ((q_up σ 291 (σ 290 1).toNatClampNeg (vp_nar .char a1)) 290 1)) hx q_fl_X4_15 dX4_put_31 (q_ne kd_290 (by decide)) (q_e4 kd_290) rfl ?_
      refine q_iconst (v := 1) hx dX4_put_34 (by decide) ?_
      refine q_iadd hx dX4_put_35 ?_
      refine q_put (v := ((q_up σ 291 (σ 290 1).toNatClampNeg (vp_nar .char a1)) 290 1) + 1) hx q_fl_X4_15 q_fp_4_1 dX4_put_36 (q_ne kd_290 (by decide)) (q_e4 kd_290) (by rw [q_l4]; decide) rfl rfl (by rw [q_e4 kd_290, q_s4_1]) ?_
      cases h
      exact q_vret hx hr dX4_put_39
-- X4_putNumber
def f_X4_putNumber_18 (v1 : Int32) (σ : q_S) : Option (q_S) :=
  Option.bind (f_X4_put σ (((48 + (v1 - v1 / 10 * 10)).toUInt32 % 65536).toInt32)) (fun q2 => some q2)
set_option maxHeartbeats 4000000 in
set_option maxRecDepth 100000 in
theorem s_X4_putNumber_18 {X : q_X} {G : q_G} {x : q_A} (hx : q_Cx X G RX4 cX4_putNumber 2 2) (hr : (q_Xm X).sig.returnType = none) {res : q_S} : ∀ (v1 : Int32) (σ : q_S), f_X4_putNumber_18 v1 σ = some res → q_Wq X G x 2 (q_MQ X G (q_Qv G x res)) 0 0 18 [(0, .ref (G.2.1 + 290)), (1, .int v1)] [] σ := by
  intro v1 σ h
  unfold f_X4_putNumber_18 at h
  refine q_aload_n hx dX4_putNumber_18 0 rfl ?_
  refine q_bipush (v := 48) hx dX4_putNumber_19 (by decide) ?_
  refine q_iload_n hx dX4_putNumber_21 1 rfl ?_
  refine q_bipush (v := 10) hx dX4_putNumber_22 (by decide) ?_
  refine q_irem hx dX4_putNumber_24 (by decide) ?_
  refine q_iadd hx dX4_putNumber_25 ?_
  refine q_i2c hx dX4_putNumber_26 ?_
  refine q_bindE h (fun q2 hq2 h => ?_)
  refine q_callVv (As := [.int (((48 + (v1 - v1 / 10 * 10)).toUInt32 % 65536).toInt32)]) (rest := []) hx q_kR0 (c_X4_put (q_Xl X) G x σ (((48 + (v1 - v1 / 10 * 10)).toUInt32 % 65536).toInt32) hq2) q_ml_X4_19 q_mn_X4_put q_mi_X4_put q_se_X4_put (by decide) rfl (Nat.le_of_ble_eq_true rfl) dX4_putNumber_27 (q_ne kd_290 (by decide)) (q_e4 kd_290) rfl rfl rfl ?_
  cases h
  exact q_vret hx hr dX4_putNumber_30
def f_X4_putNumber (σ : q_S) (a1 : Int32) : Option (q_S) :=
  if a1 < 10 then (f_X4_putNumber_18 a1 σ) else (Option.bind (f_X4_put σ (((48 + (a1 / 10)).toUInt32 % 65536).toInt32)) (fun q3 => f_X4_putNumber_18 a1 q3))
set_option maxHeartbeats 4000000 in
set_option maxRecDepth 100000 in
theorem c_X4_putNumber (l : Launch) (G : q_G) (x : q_A) (σ : q_S) (a1 : Int32)  {res : q_S} (h : f_X4_putNumber σ a1 = some res) : q_Met l yX4_putNumber cX4_putNumber 2 (none) 2 G [.ref (G.2.1 + 290), .int a1] σ x (q_Qv G x res) := by
  refine q_of (by decide) (Nat.le_of_ble_eq_true rfl) (fun X hl0 hx hr => ?_)
  subst hl0
  have hx : q_Cx X G RX4 cX4_putNumber 2 2 := hx
  unfold f_X4_putNumber at h
  show q_Wq X G x 2 (q_MQ X G (q_Qv G x res)) 0 0 0 [(0, .ref (G.2.1 + 290)), (1, .int a1)] [] σ
  refine q_iload_n hx dX4_putNumber_0 1 rfl ?_
  refine q_bipush (v := 10) hx dX4_putNumber_1 (by decide) ?_
  refine q_icmp_lt hx 18 dX4_putNumber_3 (by decide) (fun hc1 => ?_) (fun hc1 => ?_)
  · replace h := (if_pos hc1).symm.trans h
    refine q_sub [0, 1] rfl ?_
    exact s_X4_putNumber_18 hx hr a1 σ h
  · replace h := (if_neg hc1).symm.trans h
    refine q_aload_n hx dX4_putNumber_6 0 rfl ?_
    refine q_bipush (v := 48) hx dX4_putNumber_7 (by decide) ?_
    refine q_iload_n hx dX4_putNumber_9 1 rfl ?_
    refine q_bipush (v := 10) hx dX4_putNumber_10 (by decide) ?_
    refine q_idiv hx dX4_putNumber_12 (by decide) ?_
    refine q_iadd hx dX4_putNumber_13 ?_
    refine q_i2c hx dX4_putNumber_14 ?_
    refine q_bindE h (fun q3 hq3 h => ?_)
    refine q_callVv (As := [.int (((48 + (a1 / 10)).toUInt32 % 65536).toInt32)]) (rest := []) hx q_kR0 (c_X4_put (q_Xl X) G x σ (((48 + (a1 / 10)).toUInt32 % 65536).toInt32) hq3) q_ml_X4_19 q_mn_X4_put q_mi_X4_put q_se_X4_put (by decide) rfl (Nat.le_of_ble_eq_true rfl) dX4_putNumber_15 (q_ne kd_290 (by decide)) (q_e4 kd_290) rfl rfl rfl ?_
    refine q_sub [0, 1] rfl ?_
    exact s_X4_putNumber_18 hx hr a1 q3 h
-- X4_putPlot
def f_X4_putPlot_36 (z1 : Nat) : Nat → Int32 → q_S → Option (q_S)
  | 0, _, _ => none
  | n + 1, v2, σ =>
    if (σ z1 6) ≤ v2 then (if (σ z1 1) = 0 then (some σ) else (Option.bind (f_X4_put σ 33) (fun q8 => some q8))) else (Option.bind (f_X4_put σ ((f_X9_letterFor ((f_X6_directionOf σ z1 v2))))) (fun q9 => Option.bind (f_X4_putNumber q9 ((f_X6_lengthOf q9 z1 v2))) (fun q10 => f_X4_putPlot_36 z1 n (v2 + 1) q10)))
set_option maxHeartbeats 4000000 in
set_option maxRecDepth 100000 in
theorem s_X4_putPlot_36 {X : q_X} {G : q_G} {x : q_A} (z1 : Nat) (hx : q_Cx X G RX4 cX4_putPlot 3 3) (hr : (q_Xm X).sig.returnType = none) (hz1 : q_isPlot z1) {res : q_S} : ∀ (n : Nat) (v2 : Int32) (σ : q_S), f_X4_putPlot_36 z1 n v2 σ = some res → q_Wq X G x 3 (q_MQ X G (q_Qv G x res)) 0 0 36 [(0, .ref (G.2.1 + 290)), (1, .ref (G.2.1 + z1)), (2, .int v2)] [] σ := by
  intro n
  induction n with
  | zero => exact fun _ _ h => nomatch (show (none : Option (q_S)) = some res from h)
  | succ n ih =>
    intro v2 σ h
    rw [f_X4_putPlot_36] at h
    refine q_iload_n hx dX4_putPlot_36 2 rfl ?_
    refine q_aload_n hx dX4_putPlot_37 1 rfl ?_
    refine q_get (v := .int (σ z1 6)) hx q_fl_X4_35 dX4_putPlot_38 (q_ne hz1.1 (by decide)) (q_e6 hz1.1) rfl ?_
    refine q_icmp_ge hx 71 dX4_putPlot_41 (by decide) (fun hc6 => ?_) (fun hc6 => ?_)
    · replace h := (if_pos hc6).symm.trans h
      refine q_aload_n hx dX4_putPlot_71 1 rfl ?_
      refine q_get (v := .int (σ z1 1)) hx q_fl_X4_49 dX4_putPlot_72 (q_ne hz1.1 (by decide)) (q_e6 hz1.1) rfl ?_
      refine q_if_eq hx 84 dX4_putPlot_75 (by decide) (fun hc7 => ?_) (fun hc7 => ?_)
      · replace h := (if_pos hc7).symm.trans h
        cases h
        exact q_vret hx hr dX4_putPlot_84
      · replace h := (if_neg hc7).symm.trans h
        refine q_aload_n hx dX4_putPlot_78 0 rfl ?_
        refine q_bipush (v := 33) hx dX4_putPlot_79 (by decide) ?_
        refine q_bindE h (fun q8 hq8 h => ?_)
        refine q_callVv (As := [.int 33]) (rest := []) hx q_kR0 (c_X4_put (q_Xl X) G x σ 33 hq8) q_ml_X4_19 q_mn_X4_put q_mi_X4_put q_se_X4_put (by decide) rfl (Nat.le_of_ble_eq_true rfl) dX4_putPlot_81 (q_ne kd_290 (by decide)) (q_e4 kd_290) rfl rfl rfl ?_
        cases h
        exact q_vret hx hr dX4_putPlot_84
    · replace h := (if_neg hc6).symm.trans h
      refine q_aload_n hx dX4_putPlot_44 0 rfl ?_
      refine q_aload_n hx dX4_putPlot_45 1 rfl ?_
      refine q_iload_n hx dX4_putPlot_46 2 rfl ?_
      refine q_callVi (As := [.int v2]) (rest := [.ref (G.2.1 + 290)]) hx q_kR0 (c_X6_directionOf (q_Xl X) G x σ z1 v2 hz1) q_ml_X4_38 q_mn_X6_directionOf q_mi_X6_directionOf q_se_X6_directionOf (by decide) rfl (Nat.le_of_ble_eq_true rfl) dX4_putPlot_47 (q_ne hz1.1 (by decide)) (q_e6 hz1.1) rfl rfl rfl ?_
      refine q_callSi (As := [.int ((f_X6_directionOf σ z1 v2))]) (rest := [.ref (G.2.1 + 290)]) hx q_kR0 (c_X9_letterFor (q_Xl X) G x σ ((f_X6_directionOf σ z1 v2))) q_ml_X4_42 q_mn_X9_letterFor q_ms_X9_letterFor (by decide) rfl (Nat.le_of_ble_eq_true rfl) dX4_putPlot_50 rfl ?_
      refine q_bindE h (fun q9 hq9 h => ?_)
      refine q_callVv (As := [.int ((f_X9_letterFor ((f_X6_directionOf σ z1 v2))))]) (rest := []) hx q_kR0 (c_X4_put (q_Xl X) G x σ ((f_X9_letterFor ((f_X6_directionOf σ z1 v2)))) hq9) q_ml_X4_19 q_mn_X4_put q_mi_X4_put q_se_X4_put (by decide) rfl (Nat.le_of_ble_eq_true rfl) dX4_putPlot_53 (q_ne kd_290 (by decide)) (q_e4 kd_290) rfl rfl rfl ?_
      refine q_aload_n hx dX4_putPlot_56 0 rfl ?_
      refine q_aload_n hx dX4_putPlot_57 1 rfl ?_
      refine q_iload_n hx dX4_putPlot_58 2 rfl ?_
      refine q_callVi (As := [.int v2]) (rest := [.ref (G.2.1 + 290)]) hx q_kR0 (c_X6_lengthOf (q_Xl X) G x q9 z1 v2 hz1) q_ml_X4_46 q_mn_X6_lengthOf q_mi_X6_lengthOf q_se_X6_lengthOf (by decide) rfl (Nat.le_of_ble_eq_true rfl) dX4_putPlot_59 (q_ne hz1.1 (by decide)) (q_e6 hz1.1) rfl rfl rfl ?_
      refine q_bindE h (fun q10 hq10 h => ?_)
      refine q_callVv (As := [.int ((f_X6_lengthOf q9 z1 v2))]) (rest := []) hx q_kR0 (c_X4_putNumber (q_Xl X) G x q9 ((f_X6_lengthOf q9 z1 v2)) hq10) q_ml_X4_28 q_mn_X4_putNumber q_mi_X4_putNumber q_se_X4_putNumber (by decide) rfl (Nat.le_of_ble_eq_true rfl) dX4_putPlot_62 (q_ne kd_290 (by decide)) (q_e4 kd_290) rfl rfl rfl ?_
      refine q_iinc hx [(2, .int (v2 + 1)), (0, .ref (G.2.1 + 290)), (1, .ref (G.2.1 + z1))] dX4_putPlot_65 2 rfl rfl (by decide) rfl ?_
      refine q_goto hx 36 dX4_putPlot_68 (by decide) ?_
      refine q_sub [1, 2, 0] rfl ?_
      exact ih (v2 + 1) q10 h
def f_X4_putPlot (σ : q_S) (z1 : Nat) : Option (q_S) :=
  Option.bind (f_X4_put σ 40) (fun q1 => Option.bind (f_X4_putNumber q1 (q1 z1 2)) (fun q2 => Option.bind (f_X4_put q2 44) (fun q3 => Option.bind (f_X4_putNumber q3 (q3 z1 3)) (fun q4 => Option.bind (f_X4_put q4 41) (fun q5 => f_X4_putPlot_36 z1 q_fu 0 q5)))))
set_option maxHeartbeats 4000000 in
set_option maxRecDepth 100000 in
theorem c_X4_putPlot (l : Launch) (G : q_G) (x : q_A) (σ : q_S) (z1 : Nat) (hz1 : q_isPlot z1) {res : q_S} (h : f_X4_putPlot σ z1 = some res) : q_Met l yX4_putPlot cX4_putPlot 3 (none) 3 G [.ref (G.2.1 + 290), .ref (G.2.1 + z1)] σ x (q_Qv G x res) := by
  refine q_of (by decide) (Nat.le_of_ble_eq_true rfl) (fun X hl0 hx hr => ?_)
  subst hl0
  have hx : q_Cx X G RX4 cX4_putPlot 3 3 := hx
  unfold f_X4_putPlot at h
  show q_Wq X G x 3 (q_MQ X G (q_Qv G x res)) 0 0 0 [(0, .ref (G.2.1 + 290)), (1, .ref (G.2.1 + z1))] [] σ
  refine q_aload_n hx dX4_putPlot_0 0 rfl ?_
  refine q_bipush (v := 40) hx dX4_putPlot_1 (by decide) ?_
  refine q_bindE h (fun q1 hq1 h => ?_)
  refine q_callVv (As := [.int 40]) (rest := []) hx q_kR0 (c_X4_put (q_Xl X) G x σ 40 hq1) q_ml_X4_19 q_mn_X4_put q_mi_X4_put q_se_X4_put (by decide) rfl (Nat.le_of_ble_eq_true rfl) dX4_putPlot_3 (q_ne kd_290 (by decide)) (q_e4 kd_290) rfl rfl rfl ?_
  refine q_aload_n hx dX4_putPlot_6 0 rfl ?_
  refine q_aload_n hx dX4_putPlot_7 1 rfl ?_
  refine q_get (v := .int (q1 z1 2)) hx q_fl_X4_23 dX4_putPlot_8 (q_ne hz1.1 (by decide)) (q_e6 hz1.1) rfl ?_
  refine q_bindE h (fun q2 hq2 h => ?_)
  refine q_callVv (As := [.int (q1 z1 2)]) (rest := []) hx q_kR0 (c_X4_putNumber (q_Xl X) G x q1 (q1 z1 2) hq2) q_ml_X4_28 q_mn_X4_putNumber q_mi_X4_putNumber q_se_X4_putNumber (by decide) rfl (Nat.le_of_ble_eq_true rfl) dX4_putPlot_11 (q_ne kd_290 (by decide)) (q_e4 kd_290) rfl rfl rfl ?_
  refine q_aload_n hx dX4_putPlot_14 0 rfl ?_
  refine q_bipush (v := 44) hx dX4_putPlot_15 (by decide) ?_
  refine q_bindE h (fun q3 hq3 h => ?_)
  refine q_callVv (As := [.int 44]) (rest := []) hx q_kR0 (c_X4_put (q_Xl X) G x q2 44 hq3) q_ml_X4_19 q_mn_X4_put q_mi_X4_put q_se_X4_put (by decide) rfl (Nat.le_of_ble_eq_true rfl) dX4_putPlot_17 (q_ne kd_290 (by decide)) (q_e4 kd_290) rfl rfl rfl ?_
  refine q_aload_n hx dX4_putPlot_20 0 rfl ?_
  refine q_aload_n hx dX4_putPlot_21 1 rfl ?_
  refine q_get (v := .int (q3 z1 3)) hx q_fl_X4_32 dX4_putPlot_22 (q_ne hz1.1 (by decide)) (q_e6 hz1.1) rfl ?_
  refine q_bindE h (fun q4 hq4 h => ?_)
  refine q_callVv (As := [.int (q3 z1 3)]) (rest := []) hx q_kR0 (c_X4_putNumber (q_Xl X) G x q3 (q3 z1 3) hq4) q_ml_X4_28 q_mn_X4_putNumber q_mi_X4_putNumber q_se_X4_putNumber (by decide) rfl (Nat.le_of_ble_eq_true rfl) dX4_putPlot_25 (q_ne kd_290 (by decide)) (q_e4 kd_290) rfl rfl rfl ?_
  refine q_aload_n hx dX4_putPlot_28 0 rfl ?_
  refine q_bipush (v := 41) hx dX4_putPlot_29 (by decide) ?_
  refine q_bindE h (fun q5 hq5 h => ?_)
  refine q_callVv (As := [.int 41]) (rest := []) hx q_kR0 (c_X4_put (q_Xl X) G x q4 41 hq5) q_ml_X4_19 q_mn_X4_put q_mi_X4_put q_se_X4_put (by decide) rfl (Nat.le_of_ble_eq_true rfl) dX4_putPlot_31 (q_ne kd_290 (by decide)) (q_e4 kd_290) rfl rfl rfl ?_
  refine q_iconst (v := 0) hx dX4_putPlot_34 (by decide) ?_
  refine q_istore_n hx [(2, .int 0), (0, .ref (G.2.1 + 290)), (1, .ref (G.2.1 + z1))] dX4_putPlot_35 (by decide) rfl ?_
  refine q_sub [1, 2, 0] rfl ?_
  exact s_X4_putPlot_36 z1 hx hr hz1 q_fu 0 q5 h
