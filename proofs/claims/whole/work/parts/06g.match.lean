-- X1_formOf
def f_X1_formOf (a0 : Int32) : Nat :=
  if a0 = 0 then (0) else if a0 = 1 then (1) else if a0 = 2 then (2) else if a0 = 3 then (3) else if a0 = 4 then (4) else if a0 = 5 then (5) else if a0 = 6 then (6) else 7
set_option maxHeartbeats 4000000 in
set_option maxRecDepth 100000 in
theorem ca_X1_formOf (l : Launch) (G : q_G) (x : q_A) (σ : q_S) (a0 : Int32)  {res : Nat} (h : f_X1_formOf a0 = res) : q_Met l yX1_formOf cX1_formOf 1 (some (.object "java/lang/String")) 1 G [.int a0] σ x (q_Qs G x res σ) := by
  refine q_of (by decide) (Nat.le_of_ble_eq_true rfl) (fun X hl0 hx hr => ?_)
  subst hl0
  have hx : q_Cx X G RX1 cX1_formOf 1 1 := hx
  unfold f_X1_formOf at h
  show q_Wq X G x 1 (q_MQ X G (q_Qs G x res σ)) 0 0 0 [(0, .int a0)] [] σ
  refine q_iload_n hx dX1_formOf_0 0 rfl ?_
  by_cases hc1 : a0 = 0
  · replace h := (if_pos hc1).symm.trans h
    refine q_tin hx 44 dX1_formOf_1 (by rw [hc1] <;> decide) (by rw [hc1] <;> decide) (by rw [hc1] <;> rfl) (by decide) ?_
    refine q_ldcs (c := 0) (tx := "new #") hx rfl dX1_formOf_44 ?_
    subst h
    exact q_sret hx hr dX1_formOf_46
  replace h := (if_neg hc1).symm.trans h
  by_cases hc2 : a0 = 1
  · replace h := (if_pos hc2).symm.trans h
    refine q_tin hx 47 dX1_formOf_1 (by rw [hc2] <;> decide) (by rw [hc2] <;> decide) (by rw [hc2] <;> rfl) (by decide) ?_
    refine q_ldcs (c := 1) (tx := "peg % # #") hx rfl dX1_formOf_47 ?_
    subst h
    exact q_sret hx hr dX1_formOf_49
  replace h := (if_neg hc2).symm.trans h
  by_cases hc3 : a0 = 2
  · replace h := (if_pos hc3).symm.trans h
    refine q_tin hx 50 dX1_formOf_1 (by rw [hc3] <;> decide) (by rw [hc3] <;> decide) (by rw [hc3] <;> rfl) (by decide) ?_
    refine q_ldcs (c := 2) (tx := "plot # % #") hx rfl dX1_formOf_50 ?_
    subst h
    exact q_sret hx hr dX1_formOf_52
  replace h := (if_neg hc3).symm.trans h
  by_cases hc4 : a0 = 3
  · replace h := (if_pos hc4).symm.trans h
    refine q_tin hx 53 dX1_formOf_1 (by rw [hc4] <;> decide) (by rw [hc4] <;> decide) (by rw [hc4] <;> rfl) (by decide) ?_
    refine q_ldcs (c := 3) (tx := "lay #@#") hx rfl dX1_formOf_53 ?_
    subst h
    exact q_sret hx hr dX1_formOf_55
  replace h := (if_neg hc4).symm.trans h
  by_cases hc5 : a0 = 4
  · replace h := (if_pos hc5).symm.trans h
    refine q_tin hx 56 dX1_formOf_1 (by rw [hc5] <;> decide) (by rw [hc5] <;> decide) (by rw [hc5] <;> rfl) (by decide) ?_
    refine q_ldcs (c := 4) (tx := "bend # %~#") hx rfl dX1_formOf_56 ?_
    subst h
    exact q_sret hx hr dX1_formOf_58
  replace h := (if_neg hc5).symm.trans h
  by_cases hc6 : a0 = 5
  · replace h := (if_pos hc6).symm.trans h
    refine q_tin hx 59 dX1_formOf_1 (by rw [hc6] <;> decide) (by rw [hc6] <;> decide) (by rw [hc6] <;> rfl) (by decide) ?_
    refine q_ldcs (c := 5) (tx := "drop #") hx rfl dX1_formOf_59 ?_
    subst h
    exact q_sret hx hr dX1_formOf_61
  replace h := (if_neg hc6).symm.trans h
  by_cases hc7 : a0 = 6
  · replace h := (if_pos hc7).symm.trans h
    refine q_tin hx 62 dX1_formOf_1 (by rw [hc7] <;> decide) (by rw [hc7] <;> decide) (by rw [hc7] <;> rfl) (by decide) ?_
    refine q_ldcs (c := 6) (tx := "deep # #") hx rfl dX1_formOf_62 ?_
    subst h
    exact q_sret hx hr dX1_formOf_64
  replace h := (if_neg hc7).symm.trans h
  have hc1T := lv_neT (k := 0) (a := 0) hc1 (by decide)
  have hc2T := lv_neT (k := 1) (a := 1) hc2 (by decide)
  have hc3T := lv_neT (k := 2) (a := 2) hc3 (by decide)
  have hc4T := lv_neT (k := 3) (a := 3) hc4 (by decide)
  have hc5T := lv_neT (k := 4) (a := 4) hc5 (by decide)
  have hc6T := lv_neT (k := 5) (a := 5) hc6 (by decide)
  have hc7T := lv_neT (k := 6) (a := 6) hc7 (by decide)
  refine q_tout hx 65 dX1_formOf_1 (by omega) (by decide) ?_
  refine q_ldcs (c := 7) (tx := "dusk %") hx rfl dX1_formOf_65 ?_
  subst h
  exact q_sret hx hr dX1_formOf_67
theorem c_X1_formOf (l : Launch) (G : q_G) (x : q_A) (σ : q_S) (a0 : Int32)  : q_Met l yX1_formOf cX1_formOf 1 (some (.object "java/lang/String")) 1 G [.int a0] σ x (q_Qs G x (f_X1_formOf a0) σ) := ca_X1_formOf l G x σ a0 rfl
theorem q_form8 : ∀ i : Int32, f_X1_formOf i < 8 := by
  intro i
  unfold f_X1_formOf
  repeat' split
  all_goals decide
-- X1_match
def f_X1_match_118 (c1 : Nat) (k13 : Int32 → Int32 → Int32 → Int32 → Int32 → q_S → Option (Int32 × q_S)) (v3 : Int32) (v5 : Int32) (v6 : Int32) (v7 : Int32) (v8 : Int32) (v11 : Int32) (σ : q_S) : Option (Int32 × q_S) :=
  k13 v3 v5 (v6 + 1) v7 (v8 + 1) ((f_X9_setNumberAt σ 289 3 v6 (v11 * v7)))
set_option maxHeartbeats 4000000 in
set_option maxRecDepth 100000 in
theorem s_X1_match_118 {X : q_X} {G : q_G} {x : q_A} (c1 : Nat) (hx : q_Cx X G RX1 cX1_match 13 5) (hr : (q_Xm X).sig.returnType = some .int) (hst1 : c1 < 8) {res : Int32 × q_S} {k13 : Int32 → Int32 → Int32 → Int32 → Int32 → q_S → Option (Int32 × q_S)} (hk13 : ∀ (v3 : Int32) (v5 : Int32) (v6 : Int32) (v7 : Int32) (v8 : Int32) (σ : q_S), k13 v3 v5 v6 v7 v8 σ = some res → q_Wq X G x 13 (q_MQ X G (q_Qi G x res.1 res.2)) 0 0 13 [(0, .ref (G.2.1 + 284)), (1, .ref (G.2.2.2.1 c1)), (2, .ref (G.2.1 + 283)), (3, .int v3), (5, .int v5), (6, .int v6), (7, .int v7), (8, .int v8)] [] σ) : ∀ (v3 : Int32) (v5 : Int32) (v6 : Int32) (v7 : Int32) (v8 : Int32) (v11 : Int32) (σ : q_S), f_X1_match_118 c1 k13 v3 v5 v6 v7 v8 v11 σ = some res → q_Wq X G x 13 (q_MQ X G (q_Qi G x res.1 res.2)) 0 0 118 [(0, .ref (G.2.1 + 284)), (1, .ref (G.2.2.2.1 c1)), (2, .ref (G.2.1 + 283)), (3, .int v3), (5, .int v5), (6, .int v6), (7, .int v7), (8, .int v8), (11, .int v11)] [] σ := by
  intro v3 v5 v6 v7 v8 v11 σ h
  unfold f_X1_match_118 at h
  refine q_aload_n hx dX1_match_118 0 rfl ?_
  refine q_get (v := .ref (G.2.1 + 289)) hx q_fl_X1_28 dX1_match_119 (q_ne kd_284 (by decide)) (q_e1 kd_284) rfl ?_
  refine q_iload hx dX1_match_122 5 rfl ?_
  refine q_iload hx dX1_match_124 8 rfl ?_
  refine q_iload hx dX1_match_126 6 rfl ?_
  refine q_imul hx dX1_match_128 ?_
  refine q_callSv (As := [.ref (G.2.1 + 289), .int v6, .int (v11 * v7)]) (rest := []) hx q_kR0 (c_X9_setNumberAt (q_Xl X) G x σ 289 3 v6 (v11 * v7) kd_289) q_ml_X1_56 q_mn_X9_setNumberAt q_ms_X9_setNumberAt (by decide) rfl (Nat.le_of_ble_eq_true rfl) dX1_match_129 rfl ?_
  refine q_iinc hx [(6, .int (v6 + 1)), (0, .ref (G.2.1 + 284)), (1, .ref (G.2.2.2.1 c1)), (2, .ref (G.2.1 + 283)), (3, .int v3), (5, .int v5), (7, .int v7), (8, .int v8), (11, .int v11)] dX1_match_132 5 rfl rfl (by decide) rfl ?_
  refine q_goto hx 183 dX1_match_135 (by decide) ?_
  refine q_iinc hx [(8, .int (v8 + 1)), (6, .int (v6 + 1)), (0, .ref (G.2.1 + 284)), (1, .ref (G.2.2.2.1 c1)), (2, .ref (G.2.1 + 283)), (3, .int v3), (5, .int v5), (7, .int v7), (11, .int v11)] dX1_match_183 7 rfl rfl (by decide) rfl ?_
  refine q_goto hx 13 dX1_match_186 (by decide) ?_
  refine q_sub [2, 3, 4, 5, 6, 1, 7, 0] rfl ?_
  exact hk13 v3 v5 (v6 + 1) v7 (v8 + 1) ((f_X9_setNumberAt σ 289 3 v6 (v11 * v7))) h
def f_X1_match_71 (c1 : Nat) (k13 : Int32 → Int32 → Int32 → Int32 → Int32 → q_S → Option (Int32 × q_S)) (v3 : Int32) (v5 : Int32) (v6 : Int32) (v7 : Int32) (v8 : Int32) (v9 : Int32) (v10 : Int32) (σ : q_S) : Option (Int32 × q_S) :=
  Option.bind (f_X1_characterAt σ v3 v5) (fun q7 => if v9 = 37 then (Option.bind (f_X1_isDigit q7) (fun q9 => if q9 = 0 then (f_X1_match_118 c1 k13 v3 v5 v6 v7 v8 (v10 - 48) σ) else (f_X1_match_118 c1 k13 v3 (v5 + 1) v6 v7 v8 ((((v10 - 48) * 10) + q7) - 48) σ))) else (f_X1_match_118 c1 k13 v3 v5 v6 v7 v8 (v10 - 48) σ))
set_option maxHeartbeats 4000000 in
set_option maxRecDepth 100000 in
theorem s_X1_match_71 {X : q_X} {G : q_G} {x : q_A} (c1 : Nat) (hx : q_Cx X G RX1 cX1_match 13 5) (hr : (q_Xm X).sig.returnType = some .int) (hst1 : c1 < 8) {res : Int32 × q_S} {k13 : Int32 → Int32 → Int32 → Int32 → Int32 → q_S → Option (Int32 × q_S)} (hk13 : ∀ (v3 : Int32) (v5 : Int32) (v6 : Int32) (v7 : Int32) (v8 : Int32) (σ : q_S), k13 v3 v5 v6 v7 v8 σ = some res → q_Wq X G x 13 (q_MQ X G (q_Qi G x res.1 res.2)) 0 0 13 [(0, .ref (G.2.1 + 284)), (1, .ref (G.2.2.2.1 c1)), (2, .ref (G.2.1 + 283)), (3, .int v3), (5, .int v5), (6, .int v6), (7, .int v7), (8, .int v8)] [] σ) : ∀ (v3 : Int32) (v5 : Int32) (v6 : Int32) (v7 : Int32) (v8 : Int32) (v9 : Int32) (v10 : Int32) (σ : q_S), f_X1_match_71 c1 k13 v3 v5 v6 v7 v8 v9 v10 σ = some res → q_Wq X G x 13 (q_MQ X G (q_Qi G x res.1 res.2)) 0 0 71 [(0, .ref (G.2.1 + 284)), (1, .ref (G.2.2.2.1 c1)), (2, .ref (G.2.1 + 283)), (3, .int v3), (5, .int v5), (6, .int v6), (7, .int v7), (8, .int v8), (9, .int v9), (10, .int v10)] [] σ := by
  intro v3 v5 v6 v7 v8 v9 v10 σ h
  unfold f_X1_match_71 at h
  refine q_iload hx dX1_match_71 9 rfl ?_
  refine q_bipush (v := 48) hx dX1_match_73 (by decide) ?_
  refine q_isub hx dX1_match_75 ?_
  refine q_istore hx [(11, .int (v10 - 48)), (0, .ref (G.2.1 + 284)), (1, .ref (G.2.2.2.1 c1)), (2, .ref (G.2.1 + 283)), (3, .int v3), (5, .int v5), (6, .int v6), (7, .int v7), (8, .int v8), (9, .int v9), (10, .int v10)] dX1_match_76 (by decide) rfl ?_
  refine q_aload_n hx dX1_match_78 3 rfl ?_
  refine q_iload_n hx dX1_match_79 4 rfl ?_
  refine q_iload hx dX1_match_80 5 rfl ?_
  refine q_bindE h (fun q7 hq7 h => ?_)
  refine q_callSi (As := [.ref (G.2.1 + 283), .int v3, .int v5]) (rest := []) hx q_kR0 (c_X1_characterAt (q_Xl X) G x σ v3 v5 hq7) q_ml_X1_35 q_mn_X1_characterAt q_ms_X1_characterAt (by decide) rfl (Nat.le_of_ble_eq_true rfl) dX1_match_82 rfl ?_
  refine q_istore hx [(12, .int q7), (11, .int (v10 - 48)), (0, .ref (G.2.1 + 284)), (1, .ref (G.2.2.2.1 c1)), (2, .ref (G.2.1 + 283)), (3, .int v3), (5, .int v5), (6, .int v6), (7, .int v7), (8, .int v8), (9, .int v9), (10, .int v10)] dX1_match_85 (by decide) rfl ?_
  refine q_iload hx dX1_match_87 10 rfl ?_
  refine q_bipush (v := 37) hx dX1_match_89 (by decide) ?_
  refine q_icmp_ne hx 118 dX1_match_91 (by decide) (fun hc8 => ?_) (fun hc8 => ?_)
  · replace h := (if_neg hc8).symm.trans h
    refine q_sub [2, 3, 4, 5, 6, 7, 8, 9, 1] rfl ?_
    exact s_X1_match_118 c1 hx hr hst1 hk13 v3 v5 v6 v7 v8 (v10 - 48) σ h
  · replace h := (if_pos hc8).symm.trans h
    refine q_iload hx dX1_match_94 0 rfl ?_
    refine q_bindE h (fun q9 hq9 h => ?_)
    refine q_callSi (As := [.int q7]) (rest := []) hx q_kR0 (c_X1_isDigit (q_Xl X) G x σ q7 hq9) q_ml_X1_94 q_mn_X1_isDigit q_ms_X1_isDigit (by decide) rfl (Nat.le_of_ble_eq_true rfl) dX1_match_96 rfl ?_
    refine q_if_eq hx 118 dX1_match_99 (by decide) (fun hc10 => ?_) (fun hc10 => ?_)
    · replace h := (if_pos hc10).symm.trans h
      refine q_sub [2, 3, 4, 5, 6, 7, 8, 9, 1] rfl ?_
      exact s_X1_match_118 c1 hx hr hst1 hk13 v3 v5 v6 v7 v8 (v10 - 48) σ h
    · replace h := (if_neg hc10).symm.trans h
      refine q_iload hx dX1_match_102 1 rfl ?_
      refine q_bipush (v := 10) hx dX1_match_104 (by decide) ?_
      refine q_imul hx dX1_match_106 ?_
      refine q_iload hx dX1_match_107 0 rfl ?_
      refine q_iadd hx dX1_match_109 ?_
      refine q_bipush (v := 48) hx dX1_match_110 (by decide) ?_
      refine q_isub hx dX1_match_112 ?_
      refine q_istore hx [(11, .int ((((v10 - 48) * 10) + q7) - 48)), (12, .int q7), (0, .ref (G.2.1 + 284)), (1, .ref (G.2.2.2.1 c1)), (2, .ref (G.2.1 + 283)), (3, .int v3), (5, .int v5), (6, .int v6), (7, .int v7), (8, .int v8), (9, .int v9), (10, .int v10)] dX1_match_113 (by decide) rfl ?_
      refine q_iinc hx [(5, .int (v5 + 1)), (11, .int ((((v10 - 48) * 10) + q7) - 48)), (12, .int q7), (0, .ref (G.2.1 + 284)), (1, .ref (G.2.2.2.1 c1)), (2, .ref (G.2.1 + 283)), (3, .int v3), (6, .int v6), (7, .int v7), (8, .int v8), (9, .int v9), (10, .int v10)] dX1_match_115 6 rfl rfl (by decide) rfl ?_
      refine q_sub [3, 4, 5, 6, 0, 7, 8, 9, 1] rfl ?_
      exact s_X1_match_118 c1 hx hr hst1 hk13 v3 (v5 + 1) v6 v7 v8 ((((v10 - 48) * 10) + q7) - 48) σ h
def f_X1_match_13 (c1 : Nat) : Nat → Int32 → Int32 → Int32 → Int32 → Int32 → q_S → Option (Int32 × q_S)
  | 0, _, _, _, _, _, _ => none
  | n + 1, v3, v5, v6, v7, v8, σ =>
    if (q_sl c1) ≤ v8 then (some ((v5, σ))) else (if (v8 < 0 ∨ q_len.getD c1 0 ≤ v8.toNatClampNeg) then none else Option.bind (f_X1_characterAt σ v3 v5) (fun q3 => Option.bind (f_X1_isFit (q_sc c1 v8) q3) (fun q4 => if q4 = 0 then (some ((((-1)) - v5, σ))) else (if (q_sc c1 v8) = 35 then (f_X1_match_71 c1 (f_X1_match_13 c1 n) v3 (v5 + 1) v6 v7 v8 (q_sc c1 v8) q3 σ) else (if (q_sc c1 v8) = 37 then (f_X1_match_71 c1 (f_X1_match_13 c1 n) v3 (v5 + 1) v6 v7 v8 (q_sc c1 v8) q3 σ) else (if (q_sc c1 v8) = 64 then (f_X1_match_13 c1 n v3 (v5 + 1) (v6 + 1) v7 (v8 + 1) ((f_X9_setNumberAt σ 289 3 v6 q3))) else (if (q_sc c1 v8) = 126 then (if q3 = 45 then (f_X1_match_13 c1 n v3 (v5 + 1) v6 ((-1)) (v8 + 1) σ) else (f_X1_match_13 c1 n v3 (v5 + 1) v6 1 (v8 + 1) σ)) else (f_X1_match_13 c1 n v3 (v5 + 1) v6 v7 (v8 + 1) σ))))))))
set_option maxHeartbeats 4000000 in
set_option maxRecDepth 100000 in
theorem s_X1_match_13 {X : q_X} {G : q_G} {x : q_A} (c1 : Nat) (hx : q_Cx X G RX1 cX1_match 13 5) (hr : (q_Xm X).sig.returnType = some .int) (hst1 : c1 < 8) {res : Int32 × q_S} : ∀ (n : Nat) (v3 : Int32) (v5 : Int32) (v6 : Int32) (v7 : Int32) (v8 : Int32) (σ : q_S), f_X1_match_13 c1 n v3 v5 v6 v7 v8 σ = some res → q_Wq X G x 13 (q_MQ X G (q_Qi G x res.1 res.2)) 0 0 13 [(0, .ref (G.2.1 + 284)), (1, .ref (G.2.2.2.1 c1)), (2, .ref (G.2.1 + 283)), (3, .int v3), (5, .int v5), (6, .int v6), (7, .int v7), (8, .int v8)] [] σ := by
  intro n
  induction n with
  | zero => exact fun _ _ _ _ _ _ h => nomatch (show (none : Option (Int32 × q_S)) = some res from h)
  | succ n ih =>
    intro v3 v5 v6 v7 v8 σ h
    rw [f_X1_match_13] at h
    refine q_iload hx dX1_match_13 7 rfl ?_
    refine q_aload_n hx dX1_match_15 1 rfl ?_
    refine q_callVsi (As := []) (rest := [.int v8]) hx q_kR0 (c_J0_length_8abf5 (q_Xl X) G x σ c1 hst1) q_jw_C80 q_mn_J0_length_8abf5 q_mi_J0_length_8abf5 q_se_J0_length_8abf5 (by decide) rfl (Nat.le_of_ble_eq_true rfl) dX1_match_16 hst1 rfl rfl ?_
    refine q_icmp_ge hx 189 dX1_match_19 (by decide) (fun hc1 => ?_) (fun hc1 => ?_)
    · replace h := (if_pos hc1).symm.trans h
      refine q_iload hx dX1_match_189 4 rfl ?_
      obtain rfl := Option.some.inj h
      exact q_iret hx hr dX1_match_191
    · replace h := (if_neg hc1).symm.trans h
      refine q_aload_n hx dX1_match_22 1 rfl ?_
      refine q_iload hx dX1_match_23 7 rfl ?_
      by_cases hg2 : (v8 < 0 ∨ q_len.getD c1 0 ≤ v8.toNatClampNeg)
      · rw [if_pos hg2] at h; exact nomatch h
      replace h := (if_neg hg2).symm.trans h
      refine q_callVsi (As := [.int v8]) (rest := []) hx q_kR0 (c_J0_charAt_5068e (q_Xl X) G x σ c1 hst1 v8 hg2) q_jw_C86 q_mn_J0_charAt_5068e q_mi_J0_charAt_5068e q_se_J0_charAt_5068e (by decide) rfl (Nat.le_of_ble_eq_true rfl) dX1_match_25 hst1 rfl rfl ?_
      refine q_istore hx [(9, .int (q_sc c1 v8)), (0, .ref (G.2.1 + 284)), (1, .ref (G.2.2.2.1 c1)), (2, .ref (G.2.1 + 283)), (3, .int v3), (5, .int v5), (6, .int v6), (7, .int v7), (8, .int v8)] dX1_match_28 (by decide) rfl ?_
      refine q_aload_n hx dX1_match_30 3 rfl ?_
      refine q_iload_n hx dX1_match_31 4 rfl ?_
      refine q_iload hx dX1_match_32 5 rfl ?_
      refine q_bindE h (fun q3 hq3 h => ?_)
      refine q_callSi (As := [.ref (G.2.1 + 283), .int v3, .int v5]) (rest := []) hx q_kR0 (c_X1_characterAt (q_Xl X) G x σ v3 v5 hq3) q_ml_X1_35 q_mn_X1_characterAt q_ms_X1_characterAt (by decide) rfl (Nat.le_of_ble_eq_true rfl) dX1_match_34 rfl ?_
      refine q_istore hx [(10, .int q3), (9, .int (q_sc c1 v8)), (0, .ref (G.2.1 + 284)), (1, .ref (G.2.2.2.1 c1)), (2, .ref (G.2.1 + 283)), (3, .int v3), (5, .int v5), (6, .int v6), (7, .int v7), (8, .int v8)] dX1_match_37 (by decide) rfl ?_
      refine q_iload hx dX1_match_39 1 rfl ?_
      refine q_iload hx dX1_match_41 0 rfl ?_
      refine q_bindE h (fun q4 hq4 h => ?_)
      refine q_callSi (As := [.int (q_sc c1 v8), .int q3]) (rest := []) hx q_kR0 (c_X1_isFit (q_Xl X) G x σ (q_sc c1 v8) q3 hq4) q_ml_X1_90 q_mn_X1_isFit q_ms_X1_isFit (by decide) rfl (Nat.le_of_ble_eq_true rfl) dX1_match_43 rfl ?_
      refine q_if_ne hx 54 dX1_match_46 (by decide) (fun hc5 => ?_) (fun hc5 => ?_)
      · replace h := (if_neg hc5).symm.trans h
        refine q_iinc hx [(5, .int (v5 + 1)), (10, .int q3), (9, .int (q_sc c1 v8)), (0, .ref (G.2.1 + 284)), (1, .ref (G.2.2.2.1 c1)), (2, .ref (G.2.1 + 283)), (3, .int v3), (6, .int v6), (7, .int v7), (8, .int v8)] dX1_match_54 6 rfl rfl (by decide) rfl ?_
        refine q_iload hx dX1_match_57 2 rfl ?_
        refine q_bipush (v := 35) hx dX1_match_59 (by decide) ?_
        refine q_icmp_eq hx 71 dX1_match_61 (by decide) (fun hc6 => ?_) (fun hc6 => ?_)
        · replace h := (if_pos hc6).symm.trans h
          refine q_sub [3, 4, 5, 6, 0, 7, 8, 9, 2, 1] rfl ?_
          exact s_X1_match_71 c1 hx hr hst1 (fun v3 v5 v6 v7 v8 σ h => ih v3 v5 v6 v7 v8 σ h) v3 (v5 + 1) v6 v7 v8 (q_sc c1 v8) q3 σ h
        · replace h := (if_neg hc6).symm.trans h
          refine q_iload hx dX1_match_64 2 rfl ?_
          refine q_bipush (v := 37) hx dX1_match_66 (by decide) ?_
          refine q_icmp_ne hx 138 dX1_match_68 (by decide) (fun hc11 => ?_) (fun hc11 => ?_)
          · replace h := (if_neg hc11).symm.trans h
            refine q_iload hx dX1_match_138 2 rfl ?_
            refine q_bipush (v := 64) hx dX1_match_140 (by decide) ?_
            refine q_icmp_ne hx 162 dX1_match_142 (by decide) (fun hc12 => ?_) (fun hc12 => ?_)
            · replace h := (if_neg hc12).symm.trans h
              refine q_iload hx dX1_match_162 2 rfl ?_
              refine q_bipush (v := 126) hx dX1_match_164 (by decide) ?_
              refine q_icmp_ne hx 183 dX1_match_166 (by decide) (fun hc13 => ?_) (fun hc13 => ?_)
              · replace h := (if_neg hc13).symm.trans h
                refine q_iinc hx [(8, .int (v8 + 1)), (5, .int (v5 + 1)), (10, .int q3), (9, .int (q_sc c1 v8)), (0, .ref (G.2.1 + 284)), (1, .ref (G.2.2.2.1 c1)), (2, .ref (G.2.1 + 283)), (3, .int v3), (6, .int v6), (7, .int v7)] dX1_match_183 9 rfl rfl (by decide) rfl ?_
                refine q_goto hx 13 dX1_match_186 (by decide) ?_
                refine q_sub [4, 5, 6, 7, 1, 8, 9, 0] rfl ?_
                exact ih v3 (v5 + 1) v6 v7 (v8 + 1) σ h
              · replace h := (if_pos hc13).symm.trans h
                refine q_iload hx dX1_match_169 1 rfl ?_
                refine q_bipush (v := 45) hx dX1_match_171 (by decide) ?_
                refine q_icmp_ne hx 180 dX1_match_173 (by decide) (fun hc14 => ?_) (fun hc14 => ?_)
                · replace h := (if_neg hc14).symm.trans h
                  refine q_iconst (v := 1) hx dX1_match_180 (by decide) ?_
                  refine q_istore hx [(7, .int 1), (5, .int (v5 + 1)), (10, .int q3), (9, .int (q_sc c1 v8)), (0, .ref (G.2.1 + 284)), (1, .ref (G.2.2.2.1 c1)), (2, .ref (G.2.1 + 283)), (3, .int v3), (6, .int v6), (8, .int v8)] dX1_match_181 (by decide) rfl ?_
                  refine q_iinc hx [(8, .int (v8 + 1)), (7, .int 1), (5, .int (v5 + 1)), (10, .int q3), (9, .int (q_sc c1 v8)), (0, .ref (G.2.1 + 284)), (1, .ref (G.2.2.2.1 c1)), (2, .ref (G.2.1 + 283)), (3, .int v3), (6, .int v6)] dX1_match_183 9 rfl rfl (by decide) rfl ?_
                  refine q_goto hx 13 dX1_match_186 (by decide) ?_
                  refine q_sub [5, 6, 7, 8, 2, 9, 1, 0] rfl ?_
                  exact ih v3 (v5 + 1) v6 1 (v8 + 1) σ h
                · replace h := (if_pos hc14).symm.trans h
                  refine q_iconst (v := (-1)) hx dX1_match_176 (by decide) ?_
                  refine q_goto hx 181 dX1_match_177 (by decide) ?_
                  refine q_istore hx [(7, .int ((-1))), (5, .int (v5 + 1)), (10, .int q3), (9, .int (q_sc c1 v8)), (0, .ref (G.2.1 + 284)), (1, .ref (G.2.2.2.1 c1)), (2, .ref (G.2.1 + 283)), (3, .int v3), (6, .int v6), (8, .int v8)] dX1_match_181 (by decide) rfl ?_
                  refine q_iinc hx [(8, .int (v8 + 1)), (7, .int ((-1))), (5, .int (v5 + 1)), (10, .int q3), (9, .int (q_sc c1 v8)), (0, .ref (G.2.1 + 284)), (1, .ref (G.2.2.2.1 c1)), (2, .ref (G.2.1 + 283)), (3, .int v3), (6, .int v6)] dX1_match_183 9 rfl rfl (by decide) rfl ?_
                  refine q_goto hx 13 dX1_match_186 (by decide) ?_
                  refine q_sub [5, 6, 7, 8, 2, 9, 1, 0] rfl ?_
                  exact ih v3 (v5 + 1) v6 ((-1)) (v8 + 1) σ h
            · replace h := (if_pos hc12).symm.trans h
              refine q_aload_n hx dX1_match_145 3 rfl ?_
              refine q_get (v := .ref (G.2.1 + 289)) hx q_fl_X1_28 dX1_match_146 (q_ne kd_284 (by decide)) (q_e1 kd_284) rfl ?_
              refine q_iload hx dX1_match_149 7 rfl ?_
              refine q_iload hx dX1_match_151 1 rfl ?_
              refine q_callSv (As := [.ref (G.2.1 + 289), .int v6, .int q3]) (rest := []) hx q_kR0 (c_X9_setNumberAt (q_Xl X) G x σ 289 3 v6 q3 kd_289) q_ml_X1_56 q_mn_X9_setNumberAt q_ms_X9_setNumberAt (by decide) rfl (Nat.le_of_ble_eq_true rfl) dX1_match_153 rfl ?_
              refine q_iinc hx [(6, .int (v6 + 1)), (5, .int (v5 + 1)), (10, .int q3), (9, .int (q_sc c1 v8)), (0, .ref (G.2.1 + 284)), (1, .ref (G.2.2.2.1 c1)), (2, .ref (G.2.1 + 283)), (3, .int v3), (7, .int v7), (8, .int v8)] dX1_match_156 7 rfl rfl (by decide) rfl ?_
              refine q_goto hx 183 dX1_match_159 (by decide) ?_
              refine q_iinc hx [(8, .int (v8 + 1)), (6, .int (v6 + 1)), (5, .int (v5 + 1)), (10, .int q3), (9, .int (q_sc c1 v8)), (0, .ref (G.2.1 + 284)), (1, .ref (G.2.2.2.1 c1)), (2, .ref (G.2.1 + 283)), (3, .int v3), (7, .int v7)] dX1_match_183 9 rfl rfl (by decide) rfl ?_
              refine q_goto hx 13 dX1_match_186 (by decide) ?_
              refine q_sub [5, 6, 7, 8, 2, 1, 9, 0] rfl ?_
              exact ih v3 (v5 + 1) (v6 + 1) v7 (v8 + 1) ((f_X9_setNumberAt σ 289 3 v6 q3)) h
          · replace h := (if_pos hc11).symm.trans h
            refine q_sub [3, 4, 5, 6, 0, 7, 8, 9, 2, 1] rfl ?_
            exact s_X1_match_71 c1 hx hr hst1 (fun v3 v5 v6 v7 v8 σ h => ih v3 v5 v6 v7 v8 σ h) v3 (v5 + 1) v6 v7 v8 (q_sc c1 v8) q3 σ h
      · replace h := (if_pos hc5).symm.trans h
        refine q_iconst (v := (-1)) hx dX1_match_49 (by decide) ?_
        refine q_iload hx dX1_match_50 6 rfl ?_
        refine q_isub hx dX1_match_52 ?_
        obtain rfl := Option.some.inj h
        exact q_iret hx hr dX1_match_53
def f_X1_match (σ : q_S) (c1 : Nat) (a3 : Int32) (a4 : Int32) : Option (Int32 × q_S) :=
  f_X1_match_13 c1 q_fu a3 a4 0 1 0 σ
set_option maxHeartbeats 4000000 in
set_option maxRecDepth 100000 in
theorem c_X1_match (l : Launch) (G : q_G) (x : q_A) (σ : q_S) (c1 : Nat) (a3 : Int32) (a4 : Int32) (hst1 : c1 < 8) {res : Int32 × q_S} (h : f_X1_match σ c1 a3 a4 = some res) : q_Met l yX1_match cX1_match 13 (some .int) 5 G [.ref (G.2.1 + 284), .ref (G.2.2.2.1 c1), .ref (G.2.1 + 283), .int a3, .int a4] σ x (q_Qi G x res.1 res.2) := by
  refine q_of (by decide) (Nat.le_of_ble_eq_true rfl) (fun X hl0 hx hr => ?_)
  subst hl0
  have hx : q_Cx X G RX1 cX1_match 13 5 := hx
  unfold f_X1_match at h
  show q_Wq X G x 13 (q_MQ X G (q_Qi G x res.1 res.2)) 0 0 0 [(0, .ref (G.2.1 + 284)), (1, .ref (G.2.2.2.1 c1)), (2, .ref (G.2.1 + 283)), (3, .int a3), (4, .int a4)] [] σ
  refine q_iload hx dX1_match_0 4 rfl ?_
  refine q_istore hx [(5, .int a4), (0, .ref (G.2.1 + 284)), (1, .ref (G.2.2.2.1 c1)), (2, .ref (G.2.1 + 283)), (3, .int a3), (4, .int a4)] dX1_match_2 (by decide) rfl ?_
  refine q_iconst (v := 0) hx dX1_match_4 (by decide) ?_
  refine q_istore hx [(6, .int 0), (5, .int a4), (0, .ref (G.2.1 + 284)), (1, .ref (G.2.2.2.1 c1)), (2, .ref (G.2.1 + 283)), (3, .int a3), (4, .int a4)] dX1_match_5 (by decide) rfl ?_
  refine q_iconst (v := 1) hx dX1_match_7 (by decide) ?_
  refine q_istore hx [(7, .int 1), (6, .int 0), (5, .int a4), (0, .ref (G.2.1 + 284)), (1, .ref (G.2.2.2.1 c1)), (2, .ref (G.2.1 + 283)), (3, .int a3), (4, .int a4)] dX1_match_8 (by decide) rfl ?_
  refine q_iconst (v := 0) hx dX1_match_10 (by decide) ?_
  refine q_istore hx [(8, .int 0), (7, .int 1), (6, .int 0), (5, .int a4), (0, .ref (G.2.1 + 284)), (1, .ref (G.2.2.2.1 c1)), (2, .ref (G.2.1 + 283)), (3, .int a3), (4, .int a4)] dX1_match_11 (by decide) rfl ?_
  refine q_sub [4, 5, 6, 7, 3, 2, 1, 0] rfl ?_
  exact s_X1_match_13 c1 hx hr hst1 q_fu a3 a4 0 1 0 σ h
-- X1_understandOne
def f_X1_understandOne_6 : Nat → Int32 → Int32 → Int32 → Int32 → q_S → Option (Int32 × q_S)
  | 0, _, _, _, _, _ => none
  | n + 1, v2, v3, v4, v5, σ =>
    if 8 ≤ v5 then (some ((((-1)) - v4, σ))) else (Option.bind (f_X1_match σ ((f_X1_formOf v5)) v2 v3) (fun q2 => if q2.1 < 0 then (f_X1_understandOne_6 n v2 v3 ((if v4 < (((-1)) - q2.1) then (((-1)) - q2.1) else v4)) (v5 + 1) q2.2) else (some ((q2.1, (f_X1_add q2.2 v5))))))
set_option maxHeartbeats 4000000 in
set_option maxRecDepth 100000 in
theorem s_X1_understandOne_6 {X : q_X} {G : q_G} {x : q_A} (hx : q_Cx X G RX1 cX1_understandOne 7 6) (hr : (q_Xm X).sig.returnType = some .int) {res : Int32 × q_S} : ∀ (n : Nat) (v2 : Int32) (v3 : Int32) (v4 : Int32) (v5 : Int32) (σ : q_S), f_X1_understandOne_6 n v2 v3 v4 v5 σ = some res → q_Wq X G x 7 (q_MQ X G (q_Qi G x res.1 res.2)) 0 0 6 [(0, .ref (G.2.1 + 284)), (1, .ref (G.2.1 + 283)), (2, .int v2), (3, .int v3), (4, .int v4), (5, .int v5)] [] σ := by
  intro n
  induction n with
  | zero => exact fun _ _ _ _ _ h => nomatch (show (none : Option (Int32 × q_S)) = some res from h)
  | succ n ih =>
    intro v2 v3 v4 v5 σ h
    rw [f_X1_understandOne_6] at h
    refine q_iload hx dX1_understandOne_6 5 rfl ?_
    refine q_bipush (v := 8) hx dX1_understandOne_8 (by decide) ?_
    refine q_icmp_ge hx 58 dX1_understandOne_10 (by decide) (fun hc1 => ?_) (fun hc1 => ?_)
    · replace h := (if_pos hc1).symm.trans h
      refine q_iconst (v := (-1)) hx dX1_understandOne_58 (by decide) ?_
      refine q_iload hx dX1_understandOne_59 4 rfl ?_
      refine q_isub hx dX1_understandOne_61 ?_
      obtain rfl := Option.some.inj h
      exact q_iret hx hr dX1_understandOne_62
    · replace h := (if_neg hc1).symm.trans h
      refine q_aload_n hx dX1_understandOne_13 0 rfl ?_
      refine q_iload hx dX1_understandOne_14 5 rfl ?_
      refine q_callSs (As := [.int v5]) (rest := [.ref (G.2.1 + 284)]) hx q_kR0 (c_X1_formOf (q_Xl X) G x σ v5) q_ml_X1_38 q_mn_X1_formOf q_ms_X1_formOf (by decide) rfl (Nat.le_of_ble_eq_true rfl) dX1_understandOne_16 rfl ?_
      refine q_aload_n hx dX1_understandOne_19 1 rfl ?_
      refine q_iload_n hx dX1_understandOne_20 2 rfl ?_
      refine q_iload_n hx dX1_understandOne_21 3 rfl ?_
      refine q_bindE h (fun q2 hq2 h => ?_)
      refine q_callVi (As := [.ref (G.2.2.2.1 ((f_X1_formOf v5))), .ref (G.2.1 + 283), .int v2, .int v3]) (rest := []) hx q_kR0 (c_X1_match (q_Xl X) G x σ ((f_X1_formOf v5)) v2 v3 ((q_form8 v5)) hq2) q_ml_X1_42 q_mn_X1_match q_mi_X1_match q_se_X1_match (by decide) rfl (Nat.le_of_ble_eq_true rfl) dX1_understandOne_22 (q_ne kd_284 (by decide)) (q_e1 kd_284) rfl rfl rfl ?_
      refine q_istore hx [(6, .int q2.1), (0, .ref (G.2.1 + 284)), (1, .ref (G.2.1 + 283)), (2, .int v2), (3, .int v3), (4, .int v4), (5, .int v5)] dX1_understandOne_25 (by decide) rfl ?_
      refine q_iload hx dX1_understandOne_27 0 rfl ?_
      refine q_if_lt hx 41 dX1_understandOne_29 (by decide) (fun hc3 => ?_) (fun hc3 => ?_)
      · replace h := (if_pos hc3).symm.trans h
        refine q_iload hx dX1_understandOne_41 5 rfl ?_
        refine q_iconst (v := (-1)) hx dX1_understandOne_43 (by decide) ?_
        refine q_iload hx dX1_understandOne_44 0 rfl ?_
        refine q_isub hx dX1_understandOne_46 ?_
        refine q_mmax hx q_kR0 (by decide) q_mml_X1_50 q_mm_max.1 q_mm_max.2.1 q_mm_max.2.2 (Nat.le_of_ble_eq_true rfl) dX1_understandOne_47 ?_
        refine q_istore hx [(4, .int ((if v4 < (((-1)) - q2.1) then (((-1)) - q2.1) else v4))), (6, .int q2.1), (0, .ref (G.2.1 + 284)), (1, .ref (G.2.1 + 283)), (2, .int v2), (3, .int v3), (5, .int v5)] dX1_understandOne_50 (by decide) rfl ?_
        refine q_iinc hx [(5, .int (v5 + 1)), (4, .int ((if v4 < (((-1)) - q2.1) then (((-1)) - q2.1) else v4))), (6, .int q2.1), (0, .ref (G.2.1 + 284)), (1, .ref (G.2.1 + 283)), (2, .int v2), (3, .int v3)] dX1_understandOne_52 6 rfl rfl (by decide) rfl ?_
        refine q_goto hx 6 dX1_understandOne_55 (by decide) ?_
        refine q_sub [3, 4, 5, 6, 1, 0] rfl ?_
        exact ih v2 v3 ((if v4 < (((-1)) - q2.1) then (((-1)) - q2.1) else v4)) (v5 + 1) q2.2 h
      · replace h := (if_neg hc3).symm.trans h
        refine q_aload_n hx dX1_understandOne_32 1 rfl ?_
        refine q_iload hx dX1_understandOne_33 6 rfl ?_
        refine q_callVv (As := [.int v5]) (rest := []) hx q_kR0 (c_X1_add (q_Xl X) G x q2.2 v5) q_ml_X1_46 q_mn_X1_add q_mi_X1_add q_se_X1_add (by decide) rfl (Nat.le_of_ble_eq_true rfl) dX1_understandOne_35 (q_ne kd_284 (by decide)) (q_e1 kd_284) rfl rfl rfl ?_
        refine q_iload hx dX1_understandOne_38 0 rfl ?_
        obtain rfl := Option.some.inj h
        exact q_iret hx hr dX1_understandOne_40
def f_X1_understandOne (σ : q_S) (a2 : Int32) (a3 : Int32) : Option (Int32 × q_S) :=
  f_X1_understandOne_6 q_fu a2 a3 a3 0 σ
set_option maxHeartbeats 4000000 in
set_option maxRecDepth 100000 in
theorem c_X1_understandOne (l : Launch) (G : q_G) (x : q_A) (σ : q_S) (a2 : Int32) (a3 : Int32)  {res : Int32 × q_S} (h : f_X1_understandOne σ a2 a3 = some res) : q_Met l yX1_understandOne cX1_understandOne 7 (some .int) 6 G [.ref (G.2.1 + 284), .ref (G.2.1 + 283), .int a2, .int a3] σ x (q_Qi G x res.1 res.2) := by
  refine q_of (by decide) (Nat.le_of_ble_eq_true rfl) (fun X hl0 hx hr => ?_)
  subst hl0
  have hx : q_Cx X G RX1 cX1_understandOne 7 6 := hx
  unfold f_X1_understandOne at h
  show q_Wq X G x 7 (q_MQ X G (q_Qi G x res.1 res.2)) 0 0 0 [(0, .ref (G.2.1 + 284)), (1, .ref (G.2.1 + 283)), (2, .int a2), (3, .int a3)] [] σ
  refine q_iload_n hx dX1_understandOne_0 3 rfl ?_
  refine q_istore hx [(4, .int a3), (0, .ref (G.2.1 + 284)), (1, .ref (G.2.1 + 283)), (2, .int a2), (3, .int a3)] dX1_understandOne_1 (by decide) rfl ?_
  refine q_iconst (v := 0) hx dX1_understandOne_3 (by decide) ?_
  refine q_istore hx [(5, .int 0), (4, .int a3), (0, .ref (G.2.1 + 284)), (1, .ref (G.2.1 + 283)), (2, .int a2), (3, .int a3)] dX1_understandOne_4 (by decide) rfl ?_
  refine q_sub [2, 3, 4, 5, 1, 0] rfl ?_
  exact s_X1_understandOne_6 hx hr q_fu a2 a3 a3 0 σ h
-- X1_understand
def f_X1_understand_10 : Nat → Int32 → Int32 → Int32 → q_S → Option (Int32 × q_S)
  | 0, _, _, _, _ => none
  | n + 1, v2, v3, v4, σ =>
    if 10 ≤ v4 then (some ((v3, σ))) else (Option.bind (f_X1_understandOne σ v2 v3) (fun q2 => if 0 ≤ q2.1 then (if q2.1 = v2 then (some (((-1), q2.2))) else (Option.bind (f_X1_characterAt q2.2 v2 q2.1) (fun q5 => if q5 = 59 then (f_X1_understand_10 n v2 (q2.1 + 1) (v4 + 1) q2.2) else (some ((q2.1, q2.2)))))) else (some ((((-1)) - q2.1, q2.2)))))
set_option maxHeartbeats 4000000 in
set_option maxRecDepth 100000 in
theorem s_X1_understand_10 {X : q_X} {G : q_G} {x : q_A} (hx : q_Cx X G RX1 cX1_understand 6 7) (hr : (q_Xm X).sig.returnType = some .int) {res : Int32 × q_S} : ∀ (n : Nat) (v2 : Int32) (v3 : Int32) (v4 : Int32) (σ : q_S), f_X1_understand_10 n v2 v3 v4 σ = some res → q_Wq X G x 6 (q_MQ X G (q_Qi G x res.1 res.2)) 0 0 10 [(0, .ref (G.2.1 + 284)), (1, .ref (G.2.1 + 283)), (2, .int v2), (3, .int v3), (4, .int v4)] [] σ := by
  intro n
  induction n with
  | zero => exact fun _ _ _ _ h => nomatch (show (none : Option (Int32 × q_S)) = some res from h)
  | succ n ih =>
    intro v2 v3 v4 σ h
    rw [f_X1_understand_10] at h
    refine q_iload hx dX1_understand_10 4 rfl ?_
    refine q_bipush (v := 10) hx dX1_understand_12 (by decide) ?_
    refine q_icmp_ge hx 70 dX1_understand_14 (by decide) (fun hc1 => ?_) (fun hc1 => ?_)
    · replace h := (if_pos hc1).symm.trans h
      refine q_iload_n hx dX1_understand_70 3 rfl ?_
      obtain rfl := Option.some.inj h
      exact q_iret hx hr dX1_understand_71
    · replace h := (if_neg hc1).symm.trans h
      refine q_aload_n hx dX1_understand_17 0 rfl ?_
      refine q_aload_n hx dX1_understand_18 1 rfl ?_
      refine q_iload_n hx dX1_understand_19 2 rfl ?_
      refine q_iload_n hx dX1_understand_20 3 rfl ?_
      refine q_bindE h (fun q2 hq2 h => ?_)
      refine q_callVi (As := [.ref (G.2.1 + 283), .int v2, .int v3]) (rest := []) hx q_kR0 (c_X1_understandOne (q_Xl X) G x σ v2 v3 hq2) q_ml_X1_31 q_mn_X1_understandOne q_mi_X1_understandOne q_se_X1_understandOne (by decide) rfl (Nat.le_of_ble_eq_true rfl) dX1_understand_21 (q_ne kd_284 (by decide)) (q_e1 kd_284) rfl rfl rfl ?_
      refine q_istore hx [(5, .int q2.1), (0, .ref (G.2.1 + 284)), (1, .ref (G.2.1 + 283)), (2, .int v2), (3, .int v3), (4, .int v4)] dX1_understand_24 (by decide) rfl ?_
      refine q_iload hx dX1_understand_26 0 rfl ?_
      refine q_if_ge hx 36 dX1_understand_28 (by decide) (fun hc3 => ?_) (fun hc3 => ?_)
      · replace h := (if_pos hc3).symm.trans h
        refine q_iload hx dX1_understand_36 0 rfl ?_
        refine q_iload_n hx dX1_understand_38 3 rfl ?_
        refine q_icmp_ne hx 44 dX1_understand_39 (by decide) (fun hc4 => ?_) (fun hc4 => ?_)
        · replace h := (if_neg hc4).symm.trans h
          refine q_aload_n hx dX1_understand_44 2 rfl ?_
          refine q_iload_n hx dX1_understand_45 3 rfl ?_
          refine q_iload hx dX1_understand_46 0 rfl ?_
          refine q_bindE h (fun q5 hq5 h => ?_)
          refine q_callSi (As := [.ref (G.2.1 + 283), .int v2, .int q2.1]) (rest := []) hx q_kR0 (c_X1_characterAt (q_Xl X) G x q2.2 v2 q2.1 hq5) q_ml_X1_35 q_mn_X1_characterAt q_ms_X1_characterAt (by decide) rfl (Nat.le_of_ble_eq_true rfl) dX1_understand_48 rfl ?_
          refine q_bipush (v := 59) hx dX1_understand_51 (by decide) ?_
          refine q_icmp_eq hx 59 dX1_understand_53 (by decide) (fun hc6 => ?_) (fun hc6 => ?_)
          · replace h := (if_pos hc6).symm.trans h
            refine q_iload hx dX1_understand_59 0 rfl ?_
            refine q_iconst (v := 1) hx dX1_understand_61 (by decide) ?_
            refine q_iadd hx dX1_understand_62 ?_
            refine q_istore_n hx [(3, .int (q2.1 + 1)), (5, .int q2.1), (0, .ref (G.2.1 + 284)), (1, .ref (G.2.1 + 283)), (2, .int v2), (4, .int v4)] dX1_understand_63 (by decide) rfl ?_
            refine q_iinc hx [(4, .int (v4 + 1)), (3, .int (q2.1 + 1)), (5, .int q2.1), (0, .ref (G.2.1 + 284)), (1, .ref (G.2.1 + 283)), (2, .int v2)] dX1_understand_64 5 rfl rfl (by decide) rfl ?_
            refine q_goto hx 10 dX1_understand_67 (by decide) ?_
            refine q_sub [3, 4, 5, 1, 0] rfl ?_
            exact ih v2 (q2.1 + 1) (v4 + 1) q2.2 h
          · replace h := (if_neg hc6).symm.trans h
            refine q_iload hx dX1_understand_56 0 rfl ?_
            obtain rfl := Option.some.inj h
            exact q_iret hx hr dX1_understand_58
        · replace h := (if_pos hc4).symm.trans h
          refine q_iconst (v := (-1)) hx dX1_understand_42 (by decide) ?_
          obtain rfl := Option.some.inj h
          exact q_iret hx hr dX1_understand_43
      · replace h := (if_neg hc3).symm.trans h
        refine q_iconst (v := (-1)) hx dX1_understand_31 (by decide) ?_
        refine q_iload hx dX1_understand_32 0 rfl ?_
        refine q_isub hx dX1_understand_34 ?_
        obtain rfl := Option.some.inj h
        exact q_iret hx hr dX1_understand_35
def f_X1_understand (σ : q_S) (a2 : Int32) : Option (Int32 × q_S) :=
  f_X1_understand_10 q_fu a2 0 0 (q_up σ 284 0 0)
set_option maxHeartbeats 4000000 in
set_option maxRecDepth 100000 in
theorem c_X1_understand (l : Launch) (G : q_G) (x : q_A) (σ : q_S) (a2 : Int32)  {res : Int32 × q_S} (h : f_X1_understand σ a2 = some res) : q_Met l yX1_understand cX1_understand 6 (some .int) 7 G [.ref (G.2.1 + 284), .ref (G.2.1 + 283), .int a2] σ x (q_Qi G x res.1 res.2) := by
  refine q_of (by decide) (Nat.le_of_ble_eq_true rfl) (fun X hl0 hx hr => ?_)
  subst hl0
  have hx : q_Cx X G RX1 cX1_understand 6 7 := hx
  unfold f_X1_understand at h
  show q_Wq X G x 6 (q_MQ X G (q_Qi G x res.1 res.2)) 0 0 0 [(0, .ref (G.2.1 + 284)), (1, .ref (G.2.1 + 283)), (2, .int a2)] [] σ
  refine q_aload_n hx dX1_understand_0 0 rfl ?_
  refine q_iconst (v := 0) hx dX1_understand_1 (by decide) ?_
  refine q_put (v := 0) hx q_fl_X1_9 q_fp_1_0 dX1_understand_2 (q_ne kd_284 (by decide)) (q_e1 kd_284) (by rw [q_l1]; decide) rfl rfl (by rw [q_e1 kd_284, q_s1_0]) ?_
  refine q_iconst (v := 0) hx dX1_understand_5 (by decide) ?_
  refine q_istore_n hx [(3, .int 0), (0, .ref (G.2.1 + 284)), (1, .ref (G.2.1 + 283)), (2, .int a2)] dX1_understand_6 (by decide) rfl ?_
  refine q_iconst (v := 0) hx dX1_understand_7 (by decide) ?_
  refine q_istore hx [(4, .int 0), (3, .int 0), (0, .ref (G.2.1 + 284)), (1, .ref (G.2.1 + 283)), (2, .int a2)] dX1_understand_8 (by decide) rfl ?_
  refine q_sub [2, 3, 4, 1, 0] rfl ?_
  exact s_X1_understand_10 hx hr q_fu a2 0 0 (q_up σ 284 0 0) h
-- X9_read
def f_X9_read_96 (s0 : Int32) (s1 : Int32) (σ : q_S) : Option (Nat × Int32 × q_S) :=
  Option.bind (f_X3_takeBack ((f_X7_refuseCommand σ s1 s0)) 2) (fun q9 => some ((3, 0, q9)))
set_option maxHeartbeats 4000000 in
set_option maxRecDepth 100000 in
theorem s_X9_read_96 {X : q_X} {G : q_G} {x : q_A} (hx : q_Cx X G RX9 cX9_read 5 8) (hr : (q_Xm X).sig.returnType = some .int) (hE : q_noE X) (hR6 : q_kR X 1 6) (hfl : (q_Xl X).stackTraces = false) {res : Nat × Int32 × q_S} : ∀ (s0 : Int32) (s1 : Int32) (σ : q_S), f_X9_read_96 s0 s1 σ = some res → q_Wq X G x 5 (q_MQX X G x (q_QiX G x res.1 res.2.1 res.2.2) res.1 res.2.2) 0 0 96 [(0, .ref (G.2.1 + 0))] [.int s0, .int s1, .ref (G.2.1 + 27)] σ := by
  intro s0 s1 σ h
  unfold f_X9_read_96 at h
  refine q_callVv (As := [.int s1, .int s0]) (rest := []) hx q_kR0 (c_X7_refuseCommand (q_Xl X) G x σ s1 s0) q_ml_X9_318 q_mn_X7_refuseCommand q_mi_X7_refuseCommand q_se_X7_refuseCommand (by decide) rfl (Nat.le_of_ble_eq_true rfl) dX9_read_96 (q_ne kd_27 (by decide)) (q_e7 kd_27) rfl rfl rfl ?_
  refine q_aload_n hx dX9_read_99 0 rfl ?_
  refine q_get (v := .ref (G.2.1 + 53)) hx q_fl_X9_43 dX9_read_100 (q_ne kd_0 (by decide)) (q_e9 kd_0) rfl ?_
  refine q_aload_n hx dX9_read_103 0 rfl ?_
  refine q_get (v := .ref (G.2.1 + 2)) hx q_fl_X9_20 dX9_read_104 (q_ne kd_0 (by decide)) (q_e9 kd_0) rfl ?_
  refine q_bindE h (fun q9 hq9 h => ?_)
  refine q_callVv (As := [.ref (G.2.1 + 2)]) (rest := []) hx q_kR0 (c_X3_takeBack (q_Xl X) G x ((f_X7_refuseCommand σ s1 s0)) 2 dr_2 hq9) q_ml_X9_324 q_mn_X3_takeBack q_mi_X3_takeBack q_se_X3_takeBack (by decide) rfl (Nat.le_of_ble_eq_true rfl) dX9_read_107 (q_ne kd_53 (by decide)) (q_e3 kd_53) rfl rfl rfl ?_
  cases h
  exact q_throwS hx hE hR6 (by decide) hfl q_th_X9_94_96_98 3 (by decide) rfl (by decide) dX9_read_110 dX9_read_113 dX9_read_114 dX9_read_116 dX9_read_119
def f_X9_read_56 : Nat → Int32 → q_S → Option (Nat × Int32 × q_S)
  | 0, _, _ => none
  | n + 1, v3, σ =>
    if (σ 284 0) ≤ v3 then (Option.bind (f_X3_keep σ) (fun q5 => some ((0, q5 284 0, q5)))) else (Option.bind (f_X9_carryOut σ v3) (fun q6 => if 0 ≤ q6.1 then (f_X9_read_56 n (v3 + 1) q6.2) else (if q6.1 = ((-3)) then (f_X9_read_96 1 v3 q6.2) else (f_X9_read_96 0 v3 q6.2))))
set_option maxHeartbeats 4000000 in
set_option maxRecDepth 100000 in
theorem s_X9_read_56 {X : q_X} {G : q_G} {x : q_A} (hx : q_Cx X G RX9 cX9_read 5 8) (hr : (q_Xm X).sig.returnType = some .int) (hE : q_noE X) (hR6 : q_kR X 1 6) (hfl : (q_Xl X).stackTraces = false) {res : Nat × Int32 × q_S} : ∀ (n : Nat) (v3 : Int32) (σ : q_S), f_X9_read_56 n v3 σ = some res → q_Wq X G x 5 (q_MQX X G x (q_QiX G x res.1 res.2.1 res.2.2) res.1 res.2.2) 0 0 56 [(0, .ref (G.2.1 + 0)), (3, .int v3)] [] σ := by
  intro n
  induction n with
  | zero => exact fun _ _ h => nomatch (show (none : Option (Nat × Int32 × q_S)) = some res from h)
  | succ n ih =>
    intro v3 σ h
    rw [f_X9_read_56] at h
    refine q_iload_n hx dX9_read_56 1 rfl ?_
    refine q_aload_n hx dX9_read_57 0 rfl ?_
    refine q_get (v := .ref (G.2.1 + 284)) hx q_fl_X9_65 dX9_read_58 (q_ne kd_0 (by decide)) (q_e9 kd_0) rfl ?_
    refine q_get (v := .int (σ 284 0)) hx q_fl_X9_314 dX9_read_61 (q_ne kd_284 (by decide)) (q_e1 kd_284) rfl ?_
    refine q_icmp_ge hx 126 dX9_read_64 (by decide) (fun hc4 => ?_) (fun hc4 => ?_)
    · replace h := (if_pos hc4).symm.trans h
      refine q_aload_n hx dX9_read_126 0 rfl ?_
      refine q_get (v := .ref (G.2.1 + 53)) hx q_fl_X9_43 dX9_read_127 (q_ne kd_0 (by decide)) (q_e9 kd_0) rfl ?_
      refine q_bindE h (fun q5 hq5 h => ?_)
      refine q_callVv (As := []) (rest := []) hx q_kR0 (c_X3_keep (q_Xl X) G x σ  hq5) q_ml_X9_99 q_mn_X3_keep q_mi_X3_keep q_se_X3_keep (by decide) rfl (Nat.le_of_ble_eq_true rfl) dX9_read_130 (q_ne kd_53 (by decide)) (q_e3 kd_53) rfl rfl rfl ?_
      refine q_aload_n hx dX9_read_133 0 rfl ?_
      refine q_get (v := .ref (G.2.1 + 284)) hx q_fl_X9_65 dX9_read_134 (q_ne kd_0 (by decide)) (q_e9 kd_0) rfl ?_
      refine q_get (v := .int (q5 284 0)) hx q_fl_X9_314 dX9_read_137 (q_ne kd_284 (by decide)) (q_e1 kd_284) rfl ?_
      cases h
      exact q_iretX hx hr dX9_read_140
    · replace h := (if_neg hc4).symm.trans h
      refine q_aload_n hx dX9_read_67 0 rfl ?_
      refine q_iload_n hx dX9_read_68 1 rfl ?_
      refine q_bindE h (fun q6 hq6 h => ?_)
      refine q_callVi (As := [.int v3]) (rest := []) hx q_kR0 (c_X9_carryOut (q_Xl X) G x σ v3 hq6) q_ml_X9_315 q_mn_X9_carryOut q_mi_X9_carryOut q_se_X9_carryOut (by decide) rfl (Nat.le_of_ble_eq_true rfl) dX9_read_69 (q_ne kd_0 (by decide)) (q_e9 kd_0) rfl rfl rfl ?_
      refine q_istore hx [(4, .int q6.1), (0, .ref (G.2.1 + 0)), (3, .int v3)] dX9_read_72 (by decide) rfl ?_
      refine q_iload hx dX9_read_74 0 rfl ?_
      refine q_if_ge hx 120 dX9_read_76 (by decide) (fun hc7 => ?_) (fun hc7 => ?_)
      · replace h := (if_pos hc7).symm.trans h
        refine q_iinc hx [(3, .int (v3 + 1)), (4, .int q6.1), (0, .ref (G.2.1 + 0))] dX9_read_120 2 rfl rfl (by decide) rfl ?_
        refine q_goto hx 56 dX9_read_123 (by decide) ?_
        refine q_sub [2, 0] rfl ?_
        exact ih (v3 + 1) q6.2 h
      · replace h := (if_neg hc7).symm.trans h
        refine q_aload_n hx dX9_read_79 1 rfl ?_
        refine q_get (v := .ref (G.2.1 + 27)) hx q_fl_X9_27 dX9_read_80 (q_ne kd_0 (by decide)) (q_e9 kd_0) rfl ?_
        refine q_iload_n hx dX9_read_83 2 rfl ?_
        refine q_iload hx dX9_read_84 0 rfl ?_
        refine q_bipush (v := (-3)) hx dX9_read_86 (by decide) ?_
        refine q_icmp_ne hx 95 dX9_read_88 (by decide) (fun hc8 => ?_) (fun hc8 => ?_)
        · replace h := (if_neg hc8).symm.trans h
          refine q_iconst (v := 0) hx dX9_read_95 (by decide) ?_
          refine q_sub [1] rfl ?_
          exact s_X9_read_96 hx hr hE hR6 hfl 0 v3 q6.2 h
        · replace h := (if_pos hc8).symm.trans h
          refine q_iconst (v := 1) hx dX9_read_91 (by decide) ?_
          refine q_goto hx 96 dX9_read_92 (by decide) ?_
          refine q_sub [1] rfl ?_
          exact s_X9_read_96 hx hr hE hR6 hfl 1 v3 q6.2 h
def f_X9_read (σ : q_S) : Option (Nat × Int32 × q_S) :=
  Option.bind (f_X1_understand (q_up σ 0 8 0) (σ 0 8)) (fun q1 => if q1.1 < 0 then (Option.bind (f_X3_note q1.2 2) (fun q3 => f_X9_read_56 q_fu 0 q3)) else (some ((2, 0, q_up q1.2 0 10 q1.1))))
set_option maxHeartbeats 4000000 in
set_option maxRecDepth 100000 in
theorem c_X9_read (l : Launch) (G : q_G) (x : q_A) (σ : q_S)   {res : Nat × Int32 × q_S} (h : f_X9_read σ = some res) (hfl : l.stackTraces = false) : q_MetX l yX9_read cX9_read 5 (some .int) 8 G [.ref (G.2.1 + 0)] σ x (q_QiX G x res.1 res.2.1 res.2.2) res.1 res.2.2 := by
  refine q_ofX (by decide) (Nat.le_of_ble_eq_true rfl) (fun X hl0 hx hr hE hR6 => ?_)
  subst hl0
  have hx : q_Cx X G RX9 cX9_read 5 8 := hx
  unfold f_X9_read at h
  show q_Wq X G x 5 (q_MQX X G x (q_QiX G x res.1 res.2.1 res.2.2) res.1 res.2.2) 0 0 0 [(0, .ref (G.2.1 + 0))] [] σ
  refine q_aload_n hx dX9_read_0 0 rfl ?_
  refine q_get (v := .int (σ 0 8)) hx q_fl_X9_58 dX9_read_1 (q_ne kd_0 (by decide)) (q_e9 kd_0) rfl ?_
  refine q_istore_n hx [(1, .int (σ 0 8)), (0, .ref (G.2.1 + 0))] dX9_read_4 (by decide) rfl ?_
  refine q_aload_n hx dX9_read_5 1 rfl ?_
  refine q_iconst (v := 0) hx dX9_read_6 (by decide) ?_
  refine q_put (v := 0) hx q_fl_X9_58 q_fp_9_8 dX9_read_7 (q_ne kd_0 (by decide)) (q_e9 kd_0) (by rw [q_l9]; decide) rfl rfl (by rw [q_e9 kd_0, q_s9_8]) ?_
  refine q_aload_n hx dX9_read_10 1 rfl ?_
  refine q_get (v := .ref (G.2.1 + 284)) hx q_fl_X9_65 dX9_read_11 (q_ne kd_0 (by decide)) (q_e9 kd_0) rfl ?_
  refine q_aload_n hx dX9_read_14 1 rfl ?_
  refine q_get (v := .ref (G.2.1 + 283)) hx q_fl_X9_54 dX9_read_15 (q_ne kd_0 (by decide)) (q_e9 kd_0) rfl ?_
  refine q_iload_n hx dX9_read_18 0 rfl ?_
  refine q_bindE h (fun q1 hq1 h => ?_)
  refine q_callVi (As := [.ref (G.2.1 + 283), .int (σ 0 8)]) (rest := []) hx q_kR0 (c_X1_understand (q_Xl X) G x (q_up σ 0 8 0) (σ 0 8) hq1) q_ml_X9_308 q_mn_X1_understand q_mi_X1_understand q_se_X1_understand (by decide) rfl (Nat.le_of_ble_eq_true rfl) dX9_read_19 (q_ne kd_284 (by decide)) (q_e1 kd_284) rfl rfl rfl ?_
  refine q_istore_n hx [(2, .int q1.1), (1, .int (σ 0 8)), (0, .ref (G.2.1 + 0))] dX9_read_22 (by decide) rfl ?_
  refine q_iload_n hx dX9_read_23 0 rfl ?_
  refine q_if_lt hx 43 dX9_read_24 (by decide) (fun hc2 => ?_) (fun hc2 => ?_)
  · replace h := (if_pos hc2).symm.trans h
    refine q_aload_n hx dX9_read_43 2 rfl ?_
    refine q_get (v := .ref (G.2.1 + 53)) hx q_fl_X9_43 dX9_read_44 (q_ne kd_0 (by decide)) (q_e9 kd_0) rfl ?_
    refine q_aload_n hx dX9_read_47 2 rfl ?_
    refine q_get (v := .ref (G.2.1 + 2)) hx q_fl_X9_20 dX9_read_48 (q_ne kd_0 (by decide)) (q_e9 kd_0) rfl ?_
    refine q_bindE h (fun q3 hq3 h => ?_)
    refine q_callVv (As := [.ref (G.2.1 + 2)]) (rest := []) hx q_kR0 (c_X3_note (q_Xl X) G x q1.2 2 dr_2 hq3) q_ml_X9_79 q_mn_X3_note q_mi_X3_note q_se_X3_note (by decide) rfl (Nat.le_of_ble_eq_true rfl) dX9_read_51 (q_ne kd_53 (by decide)) (q_e3 kd_53) rfl rfl rfl ?_
    refine q_iconst (v := 0) hx dX9_read_54 (by decide) ?_
    refine q_istore_n hx [(3, .int 0), (2, .int q1.1), (1, .int (σ 0 8)), (0, .ref (G.2.1 + 0))] dX9_read_55 (by decide) rfl ?_
    refine q_sub [3, 0] rfl ?_
    exact s_X9_read_56 hx hr hE hR6 hfl q_fu 0 q3 h
  · replace h := (if_neg hc2).symm.trans h
    refine q_aload_n hx dX9_read_27 2 rfl ?_
    refine q_iload_n hx dX9_read_28 0 rfl ?_
    refine q_put (v := q1.1) hx q_fl_X9_69 q_fp_9_10 dX9_read_29 (q_ne kd_0 (by decide)) (q_e9 kd_0) (by rw [q_l9]; decide) rfl rfl (by rw [q_e9 kd_0, q_s9_10]) ?_
    cases h
    exact q_throwSW hx hE hR6 (by decide) hfl q_th_X9_87_312_91 2 (by decide) rfl (by decide) dX9_read_32 dX9_read_35 dX9_read_36 dX9_read_39 dX9_read_42
