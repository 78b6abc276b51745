-- X10_isIn
def f_X10_isIn_118 (σ : q_S) (k34 : Int32 → Int32 → Int32 → Int32 → Int32 → Int32 → Int32 → Option (Int32)) (v1 : Int32) (v2 : Int32) (v3 : Int32) (v6 : Int32) (v7 : Int32) (v8 : Int32) (v9 : Int32) (s0 : Int32) : Option (Int32) :=
  if v3 < v9 then (k34 v1 v2 v3 (s0 ^^^ 0) v8 v9 (v7 + 1)) else (if v6 ≤ v3 then (k34 v1 v2 v3 (s0 ^^^ 0) v8 v9 (v7 + 1)) else (k34 v1 v2 v3 (s0 ^^^ 1) v8 v9 (v7 + 1)))
set_option maxHeartbeats 4000000 in
set_option maxRecDepth 100000 in
theorem s_X10_isIn_118 {X : q_X} {G : q_G} {x : q_A} (σ : q_S) (hx : q_Cx X G RX10 cX10_isIn 10 3) (hr : (q_Xm X).sig.returnType = some .boolean) {res : Int32} {k34 : Int32 → Int32 → Int32 → Int32 → Int32 → Int32 → Int32 → Option (Int32)} (hk34 : ∀ (v1 : Int32) (v2 : Int32) (v3 : Int32) (v4 : Int32) (v5 : Int32) (v6 : Int32) (v7 : Int32), k34 v1 v2 v3 v4 v5 v6 v7 = some res → q_Wq X G x 10 (q_MQ X G (q_Qi G x res σ)) 0 0 34 [(0, .ref (G.2.1 + 292)), (1, .int v1), (2, .int v2), (3, .int v3), (4, .int v4), (5, .int v5), (6, .int v6), (7, .int v7)] [] σ) : ∀ (v1 : Int32) (v2 : Int32) (v3 : Int32) (v6 : Int32) (v7 : Int32) (v8 : Int32) (v9 : Int32) (s0 : Int32), f_X10_isIn_118 σ k34 v1 v2 v3 v6 v7 v8 v9 s0 = some res → q_Wq X G x 10 (q_MQ X G (q_Qi G x res σ)) 0 0 118 [(0, .ref (G.2.1 + 292)), (1, .int v1), (2, .int v2), (3, .int v3), (6, .int v6), (7, .int v7), (8, .int v8), (9, .int v9)] [.int s0] σ := by
  intro v1 v2 v3 v6 v7 v8 v9 s0 h
  unfold f_X10_isIn_118 at h
  refine q_iload hx dX10_isIn_118 7 rfl ?_
  refine q_iload_n hx dX10_isIn_120 3 rfl ?_
  refine q_icmp_gt hx 134 dX10_isIn_121 (by decide) (fun hc15 => ?_) (fun hc15 => ?_)
  · replace h := (if_pos hc15).symm.trans h
    refine q_iconst (v := 0) hx dX10_isIn_134 (by decide) ?_
    refine q_ixor hx dX10_isIn_135 ?_
    refine q_istore hx [(4, .int (s0 ^^^ 0)), (0, .ref (G.2.1 + 292)), (1, .int v1), (2, .int v2), (3, .int v3), (6, .int v6), (7, .int v7), (8, .int v8), (9, .int v9)] dX10_isIn_136 (by decide) rfl ?_
    refine q_iload hx dX10_isIn_138 7 rfl ?_
    refine q_istore hx [(5, .int v8), (4, .int (s0 ^^^ 0)), (0, .ref (G.2.1 + 292)), (1, .int v1), (2, .int v2), (3, .int v3), (6, .int v6), (7, .int v7), (8, .int v8), (9, .int v9)] dX10_isIn_140 (by decide) rfl ?_
    refine q_iload hx dX10_isIn_142 9 rfl ?_
    refine q_istore hx [(6, .int v9), (5, .int v8), (4, .int (s0 ^^^ 0)), (0, .ref (G.2.1 + 292)), (1, .int v1), (2, .int v2), (3, .int v3), (7, .int v7), (8, .int v8), (9, .int v9)] dX10_isIn_144 (by decide) rfl ?_
    refine q_iinc hx [(7, .int (v7 + 1)), (6, .int v9), (5, .int v8), (4, .int (s0 ^^^ 0)), (0, .ref (G.2.1 + 292)), (1, .int v1), (2, .int v2), (3, .int v3), (8, .int v8), (9, .int v9)] dX10_isIn_146 7 rfl rfl (by decide) rfl ?_
    refine q_goto hx 34 dX10_isIn_149 (by decide) ?_
    refine q_sub [4, 5, 6, 7, 3, 2, 1, 0] rfl ?_
    exact hk34 v1 v2 v3 (s0 ^^^ 0) v8 v9 (v7 + 1) h
  · replace h := (if_neg hc15).symm.trans h
    refine q_iload hx dX10_isIn_124 4 rfl ?_
    refine q_iload_n hx dX10_isIn_126 3 rfl ?_
    refine q_icmp_le hx 134 dX10_isIn_127 (by decide) (fun hc16 => ?_) (fun hc16 => ?_)
    · replace h := (if_pos hc16).symm.trans h
      refine q_iconst (v := 0) hx dX10_isIn_134 (by decide) ?_
      refine q_ixor hx dX10_isIn_135 ?_
      refine q_istore hx [(4, .int (s0 ^^^ 0)), (0, .ref (G.2.1 + 292)), (1, .int v1), (2, .int v2), (3, .int v3), (6, .int v6), (7, .int v7), (8, .int v8), (9, .int v9)] dX10_isIn_136 (by decide) rfl ?_
      refine q_iload hx dX10_isIn_138 7 rfl ?_
      refine q_istore hx [(5, .int v8), (4, .int (s0 ^^^ 0)), (0, .ref (G.2.1 + 292)), (1, .int v1), (2, .int v2), (3, .int v3), (6, .int v6), (7, .int v7), (8, .int v8), (9, .int v9)] dX10_isIn_140 (by decide) rfl ?_
      refine q_iload hx dX10_isIn_142 9 rfl ?_
      refine q_istore hx [(6, .int v9), (5, .int v8), (4, .int (s0 ^^^ 0)), (0, .ref (G.2.1 + 292)), (1, .int v1), (2, .int v2), (3, .int v3), (7, .int v7), (8, .int v8), (9, .int v9)] dX10_isIn_144 (by decide) rfl ?_
      refine q_iinc hx [(7, .int (v7 + 1)), (6, .int v9), (5, .int v8), (4, .int (s0 ^^^ 0)), (0, .ref (G.2.1 + 292)), (1, .int v1), (2, .int v2), (3, .int v3), (8, .int v8), (9, .int v9)] dX10_isIn_146 7 rfl rfl (by decide) rfl ?_
      refine q_goto hx 34 dX10_isIn_149 (by decide) ?_
      refine q_sub [4, 5, 6, 7, 3, 2, 1, 0] rfl ?_
      exact hk34 v1 v2 v3 (s0 ^^^ 0) v8 v9 (v7 + 1) h
    · replace h := (if_neg hc16).symm.trans h
      refine q_iconst (v := 1) hx dX10_isIn_130 (by decide) ?_
      refine q_goto hx 135 dX10_isIn_131 (by decide) ?_
      refine q_ixor hx dX10_isIn_135 ?_
      refine q_istore hx [(4, .int (s0 ^^^ 1)), (0, .ref (G.2.1 + 292)), (1, .int v1), (2, .int v2), (3, .int v3), (6, .int v6), (7, .int v7), (8, .int v8), (9, .int v9)] dX10_isIn_136 (by decide) rfl ?_
      refine q_iload hx dX10_isIn_138 7 rfl ?_
      refine q_istore hx [(5, .int v8), (4, .int (s0 ^^^ 1)), (0, .ref (G.2.1 + 292)), (1, .int v1), (2, .int v2), (3, .int v3), (6, .int v6), (7, .int v7), (8, .int v8), (9, .int v9)] dX10_isIn_140 (by decide) rfl ?_
      refine q_iload hx dX10_isIn_142 9 rfl ?_
      refine q_istore hx [(6, .int v9), (5, .int v8), (4, .int (s0 ^^^ 1)), (0, .ref (G.2.1 + 292)), (1, .int v1), (2, .int v2), (3, .int v3), (7, .int v7), (8, .int v8), (9, .int v9)] dX10_isIn_144 (by decide) rfl ?_
      refine q_iinc hx [(7, .int (v7 + 1)), (6, .int v9), (5, .int v8), (4, .int (s0 ^^^ 1)), (0, .ref (G.2.1 + 292)), (1, .int v1), (2, .int v2), (3, .int v3), (8, .int v8), (9, .int v9)] dX10_isIn_146 7 rfl rfl (by decide) rfl ?_
      refine q_goto hx 34 dX10_isIn_149 (by decide) ?_
      refine q_sub [4, 5, 6, 7, 3, 2, 1, 0] rfl ?_
      exact hk34 v1 v2 v3 (s0 ^^^ 1) v8 v9 (v7 + 1) h
def f_X10_isIn_34 (σ : q_S) : Nat → Int32 → Int32 → Int32 → Int32 → Int32 → Int32 → Int32 → Option (Int32)
  | 0, _, _, _, _, _, _, _ => none
  | n + 1, v1, v2, v3, v4, v5, v6, v7 =>
    Option.bind (f_X10_sv σ v1 4) (fun q5 => if q5 ≤ v7 then (if (v4 = 0 ∨ v4 = 1) then some v4 else none) else (Option.bind (f_X10_length σ v1 v7) (fun q8 => Option.bind (f_X10_way σ v1 v7) (fun q9 => Option.bind (f_X10_length σ v1 v7) (fun q10 => Option.bind (f_X10_way σ v1 v7) (fun q11 => if v5 = (v5 + (q8 * ((f_X10_stepX q9)))) then (if v2 < v5 then (f_X10_isIn_34 σ n v1 v2 v3 (v4 ^^^ 0) (v5 + (q8 * ((f_X10_stepX q9)))) (v6 + (q10 * ((f_X10_stepY q11)))) (v7 + 1)) else (if v3 < v6 then (f_X10_isIn_118 σ (f_X10_isIn_34 σ n) v1 v2 v3 v6 v7 (v5 + (q8 * ((f_X10_stepX q9)))) (v6 + (q10 * ((f_X10_stepY q11)))) v4) else (if v3 < (v6 + (q10 * ((f_X10_stepY q11)))) then (f_X10_isIn_34 σ n v1 v2 v3 (v4 ^^^ 1) (v5 + (q8 * ((f_X10_stepX q9)))) (v6 + (q10 * ((f_X10_stepY q11)))) (v7 + 1)) else (f_X10_isIn_118 σ (f_X10_isIn_34 σ n) v1 v2 v3 v6 v7 (v5 + (q8 * ((f_X10_stepX q9)))) (v6 + (q10 * ((f_X10_stepY q11)))) v4)))) else (f_X10_isIn_34 σ n v1 v2 v3 (v4 ^^^ 0) (v5 + (q8 * ((f_X10_stepX q9)))) (v6 + (q10 * ((f_X10_stepY q11)))) (v7 + 1))))))))
set_option maxHeartbeats 4000000 in
set_option maxRecDepth 100000 in
theorem s_X10_isIn_34 {X : q_X} {G : q_G} {x : q_A} (σ : q_S) (hx : q_Cx X G RX10 cX10_isIn 10 3) (hr : (q_Xm X).sig.returnType = some .boolean) {res : Int32} : ∀ (n : Nat) (v1 : Int32) (v2 : Int32) (v3 : Int32) (v4 : Int32) (v5 : Int32) (v6 : Int32) (v7 : Int32), f_X10_isIn_34 σ n v1 v2 v3 v4 v5 v6 v7 = some res → q_Wq X G x 10 (q_MQ X G (q_Qi G x res σ)) 0 0 34 [(0, .ref (G.2.1 + 292)), (1, .int v1), (2, .int v2), (3, .int v3), (4, .int v4), (5, .int v5), (6, .int v6), (7, .int v7)] [] σ := by
  intro n
  induction n with
  | zero => exact fun _ _ _ _ _ _ _ h => nomatch (show (none : Option (Int32)) = some res from h)
  | succ n ih =>
    intro v1 v2 v3 v4 v5 v6 v7 h
    rw [f_X10_isIn_34] at h
    refine q_iload hx dX10_isIn_34 7 rfl ?_
    refine q_aload_n hx dX10_isIn_36 0 rfl ?_
    refine q_iload_n hx dX10_isIn_37 1 rfl ?_
    refine q_iconst (v := 4) hx dX10_isIn_38 (by decide) ?_
    refine q_bindE h (fun q5 hq5 h => ?_)
    refine q_callVi (As := [.int v1, .int 4]) (rest := [.int v7]) hx q_kR0 (c_X10_sv (q_Xl X) G x σ v1 4 hq5) q_ml_X10_111 q_mn_X10_sv q_mi_X10_sv q_se_X10_sv (by decide) rfl (Nat.le_of_ble_eq_true rfl) dX10_isIn_39 (q_ne kd_292 (by decide)) (q_e10 kd_292) rfl rfl rfl ?_
    refine q_icmp_ge hx 152 dX10_isIn_42 (by decide) (fun hc6 => ?_) (fun hc6 => ?_)
    · replace h := (if_pos hc6).symm.trans h
      refine q_iload hx dX10_isIn_152 4 rfl ?_
      by_cases hg7 : (v4 = 0 ∨ v4 = 1)
      case neg => rw [if_neg hg7] at h; exact nomatch h
      replace h := (if_pos hg7).symm.trans h
      cases h
      exact q_zret hx hr (q_zn hg7) dX10_isIn_154
    · replace h := (if_neg hc6).symm.trans h
      refine q_iload hx dX10_isIn_45 5 rfl ?_
      refine q_aload_n hx dX10_isIn_47 0 rfl ?_
      refine q_iload_n hx dX10_isIn_48 1 rfl ?_
      refine q_iload hx dX10_isIn_49 7 rfl ?_
      refine q_bindE h (fun q8 hq8 h => ?_)
      refine q_callVi (As := [.int v1, .int v7]) (rest := [.int v5]) hx q_kR0 (c_X10_length (q_Xl X) G x σ v1 v7 hq8) q_ml_X10_175 q_mn_X10_length q_mi_X10_length q_se_X10_length (by decide) rfl (Nat.le_of_ble_eq_true rfl) dX10_isIn_51 (q_ne kd_292 (by decide)) (q_e10 kd_292) rfl rfl rfl ?_
      refine q_aload_n hx dX10_isIn_54 0 rfl ?_
      refine q_iload_n hx dX10_isIn_55 1 rfl ?_
      refine q_iload hx dX10_isIn_56 7 rfl ?_
      refine q_bindE h (fun q9 hq9 h => ?_)
      refine q_callVi (As := [.int v1, .int v7]) (rest := [.int q8, .int v5]) hx q_kR0 (c_X10_way (q_Xl X) G x σ v1 v7 hq9) q_ml_X10_178 q_mn_X10_way q_mi_X10_way q_se_X10_way (by decide) rfl (Nat.le_of_ble_eq_true rfl) dX10_isIn_58 (q_ne kd_292 (by decide)) (q_e10 kd_292) rfl rfl rfl ?_
      refine q_callSi (As := [.int q9]) (rest := [.int q8, .int v5]) hx q_kR0 (c_X10_stepX (q_Xl X) G x σ q9) q_ml_X10_181 q_mn_X10_stepX q_ms_X10_stepX (by decide) rfl (Nat.le_of_ble_eq_true rfl) dX10_isIn_61 rfl ?_
      refine q_imul hx dX10_isIn_64 ?_
      refine q_iadd hx dX10_isIn_65 ?_
      refine q_istore hx [(8, .int (v5 + (q8 * ((f_X10_stepX q9))))), (0, .ref (G.2.1 + 292)), (1, .int v1), (2, .int v2), (3, .int v3), (4, .int v4), (5, .int v5), (6, .int v6), (7, .int v7)] dX10_isIn_66 (by decide) rfl ?_
      refine q_iload hx dX10_isIn_68 7 rfl ?_
      refine q_aload_n hx dX10_isIn_70 1 rfl ?_
      refine q_iload_n hx dX10_isIn_71 2 rfl ?_
      refine q_iload hx dX10_isIn_72 8 rfl ?_
      refine q_bindE h (fun q10 hq10 h => ?_)
      refine q_callVi (As := [.int v1, .int v7]) (rest := [.int v6]) hx q_kR0 (c_X10_length (q_Xl X) G x σ v1 v7 hq10) q_ml_X10_175 q_mn_X10_length q_mi_X10_length q_se_X10_length (by decide) rfl (Nat.le_of_ble_eq_true rfl) dX10_isIn_74 (q_ne kd_292 (by decide)) (q_e10 kd_292) rfl rfl rfl ?_
      refine q_aload_n hx dX10_isIn_77 1 rfl ?_
      refine q_iload_n hx dX10_isIn_78 2 rfl ?_
      refine q_iload hx dX10_isIn_79 8 rfl ?_
      refine q_bindE h (fun q11 hq11 h => ?_)
      refine q_callVi (As := [.int v1, .int v7]) (rest := [.int q10, .int v6]) hx q_kR0 (c_X10_way (q_Xl X) G x σ v1 v7 hq11) q_ml_X10_178 q_mn_X10_way q_mi_X10_way q_se_X10_way (by decide) rfl (Nat.le_of_ble_eq_true rfl) dX10_isIn_81 (q_ne kd_292 (by decide)) (q_e10 kd_292) rfl rfl rfl ?_
      refine q_callSi (As := [.int q11]) (rest := [.int q10, .int v6]) hx q_kR0 (c_X10_stepY (q_Xl X) G x σ q11) q_ml_X10_184 q_mn_X10_stepY q_ms_X10_stepY (by decide) rfl (Nat.le_of_ble_eq_true rfl) dX10_isIn_84 rfl ?_
      refine q_imul hx dX10_isIn_87 ?_
      refine q_iadd hx dX10_isIn_88 ?_
      refine q_istore hx [(9, .int (v6 + (q10 * ((f_X10_stepY q11))))), (8, .int (v5 + (q8 * ((f_X10_stepX q9))))), (0, .ref (G.2.1 + 292)), (1, .int v1), (2, .int v2), (3, .int v3), (4, .int v4), (5, .int v5), (6, .int v6), (7, .int v7)] dX10_isIn_89 (by decide) rfl ?_
      refine q_iload hx dX10_isIn_91 6 rfl ?_
      refine q_iload hx dX10_isIn_93 7 rfl ?_
      refine q_iload hx dX10_isIn_95 1 rfl ?_
      refine q_icmp_ne hx 134 dX10_isIn_97 (by decide) (fun hc12 => ?_) (fun hc12 => ?_)
      · replace h := (if_neg hc12).symm.trans h
        refine q_iconst (v := 0) hx dX10_isIn_134 (by decide) ?_
        refine q_ixor hx dX10_isIn_135 ?_
        refine q_istore hx [(4, .int (v4 ^^^ 0)), (9, .int (v6 + (q10 * ((f_X10_stepY q11))))), (8, .int (v5 + (q8 * ((f_X10_stepX q9))))), (0, .ref (G.2.1 + 292)), (1, .int v1), (2, .int v2), (3, .int v3), (5, .int v5), (6, .int v6), (7, .int v7)] dX10_isIn_136 (by decide) rfl ?_
        refine q_iload hx dX10_isIn_138 2 rfl ?_
        refine q_istore hx [(5, .int (v5 + (q8 * ((f_X10_stepX q9))))), (4, .int (v4 ^^^ 0)), (9, .int (v6 + (q10 * ((f_X10_stepY q11))))), (8, .int (v5 + (q8 * ((f_X10_stepX q9))))), (0, .ref (G.2.1 + 292)), (1, .int v1), (2, .int v2), (3, .int v3), (6, .int v6), (7, .int v7)] dX10_isIn_140 (by decide) rfl ?_
        refine q_iload hx dX10_isIn_142 2 rfl ?_
        refine q_istore hx [(6, .int (v6 + (q10 * ((f_X10_stepY q11))))), (5, .int (v5 + (q8 * ((f_X10_stepX q9))))), (4, .int (v4 ^^^ 0)), (9, .int (v6 + (q10 * ((f_X10_stepY q11))))), (8, .int (v5 + (q8 * ((f_X10_stepX q9))))), (0, .ref (G.2.1 + 292)), (1, .int v1), (2, .int v2), (3, .int v3), (7, .int v7)] dX10_isIn_144 (by decide) rfl ?_
        refine q_iinc hx [(7, .int (v7 + 1)), (6, .int (v6 + (q10 * ((f_X10_stepY q11))))), (5, .int (v5 + (q8 * ((f_X10_stepX q9))))), (4, .int (v4 ^^^ 0)), (9, .int (v6 + (q10 * ((f_X10_stepY q11))))), (8, .int (v5 + (q8 * ((f_X10_stepX q9))))), (0, .ref (G.2.1 + 292)), (1, .int v1), (2, .int v2), (3, .int v3)] dX10_isIn_146 9 rfl rfl (by decide) rfl ?_
        refine q_goto hx 34 dX10_isIn_149 (by decide) ?_
        refine q_sub [6, 7, 8, 9, 3, 2, 1, 0] rfl ?_
        exact ih v1 v2 v3 (v4 ^^^ 0) (v5 + (q8 * ((f_X10_stepX q9)))) (v6 + (q10 * ((f_X10_stepY q11)))) (v7 + 1) h
      · replace h := (if_pos hc12).symm.trans h
        refine q_iload hx dX10_isIn_100 7 rfl ?_
        refine q_iload_n hx dX10_isIn_102 4 rfl ?_
        refine q_icmp_gt hx 134 dX10_isIn_103 (by decide) (fun hc13 => ?_) (fun hc13 => ?_)
        · replace h := (if_pos hc13).symm.trans h
          refine q_iconst (v := 0) hx dX10_isIn_134 (by decide) ?_
          refine q_ixor hx dX10_isIn_135 ?_
          refine q_istore hx [(4, .int (v4 ^^^ 0)), (9, .int (v6 + (q10 * ((f_X10_stepY q11))))), (8, .int (v5 + (q8 * ((f_X10_stepX q9))))), (0, .ref (G.2.1 + 292)), (1, .int v1), (2, .int v2), (3, .int v3), (5, .int v5), (6, .int v6), (7, .int v7)] dX10_isIn_136 (by decide) rfl ?_
          refine q_iload hx dX10_isIn_138 2 rfl ?_
          refine q_istore hx [(5, .int (v5 + (q8 * ((f_X10_stepX q9))))), (4, .int (v4 ^^^ 0)), (9, .int (v6 + (q10 * ((f_X10_stepY q11))))), (8, .int (v5 + (q8 * ((f_X10_stepX q9))))), (0, .ref (G.2.1 + 292)), (1, .int v1), (2, .int v2), (3, .int v3), (6, .int v6), (7, .int v7)] dX10_isIn_140 (by decide) rfl ?_
          refine q_iload hx dX10_isIn_142 2 rfl ?_
          refine q_istore hx [(6, .int (v6 + (q10 * ((f_X10_stepY q11))))), (5, .int (v5 + (q8 * ((f_X10_stepX q9))))), (4, .int (v4 ^^^ 0)), (9, .int (v6 + (q10 * ((f_X10_stepY q11))))), (8, .int (v5 + (q8 * ((f_X10_stepX q9))))), (0, .ref (G.2.1 + 292)), (1, .int v1), (2, .int v2), (3, .int v3), (7, .int v7)] dX10_isIn_144 (by decide) rfl ?_
          refine q_iinc hx [(7, .int (v7 + 1)), (6, .int (v6 + (q10 * ((f_X10_stepY q11))))), (5, .int (v5 + (q8 * ((f_X10_stepX q9))))), (4, .int (v4 ^^^ 0)), (9, .int (v6 + (q10 * ((f_X10_stepY q11))))), (8, .int (v5 + (q8 * ((f_X10_stepX q9))))), (0, .ref (G.2.1 + 292)), (1, .int v1), (2, .int v2), (3, .int v3)] dX10_isIn_146 9 rfl rfl (by decide) rfl ?_
          refine q_goto hx 34 dX10_isIn_149 (by decide) ?_
          refine q_sub [6, 7, 8, 9, 3, 2, 1, 0] rfl ?_
          exact ih v1 v2 v3 (v4 ^^^ 0) (v5 + (q8 * ((f_X10_stepX q9)))) (v6 + (q10 * ((f_X10_stepY q11)))) (v7 + 1) h
        · replace h := (if_neg hc13).symm.trans h
          refine q_iload hx dX10_isIn_106 8 rfl ?_
          refine q_iload_n hx dX10_isIn_108 5 rfl ?_
          refine q_icmp_gt hx 118 dX10_isIn_109 (by decide) (fun hc14 => ?_) (fun hc14 => ?_)
          · replace h := (if_pos hc14).symm.trans h
            refine q_sub [2, 3, 4, 5, 8, 9, 1, 0] rfl ?_
            exact s_X10_isIn_118 σ hx hr (fun v1 v2 v3 v4 v5 v6 v7 h => ih v1 v2 v3 v4 v5 v6 v7 h) v1 v2 v3 v6 v7 (v5 + (q8 * ((f_X10_stepX q9)))) (v6 + (q10 * ((f_X10_stepY q11)))) v4 h
          · replace h := (if_neg hc14).symm.trans h
            refine q_iload hx dX10_isIn_112 0 rfl ?_
            refine q_iload_n hx dX10_isIn_114 5 rfl ?_
            refine q_icmp_gt hx 130 dX10_isIn_115 (by decide) (fun hc17 => ?_) (fun hc17 => ?_)
            · replace h := (if_pos hc17).symm.trans h
              refine q_iconst (v := 1) hx dX10_isIn_130 (by decide) ?_
              refine q_goto hx 135 dX10_isIn_131 (by decide) ?_
              refine q_ixor hx dX10_isIn_135 ?_
              refine q_istore hx [(4, .int (v4 ^^^ 1)), (9, .int (v6 + (q10 * ((f_X10_stepY q11))))), (8, .int (v5 + (q8 * ((f_X10_stepX q9))))), (0, .ref (G.2.1 + 292)), (1, .int v1), (2, .int v2), (3, .int v3), (5, .int v5), (6, .int v6), (7, .int v7)] dX10_isIn_136 (by decide) rfl ?_
              refine q_iload hx dX10_isIn_138 2 rfl ?_
              refine q_istore hx [(5, .int (v5 + (q8 * ((f_X10_stepX q9))))), (4, .int (v4 ^^^ 1)), (9, .int (v6 + (q10 * ((f_X10_stepY q11))))), (8, .int (v5 + (q8 * ((f_X10_stepX q9))))), (0, .ref (G.2.1 + 292)), (1, .int v1), (2, .int v2), (3, .int v3), (6, .int v6), (7, .int v7)] dX10_isIn_140 (by decide) rfl ?_
              refine q_iload hx dX10_isIn_142 2 rfl ?_
              refine q_istore hx [(6, .int (v6 + (q10 * ((f_X10_stepY q11))))), (5, .int (v5 + (q8 * ((f_X10_stepX q9))))), (4, .int (v4 ^^^ 1)), (9, .int (v6 + (q10 * ((f_X10_stepY q11))))), (8, .int (v5 + (q8 * ((f_X10_stepX q9))))), (0, .ref (G.2.1 + 292)), (1, .int v1), (2, .int v2), (3, .int v3), (7, .int v7)] dX10_isIn_144 (by decide) rfl ?_
              refine q_iinc hx [(7, .int (v7 + 1)), (6, .int (v6 + (q10 * ((f_X10_stepY q11))))), (5, .int (v5 + (q8 * ((f_X10_stepX q9))))), (4, .int (v4 ^^^ 1)), (9, .int (v6 + (q10 * ((f_X10_stepY q11))))), (8, .int (v5 + (q8 * ((f_X10_stepX q9))))), (0, .ref (G.2.1 + 292)), (1, .int v1), (2, .int v2), (3, .int v3)] dX10_isIn_146 9 rfl rfl (by decide) rfl ?_
              refine q_goto hx 34 dX10_isIn_149 (by decide) ?_
              refine q_sub [6, 7, 8, 9, 3, 2, 1, 0] rfl ?_
              exact ih v1 v2 v3 (v4 ^^^ 1) (v5 + (q8 * ((f_X10_stepX q9)))) (v6 + (q10 * ((f_X10_stepY q11)))) (v7 + 1) h
            · replace h := (if_neg hc17).symm.trans h
              refine q_sub [2, 3, 4, 5, 8, 9, 1, 0] rfl ?_
              exact s_X10_isIn_118 σ hx hr (fun v1 v2 v3 v4 v5 v6 v7 h => ih v1 v2 v3 v4 v5 v6 v7 h) v1 v2 v3 v6 v7 (v5 + (q8 * ((f_X10_stepX q9)))) (v6 + (q10 * ((f_X10_stepY q11)))) v4 h
def f_X10_isIn (σ : q_S) (a1 : Int32) (a2 : Int32) (a3 : Int32) : Option (Int32) :=
  Option.bind (f_X10_sv σ a1 1) (fun q1 => if q1 = 2 then (Option.bind (f_X10_sv σ a1 2) (fun q3 => Option.bind (f_X10_sv σ a1 3) (fun q4 => f_X10_isIn_34 σ q_fu a1 a2 a3 0 q3 q4 0))) else (some 0))
set_option maxHeartbeats 4000000 in
set_option maxRecDepth 100000 in
theorem c_X10_isIn (l : Launch) (G : q_G) (x : q_A) (σ : q_S) (a1 : Int32) (a2 : Int32) (a3 : Int32)  {res : Int32} (h : f_X10_isIn σ a1 a2 a3 = some res) : q_Met l yX10_isIn cX10_isIn 10 (some .boolean) 3 G [.ref (G.2.1 + 292), .int a1, .int a2, .int a3] σ x (q_Qi G x res σ) := by
  refine q_of (by decide) (Nat.le_of_ble_eq_true rfl) (fun X hl0 hx hr => ?_)
  subst hl0
  have hx : q_Cx X G RX10 cX10_isIn 10 3 := hx
  unfold f_X10_isIn at h
  show q_Wq X G x 10 (q_MQ X G (q_Qi G x res σ)) 0 0 0 [(0, .ref (G.2.1 + 292)), (1, .int a1), (2, .int a2), (3, .int a3)] [] σ
  refine q_aload_n hx dX10_isIn_0 0 rfl ?_
  refine q_iload_n hx dX10_isIn_1 1 rfl ?_
  refine q_iconst (v := 1) hx dX10_isIn_2 (by decide) ?_
  refine q_bindE h (fun q1 hq1 h => ?_)
  refine q_callVi (As := [.int a1, .int 1]) (rest := []) hx q_kR0 (c_X10_sv (q_Xl X) G x σ a1 1 hq1) q_ml_X10_111 q_mn_X10_sv q_mi_X10_sv q_se_X10_sv (by decide) rfl (Nat.le_of_ble_eq_true rfl) dX10_isIn_3 (q_ne kd_292 (by decide)) (q_e10 kd_292) rfl rfl rfl ?_
  refine q_iconst (v := 2) hx dX10_isIn_6 (by decide) ?_
  refine q_icmp_eq hx 12 dX10_isIn_7 (by decide) (fun hc2 => ?_) (fun hc2 => ?_)
  · replace h := (if_pos hc2).symm.trans h
    refine q_iconst (v := 0) hx dX10_isIn_12 (by decide) ?_
    refine q_istore hx [(4, .int 0), (0, .ref (G.2.1 + 292)), (1, .int a1), (2, .int a2), (3, .int a3)] dX10_isIn_13 (by decide) rfl ?_
    refine q_aload_n hx dX10_isIn_15 1 rfl ?_
    refine q_iload_n hx dX10_isIn_16 2 rfl ?_
    refine q_iconst (v := 2) hx dX10_isIn_17 (by decide) ?_
    refine q_bindE h (fun q3 hq3 h => ?_)
    refine q_callVi (As := [.int a1, .int 2]) (rest := []) hx q_kR0 (c_X10_sv (q_Xl X) G x σ a1 2 hq3) q_ml_X10_111 q_mn_X10_sv q_mi_X10_sv q_se_X10_sv (by decide) rfl (Nat.le_of_ble_eq_true rfl) dX10_isIn_18 (q_ne kd_292 (by decide)) (q_e10 kd_292) rfl rfl rfl ?_
    refine q_istore hx [(5, .int q3), (4, .int 0), (0, .ref (G.2.1 + 292)), (1, .int a1), (2, .int a2), (3, .int a3)] dX10_isIn_21 (by decide) rfl ?_
    refine q_aload_n hx dX10_isIn_23 2 rfl ?_
    refine q_iload_n hx dX10_isIn_24 3 rfl ?_
    refine q_iconst (v := 3) hx dX10_isIn_25 (by decide) ?_
    refine q_bindE h (fun q4 hq4 h => ?_)
    refine q_callVi (As := [.int a1, .int 3]) (rest := []) hx q_kR0 (c_X10_sv (q_Xl X) G x σ a1 3 hq4) q_ml_X10_111 q_mn_X10_sv q_mi_X10_sv q_se_X10_sv (by decide) rfl (Nat.le_of_ble_eq_true rfl) dX10_isIn_26 (q_ne kd_292 (by decide)) (q_e10 kd_292) rfl rfl rfl ?_
    refine q_istore hx [(6, .int q4), (5, .int q3), (4, .int 0), (0, .ref (G.2.1 + 292)), (1, .int a1), (2, .int a2), (3, .int a3)] dX10_isIn_29 (by decide) rfl ?_
    refine q_iconst (v := 0) hx dX10_isIn_31 (by decide) ?_
    refine q_istore hx [(7, .int 0), (6, .int q4), (5, .int q3), (4, .int 0), (0, .ref (G.2.1 + 292)), (1, .int a1), (2, .int a2), (3, .int a3)] dX10_isIn_32 (by decide) rfl ?_
    refine q_sub [4, 5, 6, 7, 3, 2, 1, 0] rfl ?_
    exact s_X10_isIn_34 σ hx hr q_fu a1 a2 a3 0 q3 q4 0 h
  · replace h := (if_neg hc2).symm.trans h
    refine q_iconst (v := 0) hx dX10_isIn_10 (by decide) ?_
    cases h
    exact q_zret hx hr rfl dX10_isIn_11
-- X10_areaOf
def f_X10_areaOf_4 (σ : q_S) : Nat → Int32 → Int32 → Int32 → Option (Int32)
  | 0, _, _, _ => none
  | n + 1, v1, v2, v3 =>
    if 96 ≤ v3 then (some v2) else (Option.bind (f_X10_isIn σ v1 (v3 - v3 / 12 * 12) (v3 / 12)) (fun q2 => if q2 = 0 then (f_X10_areaOf_4 σ n v1 (v2 + 0) (v3 + 1)) else (f_X10_areaOf_4 σ n v1 (v2 + 1) (v3 + 1))))
set_option maxHeartbeats 4000000 in
set_option maxRecDepth 100000 in
theorem s_X10_areaOf_4 {X : q_X} {G : q_G} {x : q_A} (σ : q_S) (hx : q_Cx X G RX10 cX10_areaOf 4 4) (hr : (q_Xm X).sig.returnType = some .int) {res : Int32} : ∀ (n : Nat) (v1 : Int32) (v2 : Int32) (v3 : Int32), f_X10_areaOf_4 σ n v1 v2 v3 = some res → q_Wq X G x 4 (q_MQ X G (q_Qi G x res σ)) 0 0 4 [(0, .ref (G.2.1 + 292)), (1, .int v1), (2, .int v2), (3, .int v3)] [] σ := by
  intro n
  induction n with
  | zero => exact fun _ _ _ h => nomatch (show (none : Option (Int32)) = some res from h)
  | succ n ih =>
    intro v1 v2 v3 h
    rw [f_X10_areaOf_4] at h
    refine q_iload_n hx dX10_areaOf_4 3 rfl ?_
    refine q_bipush (v := 96) hx dX10_areaOf_5 (by decide) ?_
    refine q_icmp_ge hx 40 dX10_areaOf_7 (by decide) (fun hc1 => ?_) (fun hc1 => ?_)
    · replace h := (if_pos hc1).symm.trans h
      refine q_iload_n hx dX10_areaOf_40 2 rfl ?_
      cases h
      exact q_iret hx hr dX10_areaOf_41
    · replace h := (if_neg hc1).symm.trans h
      refine q_iload_n hx dX10_areaOf_10 2 rfl ?_
      refine q_aload_n hx dX10_areaOf_11 0 rfl ?_
      refine q_iload_n hx dX10_areaOf_12 1 rfl ?_
      refine q_iload_n hx dX10_areaOf_13 3 rfl ?_
      refine q_bipush (v := 12) hx dX10_areaOf_14 (by decide) ?_
      refine q_irem hx dX10_areaOf_16 (by decide) ?_
      refine q_iload_n hx dX10_areaOf_17 3 rfl ?_
      refine q_bipush (v := 12) hx dX10_areaOf_18 (by decide) ?_
      refine q_idiv hx dX10_areaOf_20 (by decide) ?_
      refine q_bindE h (fun q2 hq2 h => ?_)
      refine q_callVi (As := [.int v1, .int (v3 - v3 / 12 * 12), .int (v3 / 12)]) (rest := [.int v2]) hx q_kR0 (c_X10_isIn (q_Xl X) G x σ v1 (v3 - v3 / 12 * 12) (v3 / 12) hq2) q_ml_X10_258 q_mn_X10_isIn q_mi_X10_isIn q_se_X10_isIn (by decide) rfl (Nat.le_of_ble_eq_true rfl) dX10_areaOf_21 (q_ne kd_292 (by decide)) (q_e10 kd_292) rfl rfl rfl ?_
      refine q_if_eq hx 31 dX10_areaOf_24 (by decide) (fun hc3 => ?_) (fun hc3 => ?_)
      · replace h := (if_pos hc3).symm.trans h
        refine q_iconst (v := 0) hx dX10_areaOf_31 (by decide) ?_
        refine q_iadd hx dX10_areaOf_32 ?_
        refine q_istore_n hx [(2, .int (v2 + 0)), (0, .ref (G.2.1 + 292)), (1, .int v1), (3, .int v3)] dX10_areaOf_33 (by decide) rfl ?_
        refine q_iinc hx [(3, .int (v3 + 1)), (2, .int (v2 + 0)), (0, .ref (G.2.1 + 292)), (1, .int v1)] dX10_areaOf_34 3 rfl rfl (by decide) rfl ?_
        refine q_goto hx 4 dX10_areaOf_37 (by decide) ?_
        refine q_sub [2, 3, 1, 0] rfl ?_
        exact ih v1 (v2 + 0) (v3 + 1) h
      · replace h := (if_neg hc3).symm.trans h
        refine q_iconst (v := 1) hx dX10_areaOf_27 (by decide) ?_
        refine q_goto hx 32 dX10_areaOf_28 (by decide) ?_
        refine q_iadd hx dX10_areaOf_32 ?_
        refine q_istore_n hx [(2, .int (v2 + 1)), (0, .ref (G.2.1 + 292)), (1, .int v1), (3, .int v3)] dX10_areaOf_33 (by decide) rfl ?_
        refine q_iinc hx [(3, .int (v3 + 1)), (2, .int (v2 + 1)), (0, .ref (G.2.1 + 292)), (1, .int v1)] dX10_areaOf_34 3 rfl rfl (by decide) rfl ?_
        refine q_goto hx 4 dX10_areaOf_37 (by decide) ?_
        refine q_sub [2, 3, 1, 0] rfl ?_
        exact ih v1 (v2 + 1) (v3 + 1) h
def f_X10_areaOf (σ : q_S) (a1 : Int32) : Option (Int32) :=
  f_X10_areaOf_4 σ q_fu a1 0 0
set_option maxHeartbeats 4000000 in
set_option maxRecDepth 100000 in
theorem c_X10_areaOf (l : Launch) (G : q_G) (x : q_A) (σ : q_S) (a1 : Int32)  {res : Int32} (h : f_X10_areaOf σ a1 = some res) : q_Met l yX10_areaOf cX10_areaOf 4 (some .int) 4 G [.ref (G.2.1 + 292), .int a1] σ x (q_Qi G x res σ) := by
  refine q_of (by decide) (Nat.le_of_ble_eq_true rfl) (fun X hl0 hx hr => ?_)
  subst hl0
  have hx : q_Cx X G RX10 cX10_areaOf 4 4 := hx
  unfold f_X10_areaOf at h
  show q_Wq X G x 4 (q_MQ X G (q_Qi G x res σ)) 0 0 0 [(0, .ref (G.2.1 + 292)), (1, .int a1)] [] σ
  refine q_iconst (v := 0) hx dX10_areaOf_0 (by decide) ?_
  refine q_istore_n hx [(2, .int 0), (0, .ref (G.2.1 + 292)), (1, .int a1)] dX10_areaOf_1 (by decide) rfl ?_
  refine q_iconst (v := 0) hx dX10_areaOf_2 (by decide) ?_
  refine q_istore_n hx [(3, .int 0), (2, .int 0), (0, .ref (G.2.1 + 292)), (1, .int a1)] dX10_areaOf_3 (by decide) rfl ?_
  refine q_sub [2, 3, 1, 0] rfl ?_
  exact s_X10_areaOf_4 σ hx hr q_fu a1 0 0 h
-- X10_bends
def f_X10_bends_38 : Nat → Int32 → Int32 → Int32 → Int32 → Int32 → Int32 → Int32 → Int32 → q_S → Option (Int32 × q_S)
  | 0, _, _, _, _, _, _, _, _, _ => none
  | n + 1, v1, v2, v3, v4, v5, v6, v7, v8, σ =>
    if v8 ≤ v2 then (Option.bind (f_X10_ls σ v1 (5 + (2 * v2)) v6) (fun q5 => Option.bind (f_X10_ls q5 v1 ((5 + (2 * v2)) + 1) ((f_X10_size v3))) (fun q6 => Option.bind (f_X10_ls q6 v1 ((5 + (2 * v2)) + 2) v4) (fun q7 => Option.bind (f_X10_ls q7 v1 ((5 + (2 * v2)) + 3) v5) (fun q8 => Option.bind (f_X10_ls q8 v1 ((5 + (2 * v2)) + 4) ((v6 + 2) - (v6 + 2) / 4 * 4)) (fun q9 => Option.bind (f_X10_ls q9 v1 ((5 + (2 * v2)) + 5) ((f_X10_size v3))) (fun q10 => Option.bind (f_X10_ls q10 v1 4 (v7 + 2)) (fun q11 => Option.bind (f_X10_areaOf (q_up q11 293 3 ((q11 293 3) + 1)) v1) (fun q12 => some ((q12, q_up q11 293 3 ((q11 293 3) + 1)))))))))))) else (Option.bind (f_X10_way σ v1 v8) (fun q13 => Option.bind (f_X10_ls σ v1 ((5 + (2 * v8)) + 4) q13) (fun q14 => Option.bind (f_X10_length q14 v1 v8) (fun q15 => Option.bind (f_X10_ls q14 v1 ((5 + (2 * v8)) + 5) q15) (fun q16 => f_X10_bends_38 n v1 v2 v3 v4 v5 v6 v7 (v8 + (-1)) q16)))))
set_option maxHeartbeats 4000000 in
set_option maxRecDepth 100000 in
theorem s_X10_bends_38 {X : q_X} {G : q_G} {x : q_A} (hx : q_Cx X G RX10 cX10_bends 9 5) (hr : (q_Xm X).sig.returnType = some .int) {res : Int32 × q_S} : ∀ (n : Nat) (v1 : Int32) (v2 : Int32) (v3 : Int32) (v4 : Int32) (v5 : Int32) (v6 : Int32) (v7 : Int32) (v8 : Int32) (σ : q_S), f_X10_bends_38 n v1 v2 v3 v4 v5 v6 v7 v8 σ = some res → q_Wq X G x 9 (q_MQ X G (q_Qi G x res.1 res.2)) 0 0 38 [(0, .ref (G.2.1 + 292)), (1, .int v1), (2, .int v2), (3, .int v3), (4, .int v4), (5, .int v5), (6, .int v6), (7, .int v7), (8, .int v8)] [] σ := by
  intro n
  induction n with
  | zero => exact fun _ _ _ _ _ _ _ _ _ h => nomatch (show (none : Option (Int32 × q_S)) = some res from h)
  | succ n ih =>
    intro v1 v2 v3 v4 v5 v6 v7 v8 σ h
    rw [f_X10_bends_38] at h
    refine q_iload hx dX10_bends_38 8 rfl ?_
    refine q_iload_n hx dX10_bends_40 2 rfl ?_
    refine q_icmp_le hx 90 dX10_bends_41 (by decide) (fun hc4 => ?_) (fun hc4 => ?_)
    · replace h := (if_pos hc4).symm.trans h
      refine q_aload_n hx dX10_bends_90 0 rfl ?_
      refine q_iload_n hx dX10_bends_91 1 rfl ?_
      refine q_iconst (v := 5) hx dX10_bends_92 (by decide) ?_
      refine q_iconst (v := 2) hx dX10_bends_93 (by decide) ?_
      refine q_iload_n hx dX10_bends_94 2 rfl ?_
      refine q_imul hx dX10_bends_95 ?_
      refine q_iadd hx dX10_bends_96 ?_
      refine q_iload hx dX10_bends_97 6 rfl ?_
      refine q_bindE h (fun q5 hq5 h => ?_)
      refine q_callVv (As := [.int v1, .int (5 + (2 * v2)), .int v6]) (rest := []) hx q_kR0 (c_X10_ls (q_Xl X) G x σ v1 (5 + (2 * v2)) v6 hq5) q_ml_X10_123 q_mn_X10_ls q_mi_X10_ls q_se_X10_ls (by decide) rfl (Nat.le_of_ble_eq_true rfl) dX10_bends_99 (q_ne kd_292 (by decide)) (q_e10 kd_292) rfl rfl rfl ?_
      refine q_aload_n hx dX10_bends_102 0 rfl ?_
      refine q_iload_n hx dX10_bends_103 1 rfl ?_
      refine q_iconst (v := 5) hx dX10_bends_104 (by decide) ?_
      refine q_iconst (v := 2) hx dX10_bends_105 (by decide) ?_
      refine q_iload_n hx dX10_bends_106 2 rfl ?_
      refine q_imul hx dX10_bends_107 ?_
      refine q_iadd hx dX10_bends_108 ?_
      refine q_iconst (v := 1) hx dX10_bends_109 (by decide) ?_
      refine q_iadd hx dX10_bends_110 ?_
      refine q_iload_n hx dX10_bends_111 3 rfl ?_
      refine q_callSi (As := [.int v3]) (rest := [.int ((5 + (2 * v2)) + 1), .int v1, .ref (G.2.1 + 292)]) hx q_kR0 (c_X10_size (q_Xl X) G x q5 v3) q_ml_X10_201 q_mn_X10_size q_ms_X10_size (by decide) rfl (Nat.le_of_ble_eq_true rfl) dX10_bends_112 rfl ?_
      refine q_bindE h (fun q6 hq6 h => ?_)
      refine q_callVv (As := [.int v1, .int ((5 + (2 * v2)) + 1), .int ((f_X10_size v3))]) (rest := []) hx q_kR0 (c_X10_ls (q_Xl X) G x q5 v1 ((5 + (2 * v2)) + 1) ((f_X10_size v3)) hq6) q_ml_X10_123 q_mn_X10_ls q_mi_X10_ls q_se_X10_ls (by decide) rfl (Nat.le_of_ble_eq_true rfl) dX10_bends_115 (q_ne kd_292 (by decide)) (q_e10 kd_292) rfl rfl rfl ?_
      refine q_aload_n hx dX10_bends_118 0 rfl ?_
      refine q_iload_n hx dX10_bends_119 1 rfl ?_
      refine q_iconst (v := 5) hx dX10_bends_120 (by decide) ?_
      refine q_iconst (v := 2) hx dX10_bends_121 (by decide) ?_
      refine q_iload_n hx dX10_bends_122 2 rfl ?_
      refine q_imul hx dX10_bends_123 ?_
      refine q_iadd hx dX10_bends_124 ?_
      refine q_iconst (v := 2) hx dX10_bends_125 (by decide) ?_
      refine q_iadd hx dX10_bends_126 ?_
      refine q_iload hx dX10_bends_127 4 rfl ?_
      refine q_bindE h (fun q7 hq7 h => ?_)
      refine q_callVv (As := [.int v1, .int ((5 + (2 * v2)) + 2), .int v4]) (rest := []) hx q_kR0 (c_X10_ls (q_Xl X) G x q6 v1 ((5 + (2 * v2)) + 2) v4 hq7) q_ml_X10_123 q_mn_X10_ls q_mi_X10_ls q_se_X10_ls (by decide) rfl (Nat.le_of_ble_eq_true rfl) dX10_bends_129 (q_ne kd_292 (by decide)) (q_e10 kd_292) rfl rfl rfl ?_
      refine q_aload_n hx dX10_bends_132 0 rfl ?_
      refine q_iload_n hx dX10_bends_133 1 rfl ?_
      refine q_iconst (v := 5) hx dX10_bends_134 (by decide) ?_
      refine q_iconst (v := 2) hx dX10_bends_135 (by decide) ?_
      refine q_iload_n hx dX10_bends_136 2 rfl ?_
      refine q_imul hx dX10_bends_137 ?_
      refine q_iadd hx dX10_bends_138 ?_
      refine q_iconst (v := 3) hx dX10_bends_139 (by decide) ?_
      refine q_iadd hx dX10_bends_140 ?_
      refine q_iload hx dX10_bends_141 5 rfl ?_
      refine q_bindE h (fun q8 hq8 h => ?_)
      refine q_callVv (As := [.int v1, .int ((5 + (2 * v2)) + 3), .int v5]) (rest := []) hx q_kR0 (c_X10_ls (q_Xl X) G x q7 v1 ((5 + (2 * v2)) + 3) v5 hq8) q_ml_X10_123 q_mn_X10_ls q_mi_X10_ls q_se_X10_ls (by decide) rfl (Nat.le_of_ble_eq_true rfl) dX10_bends_143 (q_ne kd_292 (by decide)) (q_e10 kd_292) rfl rfl rfl ?_
      refine q_aload_n hx dX10_bends_146 0 rfl ?_
      refine q_iload_n hx dX10_bends_147 1 rfl ?_
      refine q_iconst (v := 5) hx dX10_bends_148 (by decide) ?_
      refine q_iconst (v := 2) hx dX10_bends_149 (by decide) ?_
      refine q_iload_n hx dX10_bends_150 2 rfl ?_
      refine q_imul hx dX10_bends_151 ?_
      refine q_iadd hx dX10_bends_152 ?_
      refine q_iconst (v := 4) hx dX10_bends_153 (by decide) ?_
      refine q_iadd hx dX10_bends_154 ?_
      refine q_iload hx dX10_bends_155 6 rfl ?_
      refine q_iconst (v := 2) hx dX10_bends_157 (by decide) ?_
      refine q_iadd hx dX10_bends_158 ?_
      refine q_iconst (v := 4) hx dX10_bends_159 (by decide) ?_
      refine q_irem hx dX10_bends_160 (by decide) ?_
      refine q_bindE h (fun q9 hq9 h => ?_)
      refine q_callVv (As := [.int v1, .int ((5 + (2 * v2)) + 4), .int ((v6 + 2) - (v6 + 2) / 4 * 4)]) (rest := []) hx q_kR0 (c_X10_ls (q_Xl X) G x q8 v1 ((5 + (2 * v2)) + 4) ((v6 + 2) - (v6 + 2) / 4 * 4) hq9) q_ml_X10_123 q_mn_X10_ls q_mi_X10_ls q_se_X10_ls (by decide) rfl (Nat.le_of_ble_eq_true rfl) dX10_bends_161 (q_ne kd_292 (by decide)) (q_e10 kd_292) rfl rfl rfl ?_
      refine q_aload_n hx dX10_bends_164 0 rfl ?_
      refine q_iload_n hx dX10_bends_165 1 rfl ?_
      refine q_iconst (v := 5) hx dX10_bends_166 (by decide) ?_
      refine q_iconst (v := 2) hx dX10_bends_167 (by decide) ?_
      refine q_iload_n hx dX10_bends_168 2 rfl ?_
      refine q_imul hx dX10_bends_169 ?_
      refine q_iadd hx dX10_bends_170 ?_
      refine q_iconst (v := 5) hx dX10_bends_171 (by decide) ?_
      refine q_iadd hx dX10_bends_172 ?_
      refine q_iload_n hx dX10_bends_173 3 rfl ?_
      refine q_callSi (As := [.int v3]) (rest := [.int ((5 + (2 * v2)) + 5), .int v1, .ref (G.2.1 + 292)]) hx q_kR0 (c_X10_size (q_Xl X) G x q9 v3) q_ml_X10_201 q_mn_X10_size q_ms_X10_size (by decide) rfl (Nat.le_of_ble_eq_true rfl) dX10_bends_174 rfl ?_
      refine q_bindE h (fun q10 hq10 h => ?_)
      refine q_callVv (As := [.int v1, .int ((5 + (2 * v2)) + 5), .int ((f_X10_size v3))]) (rest := []) hx q_kR0 (c_X10_ls (q_Xl X) G x q9 v1 ((5 + (2 * v2)) + 5) ((f_X10_size v3)) hq10) q_ml_X10_123 q_mn_X10_ls q_mi_X10_ls q_se_X10_ls (by decide) rfl (Nat.le_of_ble_eq_true rfl) dX10_bends_177 (q_ne kd_292 (by decide)) (q_e10 kd_292) rfl rfl rfl ?_
      refine q_aload_n hx dX10_bends_180 0 rfl ?_
      refine q_iload_n hx dX10_bends_181 1 rfl ?_
      refine q_iconst (v := 4) hx dX10_bends_182 (by decide) ?_
      refine q_iload hx dX10_bends_183 7 rfl ?_
      refine q_iconst (v := 2) hx dX10_bends_185 (by decide) ?_
      refine q_iadd hx dX10_bends_186 ?_
      refine q_bindE h (fun q11 hq11 h => ?_)
      refine q_callVv (As := [.int v1, .int 4, .int (v7 + 2)]) (rest := []) hx q_kR0 (c_X10_ls (q_Xl X) G x q10 v1 4 (v7 + 2) hq11) q_ml_X10_123 q_mn_X10_ls q_mi_X10_ls q_se_X10_ls (by decide) rfl (Nat.le_of_ble_eq_true rfl) dX10_bends_187 (q_ne kd_292 (by decide)) (q_e10 kd_292) rfl rfl rfl ?_
      refine q_aload_n hx dX10_bends_190 0 rfl ?_
      refine q_get (v := .ref (G.2.1 + 293)) hx q_fl_X10_7 dX10_bends_191 (q_ne kd_292 (by decide)) (q_e10 kd_292) rfl ?_
      refine q_iconst (v := 3) hx dX10_bends_194 (by decide) ?_
      refine q_dup2 hx dX10_bends_195 rfl rfl ?_
      refine q_ialdK (N := 220) hx 3 dX10_bends_196 kd_293 (by decide) (by decide) (by decide) (by decide) ?_
      refine q_iconst (v := 1) hx dX10_bends_197 (by decide) ?_
      refine q_iadd hx dX10_bends_198 ?_
      refine q_iastK (N := 220) hx 3 dX10_bends_199 kd_293 (by decide) (by decide) (by decide) (by decide) ?_
      refine q_aload_n hx dX10_bends_200 0 rfl ?_
      refine q_iload_n hx dX10_bends_201 1 rfl ?_
      refine q_bindE h (fun q12 hq12 h => ?_)
      refine q_callVi (As := [.int v1]) (rest := []) hx q_kR0 (c_X10_areaOf (q_Xl X) G x (q_up q11 293 3 ((q11 293 3) + 1)) v1 hq12) q_ml_X10_219 q_mn_X10_areaOf q_mi_X10_areaOf q_se_X10_areaOf (by decide) rfl (Nat.le_of_ble_eq_true rfl) dX10_bends_202 (q_ne kd_292 (by decide)) (q_e10 kd_292) rfl rfl rfl ?_
      cases h
      exact q_iret hx hr dX10_bends_205
    · replace h := (if_neg hc4).symm.trans h
      refine q_aload_n hx dX10_bends_44 0 rfl ?_
      refine q_iload_n hx dX10_bends_45 1 rfl ?_
      refine q_iconst (v := 5) hx dX10_bends_46 (by decide) ?_
      refine q_iconst (v := 2) hx dX10_bends_47 (by decide) ?_
      refine q_iload hx dX10_bends_48 8 rfl ?_
      refine q_imul hx dX10_bends_50 ?_
      refine q_iadd hx dX10_bends_51 ?_
      refine q_iconst (v := 4) hx dX10_bends_52 (by decide) ?_
      refine q_iadd hx dX10_bends_53 ?_
      refine q_aload_n hx dX10_bends_54 0 rfl ?_
      refine q_iload_n hx dX10_bends_55 1 rfl ?_
      refine q_iload hx dX10_bends_56 8 rfl ?_
      refine q_bindE h (fun q13 hq13 h => ?_)
      refine q_callVi (As := [.int v1, .int v8]) (rest := [.int ((5 + (2 * v8)) + 4), .int v1, .ref (G.2.1 + 292)]) hx q_kR0 (c_X10_way (q_Xl X) G x σ v1 v8 hq13) q_ml_X10_178 q_mn_X10_way q_mi_X10_way q_se_X10_way (by decide) rfl (Nat.le_of_ble_eq_true rfl) dX10_bends_58 (q_ne kd_292 (by decide)) (q_e10 kd_292) rfl rfl rfl ?_
      refine q_bindE h (fun q14 hq14 h => ?_)
      refine q_callVv (As := [.int v1, .int ((5 + (2 * v8)) + 4), .int q13]) (rest := []) hx q_kR0 (c_X10_ls (q_Xl X) G x σ v1 ((5 + (2 * v8)) + 4) q13 hq14) q_ml_X10_123 q_mn_X10_ls q_mi_X10_ls q_se_X10_ls (by decide) rfl (Nat.le_of_ble_eq_true rfl) dX10_bends_61 (q_ne kd_292 (by decide)) (q_e10 kd_292) rfl rfl rfl ?_
      refine q_aload_n hx dX10_bends_64 0 rfl ?_
      refine q_iload_n hx dX10_bends_65 1 rfl ?_
      refine q_iconst (v := 5) hx dX10_bends_66 (by decide) ?_
      refine q_iconst (v := 2) hx dX10_bends_67 (by decide) ?_
      refine q_iload hx dX10_bends_68 8 rfl ?_
      refine q_imul hx dX10_bends_70 ?_
      refine q_iadd hx dX10_bends_71 ?_
      refine q_iconst (v := 5) hx dX10_bends_72 (by decide) ?_
      refine q_iadd hx dX10_bends_73 ?_
      refine q_aload_n hx dX10_bends_74 0 rfl ?_
      refine q_iload_n hx dX10_bends_75 1 rfl ?_
      refine q_iload hx dX10_bends_76 8 rfl ?_
      refine q_bindE h (fun q15 hq15 h => ?_)
      refine q_callVi (As := [.int v1, .int v8]) (rest := [.int ((5 + (2 * v8)) + 5), .int v1, .ref (G.2.1 + 292)]) hx q_kR0 (c_X10_length (q_Xl X) G x q14 v1 v8 hq15) q_ml_X10_175 q_mn_X10_length q_mi_X10_length q_se_X10_length (by decide) rfl (Nat.le_of_ble_eq_true rfl) dX10_bends_78 (q_ne kd_292 (by decide)) (q_e10 kd_292) rfl rfl rfl ?_
      refine q_bindE h (fun q16 hq16 h => ?_)
      refine q_callVv (As := [.int v1, .int ((5 + (2 * v8)) + 5), .int q15]) (rest := []) hx q_kR0 (c_X10_ls (q_Xl X) G x q14 v1 ((5 + (2 * v8)) + 5) q15 hq16) q_ml_X10_123 q_mn_X10_ls q_mi_X10_ls q_se_X10_ls (by decide) rfl (Nat.le_of_ble_eq_true rfl) dX10_bends_81 (q_ne kd_292 (by decide)) (q_e10 kd_292) rfl rfl rfl ?_
      refine q_iinc hx [(8, .int (v8 + (-1))), (0, .ref (G.2.1 + 292)), (1, .int v1), (2, .int v2), (3, .int v3), (4, .int v4), (5, .int v5), (6, .int v6), (7, .int v7)] dX10_bends_84 8 rfl rfl (by decide) rfl ?_
      refine q_goto hx 38 dX10_bends_87 (by decide) ?_
      refine q_sub [1, 2, 3, 4, 5, 6, 7, 8, 0] rfl ?_
      exact ih v1 v2 v3 v4 v5 v6 v7 (v8 + (-1)) q16 h
def f_X10_bends (σ : q_S) (a1 : Int32) (a2 : Int32) (a3 : Int32) : Option (Int32 × q_S) :=
  Option.bind (f_X10_way σ a1 a2) (fun q1 => Option.bind (f_X10_length σ a1 a2) (fun q2 => Option.bind (f_X10_sv σ a1 4) (fun q3 => f_X10_bends_38 q_fu a1 a2 a3 q1 q2 ((f_X10_sideOf q1 a3)) q3 (q3 - 1) σ)))
set_option maxHeartbeats 4000000 in
set_option maxRecDepth 100000 in
theorem c_X10_bends (l : Launch) (G : q_G) (x : q_A) (σ : q_S) (a1 : Int32) (a2 : Int32) (a3 : Int32)  {res : Int32 × q_S} (h : f_X10_bends σ a1 a2 a3 = some res) : q_Met l yX10_bends cX10_bends 9 (some .int) 5 G [.ref (G.2.1 + 292), .int a1, .int a2, .int a3] σ x (q_Qi G x res.1 res.2) := by
  refine q_of (by decide) (Nat.le_of_ble_eq_true rfl) (fun X hl0 hx hr => ?_)
  subst hl0
  have hx : q_Cx X G RX10 cX10_bends 9 5 := hx
  unfold f_X10_bends at h
  show q_Wq X G x 9 (q_MQ X G (q_Qi G x res.1 res.2)) 0 0 0 [(0, .ref (G.2.1 + 292)), (1, .int a1), (2, .int a2), (3, .int a3)] [] σ
  refine q_aload_n hx dX10_bends_0 0 rfl ?_
  refine q_iload_n hx dX10_bends_1 1 rfl ?_
  refine q_iload_n hx dX10_bends_2 2 rfl ?_
  refine q_bindE h (fun q1 hq1 h => ?_)
  refine q_callVi (As := [.int a1, .int a2]) (rest := []) hx q_kR0 (c_X10_way (q_Xl X) G x σ a1 a2 hq1) q_ml_X10_178 q_mn_X10_way q_mi_X10_way q_se_X10_way (by decide) rfl (Nat.le_of_ble_eq_true rfl) dX10_bends_3 (q_ne kd_292 (by decide)) (q_e10 kd_292) rfl rfl rfl ?_
  refine q_istore hx [(4, .int q1), (0, .ref (G.2.1 + 292)), (1, .int a1), (2, .int a2), (3, .int a3)] dX10_bends_6 (by decide) rfl ?_
  refine q_aload_n hx dX10_bends_8 1 rfl ?_
  refine q_iload_n hx dX10_bends_9 2 rfl ?_
  refine q_iload_n hx dX10_bends_10 3 rfl ?_
  refine q_bindE h (fun q2 hq2 h => ?_)
  refine q_callVi (As := [.int a1, .int a2]) (rest := []) hx q_kR0 (c_X10_length (q_Xl X) G x σ a1 a2 hq2) q_ml_X10_175 q_mn_X10_length q_mi_X10_length q_se_X10_length (by decide) rfl (Nat.le_of_ble_eq_true rfl) dX10_bends_11 (q_ne kd_292 (by decide)) (q_e10 kd_292) rfl rfl rfl ?_
  refine q_istore hx [(5, .int q2), (4, .int q1), (0, .ref (G.2.1 + 292)), (1, .int a1), (2, .int a2), (3, .int a3)] dX10_bends_14 (by decide) rfl ?_
  refine q_iload hx dX10_bends_16 1 rfl ?_
  refine q_iload_n hx dX10_bends_18 5 rfl ?_
  refine q_callSi (As := [.int q1, .int a3]) (rest := []) hx q_kR0 (c_X10_sideOf (q_Xl X) G x σ q1 a3) q_ml_X10_216 q_mn_X10_sideOf q_ms_X10_sideOf (by decide) rfl (Nat.le_of_ble_eq_true rfl) dX10_bends_19 rfl ?_
  refine q_istore hx [(6, .int ((f_X10_sideOf q1 a3))), (5, .int q2), (4, .int q1), (0, .ref (G.2.1 + 292)), (1, .int a1), (2, .int a2), (3, .int a3)] dX10_bends_22 (by decide) rfl ?_
  refine q_aload_n hx dX10_bends_24 3 rfl ?_
  refine q_iload_n hx dX10_bends_25 4 rfl ?_
  refine q_iconst (v := 4) hx dX10_bends_26 (by decide) ?_
  refine q_bindE h (fun q3 hq3 h => ?_)
  refine q_callVi (As := [.int a1, .int 4]) (rest := []) hx q_kR0 (c_X10_sv (q_Xl X) G x σ a1 4 hq3) q_ml_X10_111 q_mn_X10_sv q_mi_X10_sv q_se_X10_sv (by decide) rfl (Nat.le_of_ble_eq_true rfl) dX10_bends_27 (q_ne kd_292 (by decide)) (q_e10 kd_292) rfl rfl rfl ?_
  refine q_istore hx [(7, .int q3), (6, .int ((f_X10_sideOf q1 a3))), (5, .int q2), (4, .int q1), (0, .ref (G.2.1 + 292)), (1, .int a1), (2, .int a2), (3, .int a3)] dX10_bends_30 (by decide) rfl ?_
  refine q_iload hx dX10_bends_32 0 rfl ?_
  refine q_iconst (v := 1) hx dX10_bends_34 (by decide) ?_
  refine q_isub hx dX10_bends_35 ?_
  refine q_istore hx [(8, .int (q3 - 1)), (7, .int q3), (6, .int ((f_X10_sideOf q1 a3))), (5, .int q2), (4, .int q1), (0, .ref (G.2.1 + 292)), (1, .int a1), (2, .int a2), (3, .int a3)] dX10_bends_36 (by decide) rfl ?_
  refine q_sub [5, 6, 7, 8, 4, 3, 2, 1, 0] rfl ?_
  exact s_X10_bends_38 hx hr q_fu a1 a2 a3 q1 q2 ((f_X10_sideOf q1 a3)) q3 (q3 - 1) σ h
-- X10_bend
def f_X10_bend (σ : q_S) (a1 : Int32) (a2 : Int32) (a3 : Int32) : Option (Int32 × q_S) :=
  Option.bind (f_X10_begins σ) (fun q1 => Option.bind (f_X10_hasChain q1 a1 a2) (fun q2 => if q2 = 0 then (some (((f_X10_no q1 1).1, (f_X10_no q1 1).2))) else (if ((f_X10_isBend a3)) = 0 then (some (((f_X10_no q1 2).1, (f_X10_no q1 2).2))) else (Option.bind (f_X10_isRefusedBend q1 a1 a2 a3) (fun q5 => if q5.1 = 0 then (Option.bind (f_X10_bends q5.2 a1 a2 a3) (fun q7 => Option.bind (f_X10_keeps q7.2 q7.1) (fun q8 => some ((q8.1, q8.2))))) else (some (((f_X10_refused q5.2 3).1, (f_X10_refused q5.2 3).2))))))))
set_option maxHeartbeats 4000000 in
set_option maxRecDepth 100000 in
theorem c_X10_bend (l : Launch) (G : q_G) (x : q_A) (σ : q_S) (a1 : Int32) (a2 : Int32) (a3 : Int32)  {res : Int32 × q_S} (h : f_X10_bend σ a1 a2 a3 = some res) : q_Met l yX10_bend cX10_bend 4 (some .int) 6 G [.ref (G.2.1 + 292), .int a1, .int a2, .int a3] σ x (q_Qi G x res.1 res.2) := by
  refine q_of (by decide) (Nat.le_of_ble_eq_true rfl) (fun X hl0 hx hr => ?_)
  subst hl0
  have hx : q_Cx X G RX10 cX10_bend 4 6 := hx
  unfold f_X10_bend at h
  show q_Wq X G x 4 (q_MQ X G (q_Qi G x res.1 res.2)) 0 0 0 [(0, .ref (G.2.1 + 292)), (1, .int a1), (2, .int a2), (3, .int a3)] [] σ
  refine q_aload_n hx dX10_bend_0 0 rfl ?_
  refine q_bindE h (fun q1 hq1 h => ?_)
  refine q_callVv (As := []) (rest := []) hx q_kR0 (c_X10_begins (q_Xl X) G x σ  hq1) q_ml_X10_127 q_mn_X10_begins q_mi_X10_begins q_se_X10_begins (by decide) rfl (Nat.le_of_ble_eq_true rfl) dX10_bend_1 (q_ne kd_292 (by decide)) (q_e10 kd_292) rfl rfl rfl ?_
  refine q_aload_n hx dX10_bend_4 0 rfl ?_
  refine q_iload_n hx dX10_bend_5 1 rfl ?_
  refine q_iload_n hx dX10_bend_6 2 rfl ?_
  refine q_bindE h (fun q2 hq2 h => ?_)
  refine q_callVi (As := [.int a1, .int a2]) (rest := []) hx q_kR0 (c_X10_hasChain (q_Xl X) G x q1 a1 a2 hq2) q_ml_X10_222 q_mn_X10_hasChain q_mi_X10_hasChain q_se_X10_hasChain (by decide) rfl (Nat.le_of_ble_eq_true rfl) dX10_bend_7 (q_ne kd_292 (by decide)) (q_e10 kd_292) rfl rfl rfl ?_
  refine q_if_ne hx 19 dX10_bend_10 (by decide) (fun hc3 => ?_) (fun hc3 => ?_)
  · replace h := (if_neg hc3).symm.trans h
    refine q_iload_n hx dX10_bend_19 3 rfl ?_
    refine q_callSi (As := [.int a3]) (rest := []) hx q_kR0 (c_X10_isBend (q_Xl X) G x q1 a3) q_ml_X10_225 q_mn_X10_isBend q_ms_X10_isBend (by decide) rfl (Nat.le_of_ble_eq_true rfl) dX10_bend_20 rfl ?_
    refine q_if_ne hx 32 dX10_bend_23 (by decide) (fun hc4 => ?_) (fun hc4 => ?_)
    · replace h := (if_neg hc4).symm.trans h
      refine q_aload_n hx dX10_bend_32 0 rfl ?_
      refine q_iload_n hx dX10_bend_33 1 rfl ?_
      refine q_iload_n hx dX10_bend_34 2 rfl ?_
      refine q_iload_n hx dX10_bend_35 3 rfl ?_
      refine q_bindE h (fun q5 hq5 h => ?_)
      refine q_callVi (As := [.int a1, .int a2, .int a3]) (rest := []) hx q_kR0 (c_X10_isRefusedBend (q_Xl X) G x q1 a1 a2 a3 hq5) q_ml_X10_228 q_mn_X10_isRefusedBend q_mi_X10_isRefusedBend q_se_X10_isRefusedBend (by decide) rfl (Nat.le_of_ble_eq_true rfl) dX10_bend_36 (q_ne kd_292 (by decide)) (q_e10 kd_292) rfl rfl rfl ?_
      refine q_if_eq hx 50 dX10_bend_39 (by decide) (fun hc6 => ?_) (fun hc6 => ?_)
      · replace h := (if_pos hc6).symm.trans h
        refine q_aload_n hx dX10_bend_50 0 rfl ?_
        refine q_aload_n hx dX10_bend_51 0 rfl ?_
        refine q_iload_n hx dX10_bend_52 1 rfl ?_
        refine q_iload_n hx dX10_bend_53 2 rfl ?_
        refine q_iload_n hx dX10_bend_54 3 rfl ?_
        refine q_bindE h (fun q7 hq7 h => ?_)
        refine q_callVi (As := [.int a1, .int a2, .int a3]) (rest := [.ref (G.2.1 + 292)]) hx q_kR0 (c_X10_bends (q_Xl X) G x q5.2 a1 a2 a3 hq7) q_ml_X10_231 q_mn_X10_bends q_mi_X10_bends q_se_X10_bends (by decide) rfl (Nat.le_of_ble_eq_true rfl) dX10_bend_55 (q_ne kd_292 (by decide)) (q_e10 kd_292) rfl rfl rfl ?_
        refine q_bindE h (fun q8 hq8 h => ?_)
        refine q_callVi (As := [.int q7.1]) (rest := []) hx q_kR0 (c_X10_keeps (q_Xl X) G x q7.2 q7.1 hq8) q_ml_X10_140 q_mn_X10_keeps q_mi_X10_keeps q_se_X10_keeps (by decide) rfl (Nat.le_of_ble_eq_true rfl) dX10_bend_58 (q_ne kd_292 (by decide)) (q_e10 kd_292) rfl rfl rfl ?_
        cases h
        exact q_iret hx hr dX10_bend_61
      · replace h := (if_neg hc6).symm.trans h
        refine q_aload_n hx dX10_bend_42 0 rfl ?_
        refine q_iconst (v := 3) hx dX10_bend_43 (by decide) ?_
        refine q_callVi (As := [.int 3]) (rest := []) hx q_kR0 (c_X10_refused (q_Xl X) G x q5.2 3) q_ml_X10_134 q_mn_X10_refused q_mi_X10_refused q_se_X10_refused (by decide) rfl (Nat.le_of_ble_eq_true rfl) dX10_bend_44 (q_ne kd_292 (by decide)) (q_e10 kd_292) rfl rfl rfl ?_
        refine q_goto hx 61 dX10_bend_47 (by decide) ?_
        cases h
        exact q_iret hx hr dX10_bend_61
    · replace h := (if_pos hc4).symm.trans h
      refine q_aload_n hx dX10_bend_26 0 rfl ?_
      refine q_iconst (v := 2) hx dX10_bend_27 (by decide) ?_
      refine q_callVi (As := [.int 2]) (rest := []) hx q_kR0 (c_X10_no (q_Xl X) G x q1 2) q_ml_X10_103 q_mn_X10_no q_mi_X10_no q_se_X10_no (by decide) rfl (Nat.le_of_ble_eq_true rfl) dX10_bend_28 (q_ne kd_292 (by decide)) (q_e10 kd_292) rfl rfl rfl ?_
      cases h
      exact q_iret hx hr dX10_bend_31
  · replace h := (if_pos hc3).symm.trans h
    refine q_aload_n hx dX10_bend_13 0 rfl ?_
    refine q_iconst (v := 1) hx dX10_bend_14 (by decide) ?_
    refine q_callVi (As := [.int 1]) (rest := []) hx q_kR0 (c_X10_no (q_Xl X) G x q1 1) q_ml_X10_103 q_mn_X10_no q_mi_X10_no q_se_X10_no (by decide) rfl (Nat.le_of_ble_eq_true rfl) dX10_bend_15 (q_ne kd_292 (by decide)) (q_e10 kd_292) rfl rfl rfl ?_
    cases h
    exact q_iret hx hr dX10_bend_18
-- X10_isRefusedDrop
def f_X10_isRefusedDrop (σ : q_S) (a1 : Int32) : Option (Int32 × q_S) :=
  Option.bind (f_X10_sv σ a1 1) (fun q1 => if q1 = 0 then (if ((f_X10_isBad σ 4 a1).1) = 0 then (some ((0, (f_X10_isBad σ 4 a1).2))) else (some ((1, (f_X10_isBad σ 4 a1).2)))) else (some ((0, σ))))
set_option maxHeartbeats 4000000 in
set_option maxRecDepth 100000 in
theorem c_X10_isRefusedDrop (l : Launch) (G : q_G) (x : q_A) (σ : q_S) (a1 : Int32)  {res : Int32 × q_S} (h : f_X10_isRefusedDrop σ a1 = some res) : q_Met l yX10_isRefusedDrop cX10_isRefusedDrop 2 (some .boolean) 2 G [.ref (G.2.1 + 292), .int a1] σ x (q_Qi G x res.1 res.2) := by
  refine q_of (by decide) (Nat.le_of_ble_eq_true rfl) (fun X hl0 hx hr => ?_)
  subst hl0
  have hx : q_Cx X G RX10 cX10_isRefusedDrop 2 2 := hx
  unfold f_X10_isRefusedDrop at h
  show q_Wq X G x 2 (q_MQ X G (q_Qi G x res.1 res.2)) 0 0 0 [(0, .ref (G.2.1 + 292)), (1, .int a1)] [] σ
  refine q_aload_n hx dX10_isRefusedDrop_0 0 rfl ?_
  refine q_iload_n hx dX10_isRefusedDrop_1 1 rfl ?_
  refine q_iconst (v := 1) hx dX10_isRefusedDrop_2 (by decide) ?_
  refine q_bindE h (fun q1 hq1 h => ?_)
  refine q_callVi (As := [.int a1, .int 1]) (rest := []) hx q_kR0 (c_X10_sv (q_Xl X) G x σ a1 1 hq1) q_ml_X10_111 q_mn_X10_sv q_mi_X10_sv q_se_X10_sv (by decide) rfl (Nat.le_of_ble_eq_true rfl) dX10_isRefusedDrop_3 (q_ne kd_292 (by decide)) (q_e10 kd_292) rfl rfl rfl ?_
  refine q_if_ne hx 22 dX10_isRefusedDrop_6 (by decide) (fun hc2 => ?_) (fun hc2 => ?_)
  · replace h := (if_neg hc2).symm.trans h
    refine q_iconst (v := 0) hx dX10_isRefusedDrop_22 (by decide) ?_
    cases h
    exact q_zret (v := 0) hx hr rfl dX10_isRefusedDrop_23
  · replace h := (if_pos hc2).symm.trans h
    refine q_aload_n hx dX10_isRefusedDrop_9 0 rfl ?_
    refine q_iconst (v := 4) hx dX10_isRefusedDrop_10 (by decide) ?_
    refine q_iload_n hx dX10_isRefusedDrop_11 1 rfl ?_
    refine q_callVi (As := [.int 4, .int a1]) (rest := []) hx q_kR0 (c_X10_isBad (q_Xl X) G x σ 4 a1) q_ml_X10_119 q_mn_X10_isBad q_mi_X10_isBad q_se_X10_isBad (by decide) rfl (Nat.le_of_ble_eq_true rfl) dX10_isRefusedDrop_12 (q_ne kd_292 (by decide)) (q_e10 kd_292) rfl rfl rfl ?_
    refine q_if_eq hx 22 dX10_isRefusedDrop_15 (by decide) (fun hc3 => ?_) (fun hc3 => ?_)
    · replace h := (if_pos hc3).symm.trans h
      refine q_iconst (v := 0) hx dX10_isRefusedDrop_22 (by decide) ?_
      cases h
      exact q_zret (v := 0) hx hr rfl dX10_isRefusedDrop_23
    · replace h := (if_neg hc3).symm.trans h
      refine q_iconst (v := 1) hx dX10_isRefusedDrop_18 (by decide) ?_
      refine q_goto hx 23 dX10_isRefusedDrop_19 (by decide) ?_
      cases h
      exact q_zret (v := 1) hx hr rfl dX10_isRefusedDrop_23
-- X10_drops
def f_X10_drops_9 : Nat → Int32 → Int32 → Int32 → q_S → Option (Int32 × q_S)
  | 0, _, _, _, _ => none
  | n + 1, v1, v2, v3, σ =>
    if 37 ≤ v3 then (some ((v2, σ))) else (Option.bind (f_X10_ls σ v1 v3 0) (fun q3 => f_X10_drops_9 n v1 v2 (v3 + 1) q3))
set_option maxHeartbeats 4000000 in
set_option maxRecDepth 100000 in
theorem s_X10_drops_9 {X : q_X} {G : q_G} {x : q_A} (hx : q_Cx X G RX10 cX10_drops 4 2) (hr : (q_Xm X).sig.returnType = some .int) {res : Int32 × q_S} : ∀ (n : Nat) (v1 : Int32) (v2 : Int32) (v3 : Int32) (σ : q_S), f_X10_drops_9 n v1 v2 v3 σ = some res → q_Wq X G x 4 (q_MQ X G (q_Qi G x res.1 res.2)) 0 0 9 [(0, .ref (G.2.1 + 292)), (1, .int v1), (2, .int v2), (3, .int v3)] [] σ := by
  intro n
  induction n with
  | zero => exact fun _ _ _ _ h => nomatch (show (none : Option (Int32 × q_S)) = some res from h)
  | succ n ih =>
    intro v1 v2 v3 σ h
    rw [f_X10_drops_9] at h
    refine q_iload_n hx dX10_drops_9 3 rfl ?_
    refine q_bipush (v := 37) hx dX10_drops_10 (by decide) ?_
    refine q_icmp_ge hx 28 dX10_drops_12 (by decide) (fun hc2 => ?_) (fun hc2 => ?_)
    · replace h := (if_pos hc2).symm.trans h
      refine q_iload_n hx dX10_drops_28 2 rfl ?_
      cases h
      exact q_iret hx hr dX10_drops_29
    · replace h := (if_neg hc2).symm.trans h
      refine q_aload_n hx dX10_drops_15 0 rfl ?_
      refine q_iload_n hx dX10_drops_16 1 rfl ?_
      refine q_iload_n hx dX10_drops_17 3 rfl ?_
      refine q_iconst (v := 0) hx dX10_drops_18 (by decide) ?_
      refine q_bindE h (fun q3 hq3 h => ?_)
      refine q_callVv (As := [.int v1, .int v3, .int 0]) (rest := []) hx q_kR0 (c_X10_ls (q_Xl X) G x σ v1 v3 0 hq3) q_ml_X10_123 q_mn_X10_ls q_mi_X10_ls q_se_X10_ls (by decide) rfl (Nat.le_of_ble_eq_true rfl) dX10_drops_19 (q_ne kd_292 (by decide)) (q_e10 kd_292) rfl rfl rfl ?_
      refine q_iinc hx [(3, .int (v3 + 1)), (0, .ref (G.2.1 + 292)), (1, .int v1), (2, .int v2)] dX10_drops_22 3 rfl rfl (by decide) rfl ?_
      refine q_goto hx 9 dX10_drops_25 (by decide) ?_
      refine q_sub [1, 2, 3, 0] rfl ?_
      exact ih v1 v2 (v3 + 1) q3 h
def f_X10_drops (σ : q_S) (a1 : Int32) : Option (Int32 × q_S) :=
  Option.bind (f_X10_sv σ a1 4) (fun q1 => f_X10_drops_9 q_fu a1 q1 1 σ)
set_option maxHeartbeats 4000000 in
set_option maxRecDepth 100000 in
theorem c_X10_drops (l : Launch) (G : q_G) (x : q_A) (σ : q_S) (a1 : Int32)  {res : Int32 × q_S} (h : f_X10_drops σ a1 = some res) : q_Met l yX10_drops cX10_drops 4 (some .int) 2 G [.ref (G.2.1 + 292), .int a1] σ x (q_Qi G x res.1 res.2) := by
  refine q_of (by decide) (Nat.le_of_ble_eq_true rfl) (fun X hl0 hx hr => ?_)
  subst hl0
  have hx : q_Cx X G RX10 cX10_drops 4 2 := hx
  unfold f_X10_drops at h
  show q_Wq X G x 4 (q_MQ X G (q_Qi G x res.1 res.2)) 0 0 0 [(0, .ref (G.2.1 + 292)), (1, .int a1)] [] σ
  refine q_aload_n hx dX10_drops_0 0 rfl ?_
  refine q_iload_n hx dX10_drops_1 1 rfl ?_
  refine q_iconst (v := 4) hx dX10_drops_2 (by decide) ?_
  refine q_bindE h (fun q1 hq1 h => ?_)
  refine q_callVi (As := [.int a1, .int 4]) (rest := []) hx q_kR0 (c_X10_sv (q_Xl X) G x σ a1 4 hq1) q_ml_X10_111 q_mn_X10_sv q_mi_X10_sv q_se_X10_sv (by decide) rfl (Nat.le_of_ble_eq_true rfl) dX10_drops_3 (q_ne kd_292 (by decide)) (q_e10 kd_292) rfl rfl rfl ?_
  refine q_istore_n hx [(2, .int q1), (0, .ref (G.2.1 + 292)), (1, .int a1)] dX10_drops_6 (by decide) rfl ?_
  refine q_iconst (v := 1) hx dX10_drops_7 (by decide) ?_
  refine q_istore_n hx [(3, .int 1), (2, .int q1), (0, .ref (G.2.1 + 292)), (1, .int a1)] dX10_drops_8 (by decide) rfl ?_
  refine q_sub [2, 3, 1, 0] rfl ?_
  exact s_X10_drops_9 hx hr q_fu a1 q1 1 σ h
-- X10_drop
def f_X10_drop (σ : q_S) (a1 : Int32) : Option (Int32 × q_S) :=
  Option.bind (f_X10_begins σ) (fun q1 => Option.bind (f_X10_isSleeper q1 a1) (fun q2 => if q2 = 0 then (some (((f_X10_no q1 1).1, (f_X10_no q1 1).2))) else (Option.bind (f_X10_isRefusedDrop q1 a1) (fun q4 => if q4.1 = 0 then (Option.bind (f_X10_drops q4.2 a1) (fun q6 => Option.bind (f_X10_keeps q6.2 q6.1) (fun q7 => some ((q7.1, q7.2))))) else (some (((f_X10_refused q4.2 2).1, (f_X10_refused q4.2 2).2)))))))
set_option maxHeartbeats 4000000 in
set_option maxRecDepth 100000 in
theorem c_X10_drop (l : Launch) (G : q_G) (x : q_A) (σ : q_S) (a1 : Int32)  {res : Int32 × q_S} (h : f_X10_drop σ a1 = some res) : q_Met l yX10_drop cX10_drop 2 (some .int) 3 G [.ref (G.2.1 + 292), .int a1] σ x (q_Qi G x res.1 res.2) := by
  refine q_of (by decide) (Nat.le_of_ble_eq_true rfl) (fun X hl0 hx hr => ?_)
  subst hl0
  have hx : q_Cx X G RX10 cX10_drop 2 3 := hx
  unfold f_X10_drop at h
  show q_Wq X G x 2 (q_MQ X G (q_Qi G x res.1 res.2)) 0 0 0 [(0, .ref (G.2.1 + 292)), (1, .int a1)] [] σ
  refine q_aload_n hx dX10_drop_0 0 rfl ?_
  refine q_bindE h (fun q1 hq1 h => ?_)
  refine q_callVv (As := []) (rest := []) hx q_kR0 (c_X10_begins (q_Xl X) G x σ  hq1) q_ml_X10_127 q_mn_X10_begins q_mi_X10_begins q_se_X10_begins (by decide) rfl (Nat.le_of_ble_eq_true rfl) dX10_drop_1 (q_ne kd_292 (by decide)) (q_e10 kd_292) rfl rfl rfl ?_
  refine q_aload_n hx dX10_drop_4 0 rfl ?_
  refine q_iload_n hx dX10_drop_5 1 rfl ?_
  refine q_bindE h (fun q2 hq2 h => ?_)
  refine q_callVi (As := [.int a1]) (rest := []) hx q_kR0 (c_X10_isSleeper (q_Xl X) G x q1 a1 hq2) q_ml_X10_166 q_mn_X10_isSleeper q_mi_X10_isSleeper q_se_X10_isSleeper (by decide) rfl (Nat.le_of_ble_eq_true rfl) dX10_drop_6 (q_ne kd_292 (by decide)) (q_e10 kd_292) rfl rfl rfl ?_
  refine q_if_ne hx 18 dX10_drop_9 (by decide) (fun hc3 => ?_) (fun hc3 => ?_)
  · replace h := (if_neg hc3).symm.trans h
    refine q_aload_n hx dX10_drop_18 0 rfl ?_
    refine q_iload_n hx dX10_drop_19 1 rfl ?_
    refine q_bindE h (fun q4 hq4 h => ?_)
    refine q_callVi (As := [.int a1]) (rest := []) hx q_kR0 (c_X10_isRefusedDrop (q_Xl X) G x q1 a1 hq4) q_ml_X10_234 q_mn_X10_isRefusedDrop q_mi_X10_isRefusedDrop q_se_X10_isRefusedDrop (by decide) rfl (Nat.le_of_ble_eq_true rfl) dX10_drop_20 (q_ne kd_292 (by decide)) (q_e10 kd_292) rfl rfl rfl ?_
    refine q_if_eq hx 34 dX10_drop_23 (by decide) (fun hc5 => ?_) (fun hc5 => ?_)
    · replace h := (if_pos hc5).symm.trans h
      refine q_aload_n hx dX10_drop_34 0 rfl ?_
      refine q_aload_n hx dX10_drop_35 0 rfl ?_
      refine q_iload_n hx dX10_drop_36 1 rfl ?_
      refine q_bindE h (fun q6 hq6 h => ?_)
      refine q_callVi (As := [.int a1]) (rest := [.ref (G.2.1 + 292)]) hx q_kR0 (c_X10_drops (q_Xl X) G x q4.2 a1 hq6) q_ml_X10_237 q_mn_X10_drops q_mi_X10_drops q_se_X10_drops (by decide) rfl (Nat.le_of_ble_eq_true rfl) dX10_drop_37 (q_ne kd_292 (by decide)) (q_e10 kd_292) rfl rfl rfl ?_
      refine q_bindE h (fun q7 hq7 h => ?_)
      refine q_callVi (As := [.int q6.1]) (rest := []) hx q_kR0 (c_X10_keeps (q_Xl X) G x q6.2 q6.1 hq7) q_ml_X10_140 q_mn_X10_keeps q_mi_X10_keeps q_se_X10_keeps (by decide) rfl (Nat.le_of_ble_eq_true rfl) dX10_drop_40 (q_ne kd_292 (by decide)) (q_e10 kd_292) rfl rfl rfl ?_
      cases h
      exact q_iret hx hr dX10_drop_43
    · replace h := (if_neg hc5).symm.trans h
      refine q_aload_n hx dX10_drop_26 0 rfl ?_
      refine q_iconst (v := 2) hx dX10_drop_27 (by decide) ?_
      refine q_callVi (As := [.int 2]) (rest := []) hx q_kR0 (c_X10_refused (q_Xl X) G x q4.2 2) q_ml_X10_134 q_mn_X10_refused q_mi_X10_refused q_se_X10_refused (by decide) rfl (Nat.le_of_ble_eq_true rfl) dX10_drop_28 (q_ne kd_292 (by decide)) (q_e10 kd_292) rfl rfl rfl ?_
      refine q_goto hx 43 dX10_drop_31 (by decide) ?_
      cases h
      exact q_iret hx hr dX10_drop_43
  · replace h := (if_pos hc3).symm.trans h
    refine q_aload_n hx dX10_drop_12 0 rfl ?_
    refine q_iconst (v := 1) hx dX10_drop_13 (by decide) ?_
    refine q_callVi (As := [.int 1]) (rest := []) hx q_kR0 (c_X10_no (q_Xl X) G x q1 1) q_ml_X10_103 q_mn_X10_no q_mi_X10_no q_se_X10_no (by decide) rfl (Nat.le_of_ble_eq_true rfl) dX10_drop_14 (q_ne kd_292 (by decide)) (q_e10 kd_292) rfl rfl rfl ?_
    cases h
    exact q_iret hx hr dX10_drop_17
-- X10_isDepth
def f_X10_isDepth (a0 : Int32) : Option (Int32) :=
  if ((f_X10_in a0 0 9) = 0 ∨ (f_X10_in a0 0 9) = 1) then some ((f_X10_in a0 0 9)) else none
set_option maxHeartbeats 4000000 in
set_option maxRecDepth 100000 in
theorem c_X10_isDepth (l : Launch) (G : q_G) (x : q_A) (σ : q_S) (a0 : Int32)  {res : Int32} (h : f_X10_isDepth a0 = some res) : q_Met l yX10_isDepth cX10_isDepth 1 (some .boolean) 2 G [.int a0] σ x (q_Qi G x res σ) := by
  refine q_of (by decide) (Nat.le_of_ble_eq_true rfl) (fun X hl0 hx hr => ?_)
  subst hl0
  have hx : q_Cx X G RX10 cX10_isDepth 1 2 := hx
  unfold f_X10_isDepth at h
  show q_Wq X G x 1 (q_MQ X G (q_Qi G x res σ)) 0 0 0 [(0, .int a0)] [] σ
  refine q_iload_n hx dX10_isDepth_0 0 rfl ?_
  refine q_iconst (v := 0) hx dX10_isDepth_1 (by decide) ?_
  refine q_bipush (v := 9) hx dX10_isDepth_2 (by decide) ?_
  refine q_callSi (As := [.int a0, .int 0, .int 9]) (rest := []) hx q_kR0 (c_X10_in (q_Xl X) G x σ a0 0 9) q_ml_X10_115 q_mn_X10_in q_ms_X10_in (by decide) rfl (Nat.le_of_ble_eq_true rfl) dX10_isDepth_4 rfl ?_
  by_cases hg1 : ((f_X10_in a0 0 9) = 0 ∨ (f_X10_in a0 0 9) = 1)
  case neg => rw [if_neg hg1] at h; exact nomatch h
  replace h := (if_pos hg1).symm.trans h
  cases h
  exact q_zret hx hr (q_zn hg1) dX10_isDepth_7
-- X10_isRefusedDeep
def f_X10_isRefusedDeep (σ : q_S) (a1 : Int32) (a2 : Int32) : Option (Int32 × q_S) :=
  Option.bind (f_X10_sv σ a1 0) (fun q1 => if q1 = a2 then (if ((f_X10_isBad σ 10 a2).1) = 0 then (some ((0, (f_X10_isBad σ 10 a2).2))) else (some ((1, (f_X10_isBad σ 10 a2).2)))) else (some ((0, σ))))
set_option maxHeartbeats 4000000 in
set_option maxRecDepth 100000 in
theorem c_X10_isRefusedDeep (l : Launch) (G : q_G) (x : q_A) (σ : q_S) (a1 : Int32) (a2 : Int32)  {res : Int32 × q_S} (h : f_X10_isRefusedDeep σ a1 a2 = some res) : q_Met l yX10_isRefusedDeep cX10_isRefusedDeep 3 (some .boolean) 2 G [.ref (G.2.1 + 292), .int a1, .int a2] σ x (q_Qi G x res.1 res.2) := by
  refine q_of (by decide) (Nat.le_of_ble_eq_true rfl) (fun X hl0 hx hr => ?_)
  subst hl0
  have hx : q_Cx X G RX10 cX10_isRefusedDeep 3 2 := hx
  unfold f_X10_isRefusedDeep at h
  show q_Wq X G x 3 (q_MQ X G (q_Qi G x res.1 res.2)) 0 0 0 [(0, .ref (G.2.1 + 292)), (1, .int a1), (2, .int a2)] [] σ
  refine q_aload_n hx dX10_isRefusedDeep_0 0 rfl ?_
  refine q_iload_n hx dX10_isRefusedDeep_1 1 rfl ?_
  refine q_iconst (v := 0) hx dX10_isRefusedDeep_2 (by decide) ?_
  refine q_bindE h (fun q1 hq1 h => ?_)
  refine q_callVi (As := [.int a1, .int 0]) (rest := []) hx q_kR0 (c_X10_sv (q_Xl X) G x σ a1 0 hq1) q_ml_X10_111 q_mn_X10_sv q_mi_X10_sv q_se_X10_sv (by decide) rfl (Nat.le_of_ble_eq_true rfl) dX10_isRefusedDeep_3 (q_ne kd_292 (by decide)) (q_e10 kd_292) rfl rfl rfl ?_
  refine q_iload_n hx dX10_isRefusedDeep_6 2 rfl ?_
  refine q_icmp_ne hx 24 dX10_isRefusedDeep_7 (by decide) (fun hc2 => ?_) (fun hc2 => ?_)
  · replace h := (if_neg hc2).symm.trans h
    refine q_iconst (v := 0) hx dX10_isRefusedDeep_24 (by decide) ?_
    cases h
    exact q_zret (v := 0) hx hr rfl dX10_isRefusedDeep_25
  · replace h := (if_pos hc2).symm.trans h
    refine q_aload_n hx dX10_isRefusedDeep_10 0 rfl ?_
    refine q_bipush (v := 10) hx dX10_isRefusedDeep_11 (by decide) ?_
    refine q_iload_n hx dX10_isRefusedDeep_13 2 rfl ?_
    refine q_callVi (As := [.int 10, .int a2]) (rest := []) hx q_kR0 (c_X10_isBad (q_Xl X) G x σ 10 a2) q_ml_X10_119 q_mn_X10_isBad q_mi_X10_isBad q_se_X10_isBad (by decide) rfl (Nat.le_of_ble_eq_true rfl) dX10_isRefusedDeep_14 (q_ne kd_292 (by decide)) (q_e10 kd_292) rfl rfl rfl ?_
    refine q_if_eq hx 24 dX10_isRefusedDeep_17 (by decide) (fun hc3 => ?_) (fun hc3 => ?_)
    · replace h := (if_pos hc3).symm.trans h
      refine q_iconst (v := 0) hx dX10_isRefusedDeep_24 (by decide) ?_
      cases h
      exact q_zret (v := 0) hx hr rfl dX10_isRefusedDeep_25
    · replace h := (if_neg hc3).symm.trans h
      refine q_iconst (v := 1) hx dX10_isRefusedDeep_20 (by decide) ?_
      refine q_goto hx 25 dX10_isRefusedDeep_21 (by decide) ?_
      cases h
      exact q_zret (v := 1) hx hr rfl dX10_isRefusedDeep_25
-- X10_deepens
def f_X10_deepens (σ : q_S) (a1 : Int32) (a2 : Int32) : Option (Int32 × q_S) :=
  Option.bind (f_X10_sv σ a1 0) (fun q1 => Option.bind (f_X10_ls σ a1 0 a2) (fun q2 => some ((q1, q2))))
set_option maxHeartbeats 4000000 in
set_option maxRecDepth 100000 in
theorem c_X10_deepens (l : Launch) (G : q_G) (x : q_A) (σ : q_S) (a1 : Int32) (a2 : Int32)  {res : Int32 × q_S} (h : f_X10_deepens σ a1 a2 = some res) : q_Met l yX10_deepens cX10_deepens 4 (some .int) 2 G [.ref (G.2.1 + 292), .int a1, .int a2] σ x (q_Qi G x res.1 res.2) := by
  refine q_of (by decide) (Nat.le_of_ble_eq_true rfl) (fun X hl0 hx hr => ?_)
  subst hl0
  have hx : q_Cx X G RX10 cX10_deepens 4 2 := hx
  unfold f_X10_deepens at h
  show q_Wq X G x 4 (q_MQ X G (q_Qi G x res.1 res.2)) 0 0 0 [(0, .ref (G.2.1 + 292)), (1, .int a1), (2, .int a2)] [] σ
  refine q_aload_n hx dX10_deepens_0 0 rfl ?_
  refine q_iload_n hx dX10_deepens_1 1 rfl ?_
  refine q_iconst (v := 0) hx dX10_deepens_2 (by decide) ?_
  refine q_bindE h (fun q1 hq1 h => ?_)
  refine q_callVi (As := [.int a1, .int 0]) (rest := []) hx q_kR0 (c_X10_sv (q_Xl X) G x σ a1 0 hq1) q_ml_X10_111 q_mn_X10_sv q_mi_X10_sv q_se_X10_sv (by decide) rfl (Nat.le_of_ble_eq_true rfl) dX10_deepens_3 (q_ne kd_292 (by decide)) (q_e10 kd_292) rfl rfl rfl ?_
  refine q_istore_n hx [(3, .int q1), (0, .ref (G.2.1 + 292)), (1, .int a1), (2, .int a2)] dX10_deepens_6 (by decide) rfl ?_
  refine q_aload_n hx dX10_deepens_7 1 rfl ?_
  refine q_iload_n hx dX10_deepens_8 2 rfl ?_
  refine q_iconst (v := 0) hx dX10_deepens_9 (by decide) ?_
  refine q_iload_n hx dX10_deepens_10 3 rfl ?_
  refine q_bindE h (fun q2 hq2 h => ?_)
  refine q_callVv (As := [.int a1, .int 0, .int a2]) (rest := []) hx q_kR0 (c_X10_ls (q_Xl X) G x σ a1 0 a2 hq2) q_ml_X10_123 q_mn_X10_ls q_mi_X10_ls q_se_X10_ls (by decide) rfl (Nat.le_of_ble_eq_true rfl) dX10_deepens_11 (q_ne kd_292 (by decide)) (q_e10 kd_292) rfl rfl rfl ?_
  refine q_iload_n hx dX10_deepens_14 0 rfl ?_
  cases h
  exact q_iret hx hr dX10_deepens_15
-- X10_deep
def f_X10_deep (σ : q_S) (a1 : Int32) (a2 : Int32) : Option (Int32 × q_S) :=
  Option.bind (f_X10_begins σ) (fun q1 => Option.bind (f_X10_isSleeper q1 a1) (fun q2 => if q2 = 0 then (some (((f_X10_no q1 1).1, (f_X10_no q1 1).2))) else (Option.bind (f_X10_isDepth a2) (fun q4 => if q4 = 0 then (some (((f_X10_no q1 2).1, (f_X10_no q1 2).2))) else (Option.bind (f_X10_isRefusedDeep q1 a1 a2) (fun q6 => if q6.1 = 0 then (Option.bind (f_X10_deepens q6.2 a1 a2) (fun q8 => Option.bind (f_X10_keeps q8.2 q8.1) (fun q9 => some ((q9.1, q9.2))))) else (some (((f_X10_refused q6.2 3).1, (f_X10_refused q6.2 3).2)))))))))
set_option maxHeartbeats 4000000 in
set_option maxRecDepth 100000 in
theorem c_X10_deep (l : Launch) (G : q_G) (x : q_A) (σ : q_S) (a1 : Int32) (a2 : Int32)  {res : Int32 × q_S} (h : f_X10_deep σ a1 a2 = some res) : q_Met l yX10_deep cX10_deep 3 (some .int) 3 G [.ref (G.2.1 + 292), .int a1, .int a2] σ x (q_Qi G x res.1 res.2) := by
  refine q_of (by decide) (Nat.le_of_ble_eq_true rfl) (fun X hl0 hx hr => ?_)
  subst hl0
  have hx : q_Cx X G RX10 cX10_deep 3 3 := hx
  unfold f_X10_deep at h
  show q_Wq X G x 3 (q_MQ X G (q_Qi G x res.1 res.2)) 0 0 0 [(0, .ref (G.2.1 + 292)), (1, .int a1), (2, .int a2)] [] σ
  refine q_aload_n hx dX10_deep_0 0 rfl ?_
  refine q_bindE h (fun q1 hq1 h => ?_)
  refine q_callVv (As := []) (rest := []) hx q_kR0 (c_X10_begins (q_Xl X) G x σ  hq1) q_ml_X10_127 q_mn_X10_begins q_mi_X10_begins q_se_X10_begins (by decide) rfl (Nat.le_of_ble_eq_true rfl) dX10_deep_1 (q_ne kd_292 (by decide)) (q_e10 kd_292) rfl rfl rfl ?_
  refine q_aload_n hx dX10_deep_4 0 rfl ?_
  refine q_iload_n hx dX10_deep_5 1 rfl ?_
  refine q_bindE h (fun q2 hq2 h => ?_)
  refine q_callVi (As := [.int a1]) (rest := []) hx q_kR0 (c_X10_isSleeper (q_Xl X) G x q1 a1 hq2) q_ml_X10_166 q_mn_X10_isSleeper q_mi_X10_isSleeper q_se_X10_isSleeper (by decide) rfl (Nat.le_of_ble_eq_true rfl) dX10_deep_6 (q_ne kd_292 (by decide)) (q_e10 kd_292) rfl rfl rfl ?_
  refine q_if_ne hx 18 dX10_deep_9 (by decide) (fun hc3 => ?_) (fun hc3 => ?_)
  · replace h := (if_neg hc3).symm.trans h
    refine q_iload_n hx dX10_deep_18 2 rfl ?_
    refine q_bindE h (fun q4 hq4 h => ?_)
    refine q_callSi (As := [.int a2]) (rest := []) hx q_kR0 (c_X10_isDepth (q_Xl X) G x q1 a2 hq4) q_ml_X10_240 q_mn_X10_isDepth q_ms_X10_isDepth (by decide) rfl (Nat.le_of_ble_eq_true rfl) dX10_deep_19 rfl ?_
    refine q_if_ne hx 31 dX10_deep_22 (by decide) (fun hc5 => ?_) (fun hc5 => ?_)
    · replace h := (if_neg hc5).symm.trans h
      refine q_aload_n hx dX10_deep_31 0 rfl ?_
      refine q_iload_n hx dX10_deep_32 1 rfl ?_
      refine q_iload_n hx dX10_deep_33 2 rfl ?_
      refine q_bindE h (fun q6 hq6 h => ?_)
      refine q_callVi (As := [.int a1, .int a2]) (rest := []) hx q_kR0 (c_X10_isRefusedDeep (q_Xl X) G x q1 a1 a2 hq6) q_ml_X10_243 q_mn_X10_isRefusedDeep q_mi_X10_isRefusedDeep q_se_X10_isRefusedDeep (by decide) rfl (Nat.le_of_ble_eq_true rfl) dX10_deep_34 (q_ne kd_292 (by decide)) (q_e10 kd_292) rfl rfl rfl ?_
      refine q_if_eq hx 48 dX10_deep_37 (by decide) (fun hc7 => ?_) (fun hc7 => ?_)
      · replace h := (if_pos hc7).symm.trans h
        refine q_aload_n hx dX10_deep_48 0 rfl ?_
        refine q_aload_n hx dX10_deep_49 0 rfl ?_
        refine q_iload_n hx dX10_deep_50 1 rfl ?_
        refine q_iload_n hx dX10_deep_51 2 rfl ?_
        refine q_bindE h (fun q8 hq8 h => ?_)
        refine q_callVi (As := [.int a1, .int a2]) (rest := [.ref (G.2.1 + 292)]) hx q_kR0 (c_X10_deepens (q_Xl X) G x q6.2 a1 a2 hq8) q_ml_X10_246 q_mn_X10_deepens q_mi_X10_deepens q_se_X10_deepens (by decide) rfl (Nat.le_of_ble_eq_true rfl) dX10_deep_52 (q_ne kd_292 (by decide)) (q_e10 kd_292) rfl rfl rfl ?_
        refine q_bindE h (fun q9 hq9 h => ?_)
        refine q_callVi (As := [.int q8.1]) (rest := []) hx q_kR0 (c_X10_keeps (q_Xl X) G x q8.2 q8.1 hq9) q_ml_X10_140 q_mn_X10_keeps q_mi_X10_keeps q_se_X10_keeps (by decide) rfl (Nat.le_of_ble_eq_true rfl) dX10_deep_55 (q_ne kd_292 (by decide)) (q_e10 kd_292) rfl rfl rfl ?_
        cases h
        exact q_iret hx hr dX10_deep_58
      · replace h := (if_neg hc7).symm.trans h
        refine q_aload_n hx dX10_deep_40 0 rfl ?_
        refine q_iconst (v := 3) hx dX10_deep_41 (by decide) ?_
        refine q_callVi (As := [.int 3]) (rest := []) hx q_kR0 (c_X10_refused (q_Xl X) G x q6.2 3) q_ml_X10_134 q_mn_X10_refused q_mi_X10_refused q_se_X10_refused (by decide) rfl (Nat.le_of_ble_eq_true rfl) dX10_deep_42 (q_ne kd_292 (by decide)) (q_e10 kd_292) rfl rfl rfl ?_
        refine q_goto hx 58 dX10_deep_45 (by decide) ?_
        cases h
        exact q_iret hx hr dX10_deep_58
    · replace h := (if_pos hc5).symm.trans h
      refine q_aload_n hx dX10_deep_25 0 rfl ?_
      refine q_iconst (v := 2) hx dX10_deep_26 (by decide) ?_
      refine q_callVi (As := [.int 2]) (rest := []) hx q_kR0 (c_X10_no (q_Xl X) G x q1 2) q_ml_X10_103 q_mn_X10_no q_mi_X10_no q_se_X10_no (by decide) rfl (Nat.le_of_ble_eq_true rfl) dX10_deep_27 (q_ne kd_292 (by decide)) (q_e10 kd_292) rfl rfl rfl ?_
      cases h
      exact q_iret hx hr dX10_deep_30
  · replace h := (if_pos hc3).symm.trans h
    refine q_aload_n hx dX10_deep_12 0 rfl ?_
    refine q_iconst (v := 1) hx dX10_deep_13 (by decide) ?_
    refine q_callVi (As := [.int 1]) (rest := []) hx q_kR0 (c_X10_no (q_Xl X) G x q1 1) q_ml_X10_103 q_mn_X10_no q_mi_X10_no q_se_X10_no (by decide) rfl (Nat.le_of_ble_eq_true rfl) dX10_deep_14 (q_ne kd_292 (by decide)) (q_e10 kd_292) rfl rfl rfl ?_
    cases h
    exact q_iret hx hr dX10_deep_17
-- X10_areHours
def f_X10_areHours (a0 : Int32) : Option (Int32) :=
  if ((f_X10_in a0 1 20) = 0 ∨ (f_X10_in a0 1 20) = 1) then some ((f_X10_in a0 1 20)) else none
set_option maxHeartbeats 4000000 in
set_option maxRecDepth 100000 in
theorem c_X10_areHours (l : Launch) (G : q_G) (x : q_A) (σ : q_S) (a0 : Int32)  {res : Int32} (h : f_X10_areHours a0 = some res) : q_Met l yX10_areHours cX10_areHours 1 (some .boolean) 2 G [.int a0] σ x (q_Qi G x res σ) := by
  refine q_of (by decide) (Nat.le_of_ble_eq_true rfl) (fun X hl0 hx hr => ?_)
  subst hl0
  have hx : q_Cx X G RX10 cX10_areHours 1 2 := hx
  unfold f_X10_areHours at h
  show q_Wq X G x 1 (q_MQ X G (q_Qi G x res σ)) 0 0 0 [(0, .int a0)] [] σ
  refine q_iload_n hx dX10_areHours_0 0 rfl ?_
  refine q_iconst (v := 1) hx dX10_areHours_1 (by decide) ?_
  refine q_bipush (v := 20) hx dX10_areHours_2 (by decide) ?_
  refine q_callSi (As := [.int a0, .int 1, .int 20]) (rest := []) hx q_kR0 (c_X10_in (q_Xl X) G x σ a0 1 20) q_ml_X10_115 q_mn_X10_in q_ms_X10_in (by decide) rfl (Nat.le_of_ble_eq_true rfl) dX10_areHours_4 rfl ?_
  by_cases hg1 : ((f_X10_in a0 1 20) = 0 ∨ (f_X10_in a0 1 20) = 1)
  case neg => rw [if_neg hg1] at h; exact nomatch h
  replace h := (if_pos hg1).symm.trans h
  cases h
  exact q_zret hx hr (q_zn hg1) dX10_areHours_7
-- X10_depthIn
def f_X10_depthIn (σ : q_S) (a1 : Int32) (a2 : Int32) : Option (Int32) :=
  Option.bind (f_X10_sv σ a1 0) (fun q1 => if q1 ≤ a2 then (some 0) else (Option.bind (f_X10_sv σ a1 0) (fun q3 => some (q3 - a2))))
set_option maxHeartbeats 4000000 in
set_option maxRecDepth 100000 in
theorem c_X10_depthIn (l : Launch) (G : q_G) (x : q_A) (σ : q_S) (a1 : Int32) (a2 : Int32)  {res : Int32} (h : f_X10_depthIn σ a1 a2 = some res) : q_Met l yX10_depthIn cX10_depthIn 3 (some .int) 2 G [.ref (G.2.1 + 292), .int a1, .int a2] σ x (q_Qi G x res σ) := by
  refine q_of (by decide) (Nat.le_of_ble_eq_true rfl) (fun X hl0 hx hr => ?_)
  subst hl0
  have hx : q_Cx X G RX10 cX10_depthIn 3 2 := hx
  unfold f_X10_depthIn at h
  show q_Wq X G x 3 (q_MQ X G (q_Qi G x res σ)) 0 0 0 [(0, .ref (G.2.1 + 292)), (1, .int a1), (2, .int a2)] [] σ
  refine q_aload_n hx dX10_depthIn_0 0 rfl ?_
  refine q_iload_n hx dX10_depthIn_1 1 rfl ?_
  refine q_iconst (v := 0) hx dX10_depthIn_2 (by decide) ?_
  refine q_bindE h (fun q1 hq1 h => ?_)
  refine q_callVi (As := [.int a1, .int 0]) (rest := []) hx q_kR0 (c_X10_sv (q_Xl X) G x σ a1 0 hq1) q_ml_X10_111 q_mn_X10_sv q_mi_X10_sv q_se_X10_sv (by decide) rfl (Nat.le_of_ble_eq_true rfl) dX10_depthIn_3 (q_ne kd_292 (by decide)) (q_e10 kd_292) rfl rfl rfl ?_
  refine q_iload_n hx dX10_depthIn_6 2 rfl ?_
  refine q_icmp_le hx 21 dX10_depthIn_7 (by decide) (fun hc2 => ?_) (fun hc2 => ?_)
  · replace h := (if_pos hc2).symm.trans h
    refine q_iconst (v := 0) hx dX10_depthIn_21 (by decide) ?_
    cases h
    exact q_iret hx hr dX10_depthIn_22
  · replace h := (if_neg hc2).symm.trans h
    refine q_aload_n hx dX10_depthIn_10 0 rfl ?_
    refine q_iload_n hx dX10_depthIn_11 1 rfl ?_
    refine q_iconst (v := 0) hx dX10_depthIn_12 (by decide) ?_
    refine q_bindE h (fun q3 hq3 h => ?_)
    refine q_callVi (As := [.int a1, .int 0]) (rest := []) hx q_kR0 (c_X10_sv (q_Xl X) G x σ a1 0 hq3) q_ml_X10_111 q_mn_X10_sv q_mi_X10_sv q_se_X10_sv (by decide) rfl (Nat.le_of_ble_eq_true rfl) dX10_depthIn_13 (q_ne kd_292 (by decide)) (q_e10 kd_292) rfl rfl rfl ?_
    refine q_iload_n hx dX10_depthIn_16 2 rfl ?_
    refine q_isub hx dX10_depthIn_17 ?_
    refine q_goto hx 22 dX10_depthIn_18 (by decide) ?_
    cases h
    exact q_iret hx hr dX10_depthIn_22
-- X10_goesBy
def f_X10_goesBy_38 (k4 : Int32 → Int32 → Int32 → q_S → Option (Int32 × q_S)) (v1 : Int32) (v3 : Int32) (s0 : Int32) (s1 : Int32) (σ : q_S) : Option (Int32 × q_S) :=
  Option.bind (f_X10_depthIn σ v3 v1) (fun q4 => Option.bind (f_X10_ls σ v3 0 q4) (fun q5 => k4 v1 (s1 + s0) (v3 + 1) q5))
set_option maxHeartbeats 4000000 in
set_option maxRecDepth 100000 in
theorem s_X10_goesBy_38 {X : q_X} {G : q_G} {x : q_A} (hx : q_Cx X G RX10 cX10_goesBy 4 3) (hr : (q_Xm X).sig.returnType = some .int) {res : Int32 × q_S} {k4 : Int32 → Int32 → Int32 → q_S → Option (Int32 × q_S)} (hk4 : ∀ (v1 : Int32) (v2 : Int32) (v3 : Int32) (σ : q_S), k4 v1 v2 v3 σ = some res → q_Wq X G x 4 (q_MQ X G (q_Qi G x res.1 res.2)) 0 0 4 [(0, .ref (G.2.1 + 292)), (1, .int v1), (2, .int v2), (3, .int v3)] [] σ) : ∀ (v1 : Int32) (v3 : Int32) (s0 : Int32) (s1 : Int32) (σ : q_S), f_X10_goesBy_38 k4 v1 v3 s0 s1 σ = some res → q_Wq X G x 4 (q_MQ X G (q_Qi G x res.1 res.2)) 0 0 38 [(0, .ref (G.2.1 + 292)), (1, .int v1), (3, .int v3)] [.int s0, .int s1] σ := by
  intro v1 v3 s0 s1 σ h
  unfold f_X10_goesBy_38 at h
  refine q_iadd hx dX10_goesBy_38 ?_
  refine q_istore_n hx [(2, .int (s1 + s0)), (0, .ref (G.2.1 + 292)), (1, .int v1), (3, .int v3)] dX10_goesBy_39 (by decide) rfl ?_
  refine q_aload_n hx dX10_goesBy_40 1 rfl ?_
  refine q_iload_n hx dX10_goesBy_41 3 rfl ?_
  refine q_iconst (v := 0) hx dX10_goesBy_42 (by decide) ?_
  refine q_aload_n hx dX10_goesBy_43 1 rfl ?_
  refine q_iload_n hx dX10_goesBy_44 3 rfl ?_
  refine q_iload_n hx dX10_goesBy_45 2 rfl ?_
  refine q_bindE h (fun q4 hq4 h => ?_)
  refine q_callVi (As := [.int v3, .int v1]) (rest := [.int 0, .int v3, .ref (G.2.1 + 292)]) hx q_kR0 (c_X10_depthIn (q_Xl X) G x σ v3 v1 hq4) q_ml_X10_249 q_mn_X10_depthIn q_mi_X10_depthIn q_se_X10_depthIn (by decide) rfl (Nat.le_of_ble_eq_true rfl) dX10_goesBy_46 (q_ne kd_292 (by decide)) (q_e10 kd_292) rfl rfl rfl ?_
  refine q_bindE h (fun q5 hq5 h => ?_)
  refine q_callVv (As := [.int v3, .int 0, .int q4]) (rest := []) hx q_kR0 (c_X10_ls (q_Xl X) G x σ v3 0 q4 hq5) q_ml_X10_123 q_mn_X10_ls q_mi_X10_ls q_se_X10_ls (by decide) rfl (Nat.le_of_ble_eq_true rfl) dX10_goesBy_49 (q_ne kd_292 (by decide)) (q_e10 kd_292) rfl rfl rfl ?_
  refine q_iinc hx [(3, .int (v3 + 1)), (2, .int (s1 + s0)), (0, .ref (G.2.1 + 292)), (1, .int v1)] dX10_goesBy_52 3 rfl rfl (by decide) rfl ?_
  refine q_goto hx 4 dX10_goesBy_55 (by decide) ?_
  refine q_sub [2, 3, 1, 0] rfl ?_
  exact hk4 v1 (s1 + s0) (v3 + 1) q5 h
def f_X10_goesBy_37 (k4 : Int32 → Int32 → Int32 → q_S → Option (Int32 × q_S)) (v1 : Int32) (v3 : Int32) (s0 : Int32) (σ : q_S) : Option (Int32 × q_S) :=
  f_X10_goesBy_38 k4 v1 v3 0 s0 σ
set_option maxHeartbeats 4000000 in
set_option maxRecDepth 100000 in
theorem s_X10_goesBy_37 {X : q_X} {G : q_G} {x : q_A} (hx : q_Cx X G RX10 cX10_goesBy 4 3) (hr : (q_Xm X).sig.returnType = some .int) {res : Int32 × q_S} {k4 : Int32 → Int32 → Int32 → q_S → Option (Int32 × q_S)} (hk4 : ∀ (v1 : Int32) (v2 : Int32) (v3 : Int32) (σ : q_S), k4 v1 v2 v3 σ = some res → q_Wq X G x 4 (q_MQ X G (q_Qi G x res.1 res.2)) 0 0 4 [(0, .ref (G.2.1 + 292)), (1, .int v1), (2, .int v2), (3, .int v3)] [] σ) : ∀ (v1 : Int32) (v3 : Int32) (s0 : Int32) (σ : q_S), f_X10_goesBy_37 k4 v1 v3 s0 σ = some res → q_Wq X G x 4 (q_MQ X G (q_Qi G x res.1 res.2)) 0 0 37 [(0, .ref (G.2.1 + 292)), (1, .int v1), (3, .int v3)] [.int s0] σ := by
  intro v1 v3 s0 σ h
  unfold f_X10_goesBy_37 at h
  refine q_iconst (v := 0) hx dX10_goesBy_37 (by decide) ?_
  refine q_sub [0, 1, 2] rfl ?_
  exact s_X10_goesBy_38 hx hr hk4 v1 v3 0 s0 σ h
def f_X10_goesBy_4 : Nat → Int32 → Int32 → Int32 → q_S → Option (Int32 × q_S)
  | 0, _, _, _, _ => none
  | n + 1, v1, v2, v3, σ =>
    if (σ 293 0) ≤ v3 then (some ((v2, q_up σ 293 2 ((σ 293 2) + v1)))) else (Option.bind (f_X10_sv σ v3 0) (fun q2 => if q2 ≤ 0 then (f_X10_goesBy_37 (f_X10_goesBy_4 n) v1 v3 v2 σ) else (Option.bind (f_X10_depthIn σ v3 v1) (fun q6 => if q6 = 0 then (f_X10_goesBy_38 (f_X10_goesBy_4 n) v1 v3 1 v2 σ) else (f_X10_goesBy_37 (f_X10_goesBy_4 n) v1 v3 v2 σ)))))
set_option maxHeartbeats 4000000 in
set_option maxRecDepth 100000 in
theorem s_X10_goesBy_4 {X : q_X} {G : q_G} {x : q_A} (hx : q_Cx X G RX10 cX10_goesBy 4 3) (hr : (q_Xm X).sig.returnType = some .int) {res : Int32 × q_S} : ∀ (n : Nat) (v1 : Int32) (v2 : Int32) (v3 : Int32) (σ : q_S), f_X10_goesBy_4 n v1 v2 v3 σ = some res → q_Wq X G x 4 (q_MQ X G (q_Qi G x res.1 res.2)) 0 0 4 [(0, .ref (G.2.1 + 292)), (1, .int v1), (2, .int v2), (3, .int v3)] [] σ := by
  intro n
  induction n with
  | zero => exact fun _ _ _ _ h => nomatch (show (none : Option (Int32 × q_S)) = some res from h)
  | succ n ih =>
    intro v1 v2 v3 σ h
    rw [f_X10_goesBy_4] at h
    refine q_iload_n hx dX10_goesBy_4 3 rfl ?_
    refine q_aload_n hx dX10_goesBy_5 0 rfl ?_
    refine q_get (v := .ref (G.2.1 + 293)) hx q_fl_X10_7 dX10_goesBy_6 (q_ne kd_292 (by decide)) (q_e10 kd_292) rfl ?_
    refine q_iconst (v := 0) hx dX10_goesBy_9 (by decide) ?_
    refine q_ialdK (N := 220) hx 0 dX10_goesBy_10 kd_293 (by decide) (by decide) (by decide) (by decide) ?_
    refine q_icmp_ge hx 58 dX10_goesBy_11 (by decide) (fun hc1 => ?_) (fun hc1 => ?_)
    · replace h := (if_pos hc1).symm.trans h
      refine q_aload_n hx dX10_goesBy_58 0 rfl ?_
      refine q_get (v := .ref (G.2.1 + 293)) hx q_fl_X10_7 dX10_goesBy_59 (q_ne kd_292 (by decide)) (q_e10 kd_292) rfl ?_
      refine q_iconst (v := 2) hx dX10_goesBy_62 (by decide) ?_
      refine q_dup2 hx dX10_goesBy_63 rfl rfl ?_
      refine q_ialdK (N := 220) hx 2 dX10_goesBy_64 kd_293 (by decide) (by decide) (by decide) (by decide) ?_
      refine q_iload_n hx dX10_goesBy_65 1 rfl ?_
      refine q_iadd hx dX10_goesBy_66 ?_
      refine q_iastK (N := 220) hx 2 dX10_goesBy_67 kd_293 (by decide) (by decide) (by decide) (by decide) ?_
      refine q_iload_n hx dX10_goesBy_68 2 rfl ?_
      cases h
      exact q_iret hx hr dX10_goesBy_69
    · replace h := (if_neg hc1).symm.trans h
      refine q_iload_n hx dX10_goesBy_14 2 rfl ?_
      refine q_aload_n hx dX10_goesBy_15 0 rfl ?_
      refine q_iload_n hx dX10_goesBy_16 3 rfl ?_
      refine q_iconst (v := 0) hx dX10_goesBy_17 (by decide) ?_
      refine q_bindE h (fun q2 hq2 h => ?_)
      refine q_callVi (As := [.int v3, .int 0]) (rest := [.int v2]) hx q_kR0 (c_X10_sv (q_Xl X) G x σ v3 0 hq2) q_ml_X10_111 q_mn_X10_sv q_mi_X10_sv q_se_X10_sv (by decide) rfl (Nat.le_of_ble_eq_true rfl) dX10_goesBy_18 (q_ne kd_292 (by decide)) (q_e10 kd_292) rfl rfl rfl ?_
      refine q_if_le hx 37 dX10_goesBy_21 (by decide) (fun hc3 => ?_) (fun hc3 => ?_)
      · replace h := (if_pos hc3).symm.trans h
        refine q_sub [0, 1, 3] rfl ?_
        exact s_X10_goesBy_37 hx hr (fun v1 v2 v3 σ h => ih v1 v2 v3 σ h) v1 v3 v2 σ h
      · replace h := (if_neg hc3).symm.trans h
        refine q_aload_n hx dX10_goesBy_24 0 rfl ?_
        refine q_iload_n hx dX10_goesBy_25 3 rfl ?_
        refine q_iload_n hx dX10_goesBy_26 1 rfl ?_
        refine q_bindE h (fun q6 hq6 h => ?_)
        refine q_callVi (As := [.int v3, .int v1]) (rest := [.int v2]) hx q_kR0 (c_X10_depthIn (q_Xl X) G x σ v3 v1 hq6) q_ml_X10_249 q_mn_X10_depthIn q_mi_X10_depthIn q_se_X10_depthIn (by decide) rfl (Nat.le_of_ble_eq_true rfl) dX10_goesBy_27 (q_ne kd_292 (by decide)) (q_e10 kd_292) rfl rfl rfl ?_
        refine q_if_ne hx 37 dX10_goesBy_30 (by decide) (fun hc7 => ?_) (fun hc7 => ?_)
        · replace h := (if_neg hc7).symm.trans h
          refine q_sub [0, 1, 3] rfl ?_
          exact s_X10_goesBy_37 hx hr (fun v1 v2 v3 σ h => ih v1 v2 v3 σ h) v1 v3 v2 σ h
        · replace h := (if_pos hc7).symm.trans h
          refine q_iconst (v := 1) hx dX10_goesBy_33 (by decide) ?_
          refine q_goto hx 38 dX10_goesBy_34 (by decide) ?_
          refine q_sub [0, 1, 3] rfl ?_
          exact s_X10_goesBy_38 hx hr (fun v1 v2 v3 σ h => ih v1 v2 v3 σ h) v1 v3 1 v2 σ h
def f_X10_goesBy (σ : q_S) (a1 : Int32) : Option (Int32 × q_S) :=
  f_X10_goesBy_4 q_fu a1 0 0 σ
set_option maxHeartbeats 4000000 in
set_option maxRecDepth 100000 in
theorem c_X10_goesBy (l : Launch) (G : q_G) (x : q_A) (σ : q_S) (a1 : Int32)  {res : Int32 × q_S} (h : f_X10_goesBy σ a1 = some res) : q_Met l yX10_goesBy cX10_goesBy 4 (some .int) 3 G [.ref (G.2.1 + 292), .int a1] σ x (q_Qi G x res.1 res.2) := by
  refine q_of (by decide) (Nat.le_of_ble_eq_true rfl) (fun X hl0 hx hr => ?_)
  subst hl0
  have hx : q_Cx X G RX10 cX10_goesBy 4 3 := hx
  unfold f_X10_goesBy at h
  show q_Wq X G x 4 (q_MQ X G (q_Qi G x res.1 res.2)) 0 0 0 [(0, .ref (G.2.1 + 292)), (1, .int a1)] [] σ
  refine q_iconst (v := 0) hx dX10_goesBy_0 (by decide) ?_
  refine q_istore_n hx [(2, .int 0), (0, .ref (G.2.1 + 292)), (1, .int a1)] dX10_goesBy_1 (by decide) rfl ?_
  refine q_iconst (v := 0) hx dX10_goesBy_2 (by decide) ?_
  refine q_istore_n hx [(3, .int 0), (2, .int 0), (0, .ref (G.2.1 + 292)), (1, .int a1)] dX10_goesBy_3 (by decide) rfl ?_
  refine q_sub [2, 3, 1, 0] rfl ?_
  exact s_X10_goesBy_4 hx hr q_fu a1 0 0 σ h
-- X10_dusk
def f_X10_dusk (σ : q_S) (a1 : Int32) : Option (Int32 × q_S) :=
  Option.bind (f_X10_begins σ) (fun q1 => Option.bind (f_X10_areHours a1) (fun q2 => if q2 = 0 then (some (((f_X10_no q1 1).1, (f_X10_no q1 1).2))) else (Option.bind (f_X10_goesBy q1 a1) (fun q4 => Option.bind (f_X10_keeps q4.2 q4.1) (fun q5 => some ((q5.1, q5.2)))))))
set_option maxHeartbeats 4000000 in
set_option maxRecDepth 100000 in
theorem c_X10_dusk (l : Launch) (G : q_G) (x : q_A) (σ : q_S) (a1 : Int32)  {res : Int32 × q_S} (h : f_X10_dusk σ a1 = some res) : q_Met l yX10_dusk cX10_dusk 2 (some .int) 4 G [.ref (G.2.1 + 292), .int a1] σ x (q_Qi G x res.1 res.2) := by
  refine q_of (by decide) (Nat.le_of_ble_eq_true rfl) (fun X hl0 hx hr => ?_)
  subst hl0
  have hx : q_Cx X G RX10 cX10_dusk 2 4 := hx
  unfold f_X10_dusk at h
  show q_Wq X G x 2 (q_MQ X G (q_Qi G x res.1 res.2)) 0 0 0 [(0, .ref (G.2.1 + 292)), (1, .int a1)] [] σ
  refine q_aload_n hx dX10_dusk_0 0 rfl ?_
  refine q_bindE h (fun q1 hq1 h => ?_)
  refine q_callVv (As := []) (rest := []) hx q_kR0 (c_X10_begins (q_Xl X) G x σ  hq1) q_ml_X10_127 q_mn_X10_begins q_mi_X10_begins q_se_X10_begins (by decide) rfl (Nat.le_of_ble_eq_true rfl) dX10_dusk_1 (q_ne kd_292 (by decide)) (q_e10 kd_292) rfl rfl rfl ?_
  refine q_iload_n hx dX10_dusk_4 1 rfl ?_
  refine q_bindE h (fun q2 hq2 h => ?_)
  refine q_callSi (As := [.int a1]) (rest := []) hx q_kR0 (c_X10_areHours (q_Xl X) G x q1 a1 hq2) q_ml_X10_252 q_mn_X10_areHours q_ms_X10_areHours (by decide) rfl (Nat.le_of_ble_eq_true rfl) dX10_dusk_5 rfl ?_
  refine q_if_eq hx 23 dX10_dusk_8 (by decide) (fun hc3 => ?_) (fun hc3 => ?_)
  · replace h := (if_pos hc3).symm.trans h
    refine q_aload_n hx dX10_dusk_23 0 rfl ?_
    refine q_iconst (v := 1) hx dX10_dusk_24 (by decide) ?_
    refine q_callVi (As := [.int 1]) (rest := []) hx q_kR0 (c_X10_no (q_Xl X) G x q1 1) q_ml_X10_103 q_mn_X10_no q_mi_X10_no q_se_X10_no (by decide) rfl (Nat.le_of_ble_eq_true rfl) dX10_dusk_25 (q_ne kd_292 (by decide)) (q_e10 kd_292) rfl rfl rfl ?_
    cases h
    exact q_iret hx hr dX10_dusk_28
  · replace h := (if_neg hc3).symm.trans h
    refine q_aload_n hx dX10_dusk_11 0 rfl ?_
    refine q_aload_n hx dX10_dusk_12 0 rfl ?_
    refine q_iload_n hx dX10_dusk_13 1 rfl ?_
    refine q_bindE h (fun q4 hq4 h => ?_)
    refine q_callVi (As := [.int a1]) (rest := [.ref (G.2.1 + 292)]) hx q_kR0 (c_X10_goesBy (q_Xl X) G x q1 a1 hq4) q_ml_X10_255 q_mn_X10_goesBy q_mi_X10_goesBy q_se_X10_goesBy (by decide) rfl (Nat.le_of_ble_eq_true rfl) dX10_dusk_14 (q_ne kd_292 (by decide)) (q_e10 kd_292) rfl rfl rfl ?_
    refine q_bindE h (fun q5 hq5 h => ?_)
    refine q_callVi (As := [.int q4.1]) (rest := []) hx q_kR0 (c_X10_keeps (q_Xl X) G x q4.2 q4.1 hq5) q_ml_X10_140 q_mn_X10_keeps q_mi_X10_keeps q_se_X10_keeps (by decide) rfl (Nat.le_of_ble_eq_true rfl) dX10_dusk_17 (q_ne kd_292 (by decide)) (q_e10 kd_292) rfl rfl rfl ?_
    refine q_goto hx 28 dX10_dusk_20 (by decide) ?_
    cases h
    exact q_iret hx hr dX10_dusk_28
-- X10_ownerIn
def f_X10_ownerIn_6 (σ : q_S) : Nat → Int32 → Int32 → Int32 → Int32 → Int32 → Option (Int32)
  | 0, _, _, _, _, _ => none
  | n + 1, v1, v2, v3, v4, v5 =>
    if (σ 293 0) ≤ v5 then (some v4) else (Option.bind (f_X10_depthIn σ v5 v3) (fun q2 => if q2 ≤ 0 then (f_X10_ownerIn_6 σ n v1 v2 v3 v4 (v5 + 1)) else (Option.bind (f_X10_isIn σ v5 v1 v2) (fun q4 => if q4 = 0 then (f_X10_ownerIn_6 σ n v1 v2 v3 v4 (v5 + 1)) else (if v4 < 0 then (f_X10_ownerIn_6 σ n v1 v2 v3 v5 (v5 + 1)) else (Option.bind (f_X10_depthIn σ v5 v3) (fun q7 => Option.bind (f_X10_depthIn σ v4 v3) (fun q8 => if q7 ≤ q8 then (f_X10_ownerIn_6 σ n v1 v2 v3 v4 (v5 + 1)) else (f_X10_ownerIn_6 σ n v1 v2 v3 v5 (v5 + 1))))))))))
set_option maxHeartbeats 4000000 in
set_option maxRecDepth 100000 in
theorem s_X10_ownerIn_6 {X : q_X} {G : q_G} {x : q_A} (σ : q_S) (hx : q_Cx X G RX10 cX10_ownerIn 6 4) (hr : (q_Xm X).sig.returnType = some .int) {res : Int32} : ∀ (n : Nat) (v1 : Int32) (v2 : Int32) (v3 : Int32) (v4 : Int32) (v5 : Int32), f_X10_ownerIn_6 σ n v1 v2 v3 v4 v5 = some res → q_Wq X G x 6 (q_MQ X G (q_Qi G x res σ)) 0 0 6 [(0, .ref (G.2.1 + 292)), (1, .int v1), (2, .int v2), (3, .int v3), (4, .int v4), (5, .int v5)] [] σ := by
  intro n
  induction n with
  | zero => exact fun _ _ _ _ _ h => nomatch (show (none : Option (Int32)) = some res from h)
  | succ n ih =>
    intro v1 v2 v3 v4 v5 h
    rw [f_X10_ownerIn_6] at h
    refine q_iload hx dX10_ownerIn_6 5 rfl ?_
    refine q_aload_n hx dX10_ownerIn_8 0 rfl ?_
    refine q_get (v := .ref (G.2.1 + 293)) hx q_fl_X10_7 dX10_ownerIn_9 (q_ne kd_292 (by decide)) (q_e10 kd_292) rfl ?_
    refine q_iconst (v := 0) hx dX10_ownerIn_12 (by decide) ?_
    refine q_ialdK (N := 220) hx 0 dX10_ownerIn_13 kd_293 (by decide) (by decide) (by decide) (by decide) ?_
    refine q_icmp_ge hx 70 dX10_ownerIn_14 (by decide) (fun hc1 => ?_) (fun hc1 => ?_)
    · replace h := (if_pos hc1).symm.trans h
      refine q_iload hx dX10_ownerIn_70 4 rfl ?_
      cases h
      exact q_iret hx hr dX10_ownerIn_72
    · replace h := (if_neg hc1).symm.trans h
      refine q_aload_n hx dX10_ownerIn_17 0 rfl ?_
      refine q_iload hx dX10_ownerIn_18 5 rfl ?_
      refine q_iload_n hx dX10_ownerIn_20 3 rfl ?_
      refine q_bindE h (fun q2 hq2 h => ?_)
      refine q_callVi (As := [.int v5, .int v3]) (rest := []) hx q_kR0 (c_X10_depthIn (q_Xl X) G x σ v5 v3 hq2) q_ml_X10_249 q_mn_X10_depthIn q_mi_X10_depthIn q_se_X10_depthIn (by decide) rfl (Nat.le_of_ble_eq_true rfl) dX10_ownerIn_21 (q_ne kd_292 (by decide)) (q_e10 kd_292) rfl rfl rfl ?_
      refine q_if_le hx 64 dX10_ownerIn_24 (by decide) (fun hc3 => ?_) (fun hc3 => ?_)
      · replace h := (if_pos hc3).symm.trans h
        refine q_iinc hx [(5, .int (v5 + 1)), (0, .ref (G.2.1 + 292)), (1, .int v1), (2, .int v2), (3, .int v3), (4, .int v4)] dX10_ownerIn_64 5 rfl rfl (by decide) rfl ?_
        refine q_goto hx 6 dX10_ownerIn_67 (by decide) ?_
        refine q_sub [1, 2, 3, 4, 5, 0] rfl ?_
        exact ih v1 v2 v3 v4 (v5 + 1) h
      · replace h := (if_neg hc3).symm.trans h
        refine q_aload_n hx dX10_ownerIn_27 0 rfl ?_
        refine q_iload hx dX10_ownerIn_28 5 rfl ?_
        refine q_iload_n hx dX10_ownerIn_30 1 rfl ?_
        refine q_iload_n hx dX10_ownerIn_31 2 rfl ?_
        refine q_bindE h (fun q4 hq4 h => ?_)
        refine q_callVi (As := [.int v5, .int v1, .int v2]) (rest := []) hx q_kR0 (c_X10_isIn (q_Xl X) G x σ v5 v1 v2 hq4) q_ml_X10_258 q_mn_X10_isIn q_mi_X10_isIn q_se_X10_isIn (by decide) rfl (Nat.le_of_ble_eq_true rfl) dX10_ownerIn_32 (q_ne kd_292 (by decide)) (q_e10 kd_292) rfl rfl rfl ?_
        refine q_if_eq hx 64 dX10_ownerIn_35 (by decide) (fun hc5 => ?_) (fun hc5 => ?_)
        · replace h := (if_pos hc5).symm.trans h
          refine q_iinc hx [(5, .int (v5 + 1)), (0, .ref (G.2.1 + 292)), (1, .int v1), (2, .int v2), (3, .int v3), (4, .int v4)] dX10_ownerIn_64 5 rfl rfl (by decide) rfl ?_
          refine q_goto hx 6 dX10_ownerIn_67 (by decide) ?_
          refine q_sub [1, 2, 3, 4, 5, 0] rfl ?_
          exact ih v1 v2 v3 v4 (v5 + 1) h
        · replace h := (if_neg hc5).symm.trans h
          refine q_iload hx dX10_ownerIn_38 4 rfl ?_
          refine q_if_lt hx 60 dX10_ownerIn_40 (by decide) (fun hc6 => ?_) (fun hc6 => ?_)
          · replace h := (if_pos hc6).symm.trans h
            refine q_iload hx dX10_ownerIn_60 5 rfl ?_
            refine q_istore hx [(4, .int v5), (0, .ref (G.2.1 + 292)), (1, .int v1), (2, .int v2), (3, .int v3), (5, .int v5)] dX10_ownerIn_62 (by decide) rfl ?_
            refine q_iinc hx [(5, .int (v5 + 1)), (4, .int v5), (0, .ref (G.2.1 + 292)), (1, .int v1), (2, .int v2), (3, .int v3)] dX10_ownerIn_64 5 rfl rfl (by decide) rfl ?_
            refine q_goto hx 6 dX10_ownerIn_67 (by decide) ?_
            refine q_sub [2, 3, 4, 5, 1, 0] rfl ?_
            exact ih v1 v2 v3 v5 (v5 + 1) h
          · replace h := (if_neg hc6).symm.trans h
            refine q_aload_n hx dX10_ownerIn_43 0 rfl ?_
            refine q_iload hx dX10_ownerIn_44 5 rfl ?_
            refine q_iload_n hx dX10_ownerIn_46 3 rfl ?_
            refine q_bindE h (fun q7 hq7 h => ?_)
            refine q_callVi (As := [.int v5, .int v3]) (rest := []) hx q_kR0 (c_X10_depthIn (q_Xl X) G x σ v5 v3 hq7) q_ml_X10_249 q_mn_X10_depthIn q_mi_X10_depthIn q_se_X10_depthIn (by decide) rfl (Nat.le_of_ble_eq_true rfl) dX10_ownerIn_47 (q_ne kd_292 (by decide)) (q_e10 kd_292) rfl rfl rfl ?_
            refine q_aload_n hx dX10_ownerIn_50 0 rfl ?_
            refine q_iload hx dX10_ownerIn_51 4 rfl ?_
            refine q_iload_n hx dX10_ownerIn_53 3 rfl ?_
            refine q_bindE h (fun q8 hq8 h => ?_)
            refine q_callVi (As := [.int v4, .int v3]) (rest := [.int q7]) hx q_kR0 (c_X10_depthIn (q_Xl X) G x σ v4 v3 hq8) q_ml_X10_249 q_mn_X10_depthIn q_mi_X10_depthIn q_se_X10_depthIn (by decide) rfl (Nat.le_of_ble_eq_true rfl) dX10_ownerIn_54 (q_ne kd_292 (by decide)) (q_e10 kd_292) rfl rfl rfl ?_
            refine q_icmp_le hx 64 dX10_ownerIn_57 (by decide) (fun hc9 => ?_) (fun hc9 => ?_)
            · replace h := (if_pos hc9).symm.trans h
              refine q_iinc hx [(5, .int (v5 + 1)), (0, .ref (G.2.1 + 292)), (1, .int v1), (2, .int v2), (3, .int v3), (4, .int v4)] dX10_ownerIn_64 5 rfl rfl (by decide) rfl ?_
              refine q_goto hx 6 dX10_ownerIn_67 (by decide) ?_
              refine q_sub [1, 2, 3, 4, 5, 0] rfl ?_
              exact ih v1 v2 v3 v4 (v5 + 1) h
            · replace h := (if_neg hc9).symm.trans h
              refine q_iload hx dX10_ownerIn_60 5 rfl ?_
              refine q_istore hx [(4, .int v5), (0, .ref (G.2.1 + 292)), (1, .int v1), (2, .int v2), (3, .int v3), (5, .int v5)] dX10_ownerIn_62 (by decide) rfl ?_
              refine q_iinc hx [(5, .int (v5 + 1)), (4, .int v5), (0, .ref (G.2.1 + 292)), (1, .int v1), (2, .int v2), (3, .int v3)] dX10_ownerIn_64 5 rfl rfl (by decide) rfl ?_
              refine q_goto hx 6 dX10_ownerIn_67 (by decide) ?_
              refine q_sub [2, 3, 4, 5, 1, 0] rfl ?_
              exact ih v1 v2 v3 v5 (v5 + 1) h
def f_X10_ownerIn (σ : q_S) (a1 : Int32) (a2 : Int32) (a3 : Int32) : Option (Int32) :=
  f_X10_ownerIn_6 σ q_fu a1 a2 a3 ((-1)) 0
set_option maxHeartbeats 4000000 in
set_option maxRecDepth 100000 in
theorem c_X10_ownerIn (l : Launch) (G : q_G) (x : q_A) (σ : q_S) (a1 : Int32) (a2 : Int32) (a3 : Int32)  {res : Int32} (h : f_X10_ownerIn σ a1 a2 a3 = some res) : q_Met l yX10_ownerIn cX10_ownerIn 6 (some .int) 4 G [.ref (G.2.1 + 292), .int a1, .int a2, .int a3] σ x (q_Qi G x res σ) := by
  refine q_of (by decide) (Nat.le_of_ble_eq_true rfl) (fun X hl0 hx hr => ?_)
  subst hl0
  have hx : q_Cx X G RX10 cX10_ownerIn 6 4 := hx
  unfold f_X10_ownerIn at h
  show q_Wq X G x 6 (q_MQ X G (q_Qi G x res σ)) 0 0 0 [(0, .ref (G.2.1 + 292)), (1, .int a1), (2, .int a2), (3, .int a3)] [] σ
  refine q_iconst (v := (-1)) hx dX10_ownerIn_0 (by decide) ?_
  refine q_istore hx [(4, .int ((-1))), (0, .ref (G.2.1 + 292)), (1, .int a1), (2, .int a2), (3, .int a3)] dX10_ownerIn_1 (by decide) rfl ?_
  refine q_iconst (v := 0) hx dX10_ownerIn_3 (by decide) ?_
  refine q_istore hx [(5, .int 0), (4, .int ((-1))), (0, .ref (G.2.1 + 292)), (1, .int a1), (2, .int a2), (3, .int a3)] dX10_ownerIn_4 (by decide) rfl ?_
  refine q_sub [2, 3, 4, 5, 1, 0] rfl ?_
  exact s_X10_ownerIn_6 σ hx hr q_fu a1 a2 a3 ((-1)) 0 h
-- X10_ownerAt
def f_X10_ownerAt (σ : q_S) (a1 : Int32) (a2 : Int32) : Option (Int32) :=
  if ((f_X10_isCell a1 a2)) = 0 then (some ((-1))) else (Option.bind (f_X10_ownerIn σ a1 a2 0) (fun q2 => some q2))
set_option maxHeartbeats 4000000 in
set_option maxRecDepth 100000 in
theorem c_X10_ownerAt (l : Launch) (G : q_G) (x : q_A) (σ : q_S) (a1 : Int32) (a2 : Int32)  {res : Int32} (h : f_X10_ownerAt σ a1 a2 = some res) : q_Met l yX10_ownerAt cX10_ownerAt 3 (some .int) 5 G [.ref (G.2.1 + 292), .int a1, .int a2] σ x (q_Qi G x res σ) := by
  refine q_of (by decide) (Nat.le_of_ble_eq_true rfl) (fun X hl0 hx hr => ?_)
  subst hl0
  have hx : q_Cx X G RX10 cX10_ownerAt 3 5 := hx
  unfold f_X10_ownerAt at h
  show q_Wq X G x 3 (q_MQ X G (q_Qi G x res σ)) 0 0 0 [(0, .ref (G.2.1 + 292)), (1, .int a1), (2, .int a2)] [] σ
  refine q_iload_n hx dX10_ownerAt_0 1 rfl ?_
  refine q_iload_n hx dX10_ownerAt_1 2 rfl ?_
  refine q_callSi (As := [.int a1, .int a2]) (rest := []) hx q_kR0 (c_X10_isCell (q_Xl X) G x σ a1 a2) q_ml_X10_261 q_mn_X10_isCell q_ms_X10_isCell (by decide) rfl (Nat.le_of_ble_eq_true rfl) dX10_ownerAt_2 rfl ?_
  refine q_if_eq hx 18 dX10_ownerAt_5 (by decide) (fun hc1 => ?_) (fun hc1 => ?_)
  · replace h := (if_pos hc1).symm.trans h
    refine q_iconst (v := (-1)) hx dX10_ownerAt_18 (by decide) ?_
    cases h
    exact q_iret hx hr dX10_ownerAt_19
  · replace h := (if_neg hc1).symm.trans h
    refine q_aload_n hx dX10_ownerAt_8 0 rfl ?_
    refine q_iload_n hx dX10_ownerAt_9 1 rfl ?_
    refine q_iload_n hx dX10_ownerAt_10 2 rfl ?_
    refine q_iconst (v := 0) hx dX10_ownerAt_11 (by decide) ?_
    refine q_bindE h (fun q2 hq2 h => ?_)
    refine q_callVi (As := [.int a1, .int a2, .int 0]) (rest := []) hx q_kR0 (c_X10_ownerIn (q_Xl X) G x σ a1 a2 0 hq2) q_ml_X10_264 q_mn_X10_ownerIn q_mi_X10_ownerIn q_se_X10_ownerIn (by decide) rfl (Nat.le_of_ble_eq_true rfl) dX10_ownerAt_12 (q_ne kd_292 (by decide)) (q_e10 kd_292) rfl rfl rfl ?_
    refine q_goto hx 19 dX10_ownerAt_15 (by decide) ?_
    cases h
    exact q_iret hx hr dX10_ownerAt_19
-- X10_cellsIn
def f_X10_cellsIn_5 (σ : q_S) : Nat → Int32 → Int32 → Int32 → Int32 → Option (Int32)
  | 0, _, _, _, _ => none
  | n + 1, v1, v2, v3, v4 =>
    if 96 ≤ v4 then (some v3) else (Option.bind (f_X10_ownerIn σ (v4 - v4 / 12 * 12) (v4 / 12) v2) (fun q2 => if q2 = v1 then (f_X10_cellsIn_5 σ n v1 v2 (v3 + 1) (v4 + 1)) else (f_X10_cellsIn_5 σ n v1 v2 (v3 + 0) (v4 + 1))))
set_option maxHeartbeats 4000000 in
set_option maxRecDepth 100000 in
theorem s_X10_cellsIn_5 {X : q_X} {G : q_G} {x : q_A} (σ : q_S) (hx : q_Cx X G RX10 cX10_cellsIn 5 5) (hr : (q_Xm X).sig.returnType = some .int) {res : Int32} : ∀ (n : Nat) (v1 : Int32) (v2 : Int32) (v3 : Int32) (v4 : Int32), f_X10_cellsIn_5 σ n v1 v2 v3 v4 = some res → q_Wq X G x 5 (q_MQ X G (q_Qi G x res σ)) 0 0 5 [(0, .ref (G.2.1 + 292)), (1, .int v1), (2, .int v2), (3, .int v3), (4, .int v4)] [] σ := by
  intro n
  induction n with
  | zero => exact fun _ _ _ _ h => nomatch (show (none : Option (Int32)) = some res from h)
  | succ n ih =>
    intro v1 v2 v3 v4 h
    rw [f_X10_cellsIn_5] at h
    refine q_iload hx dX10_cellsIn_5 4 rfl ?_
    refine q_bipush (v := 96) hx dX10_cellsIn_7 (by decide) ?_
    refine q_icmp_ge hx 45 dX10_cellsIn_9 (by decide) (fun hc1 => ?_) (fun hc1 => ?_)
    · replace h := (if_pos hc1).symm.trans h
      refine q_iload_n hx dX10_cellsIn_45 3 rfl ?_
      cases h
      exact q_iret hx hr dX10_cellsIn_46
    · replace h := (if_neg hc1).symm.trans h
      refine q_iload_n hx dX10_cellsIn_12 3 rfl ?_
      refine q_aload_n hx dX10_cellsIn_13 0 rfl ?_
      refine q_iload hx dX10_cellsIn_14 4 rfl ?_
      refine q_bipush (v := 12) hx dX10_cellsIn_16 (by decide) ?_
      refine q_irem hx dX10_cellsIn_18 (by decide) ?_
      refine q_iload hx dX10_cellsIn_19 4 rfl ?_
      refine q_bipush (v := 12) hx dX10_cellsIn_21 (by decide) ?_
      refine q_idiv hx dX10_cellsIn_23 (by decide) ?_
      refine q_iload_n hx dX10_cellsIn_24 2 rfl ?_
      refine q_bindE h (fun q2 hq2 h => ?_)
      refine q_callVi (As := [.int (v4 - v4 / 12 * 12), .int (v4 / 12), .int v2]) (rest := [.int v3]) hx q_kR0 (c_X10_ownerIn (q_Xl X) G x σ (v4 - v4 / 12 * 12) (v4 / 12) v2 hq2) q_ml_X10_264 q_mn_X10_ownerIn q_mi_X10_ownerIn q_se_X10_ownerIn (by decide) rfl (Nat.le_of_ble_eq_true rfl) dX10_cellsIn_25 (q_ne kd_292 (by decide)) (q_e10 kd_292) rfl rfl rfl ?_
      refine q_iload_n hx dX10_cellsIn_28 1 rfl ?_
      refine q_icmp_ne hx 36 dX10_cellsIn_29 (by decide) (fun hc3 => ?_) (fun hc3 => ?_)
      · replace h := (if_neg hc3).symm.trans h
        refine q_iconst (v := 0) hx dX10_cellsIn_36 (by decide) ?_
        refine q_iadd hx dX10_cellsIn_37 ?_
        refine q_istore_n hx [(3, .int (v3 + 0)), (0, .ref (G.2.1 + 292)), (1, .int v1), (2, .int v2), (4, .int v4)] dX10_cellsIn_38 (by decide) rfl ?_
        refine q_iinc hx [(4, .int (v4 + 1)), (3, .int (v3 + 0)), (0, .ref (G.2.1 + 292)), (1, .int v1), (2, .int v2)] dX10_cellsIn_39 4 rfl rfl (by decide) rfl ?_
        refine q_goto hx 5 dX10_cellsIn_42 (by decide) ?_
        refine q_sub [2, 3, 4, 1, 0] rfl ?_
        exact ih v1 v2 (v3 + 0) (v4 + 1) h
      · replace h := (if_pos hc3).symm.trans h
        refine q_iconst (v := 1) hx dX10_cellsIn_32 (by decide) ?_
        refine q_goto hx 37 dX10_cellsIn_33 (by decide) ?_
        refine q_iadd hx dX10_cellsIn_37 ?_
        refine q_istore_n hx [(3, .int (v3 + 1)), (0, .ref (G.2.1 + 292)), (1, .int v1), (2, .int v2), (4, .int v4)] dX10_cellsIn_38 (by decide) rfl ?_
        refine q_iinc hx [(4, .int (v4 + 1)), (3, .int (v3 + 1)), (0, .ref (G.2.1 + 292)), (1, .int v1), (2, .int v2)] dX10_cellsIn_39 4 rfl rfl (by decide) rfl ?_
        refine q_goto hx 5 dX10_cellsIn_42 (by decide) ?_
        refine q_sub [2, 3, 4, 1, 0] rfl ?_
        exact ih v1 v2 (v3 + 1) (v4 + 1) h
def f_X10_cellsIn (σ : q_S) (a1 : Int32) (a2 : Int32) : Option (Int32) :=
  f_X10_cellsIn_5 σ q_fu a1 a2 0 0
set_option maxHeartbeats 4000000 in
set_option maxRecDepth 100000 in
theorem c_X10_cellsIn (l : Launch) (G : q_G) (x : q_A) (σ : q_S) (a1 : Int32) (a2 : Int32)  {res : Int32} (h : f_X10_cellsIn σ a1 a2 = some res) : q_Met l yX10_cellsIn cX10_cellsIn 5 (some .int) 5 G [.ref (G.2.1 + 292), .int a1, .int a2] σ x (q_Qi G x res σ) := by
  refine q_of (by decide) (Nat.le_of_ble_eq_true rfl) (fun X hl0 hx hr => ?_)
  subst hl0
  have hx : q_Cx X G RX10 cX10_cellsIn 5 5 := hx
  unfold f_X10_cellsIn at h
  show q_Wq X G x 5 (q_MQ X G (q_Qi G x res σ)) 0 0 0 [(0, .ref (G.2.1 + 292)), (1, .int a1), (2, .int a2)] [] σ
  refine q_iconst (v := 0) hx dX10_cellsIn_0 (by decide) ?_
  refine q_istore_n hx [(3, .int 0), (0, .ref (G.2.1 + 292)), (1, .int a1), (2, .int a2)] dX10_cellsIn_1 (by decide) rfl ?_
  refine q_iconst (v := 0) hx dX10_cellsIn_2 (by decide) ?_
  refine q_istore hx [(4, .int 0), (3, .int 0), (0, .ref (G.2.1 + 292)), (1, .int a1), (2, .int a2)] dX10_cellsIn_3 (by decide) rfl ?_
  refine q_sub [2, 3, 4, 1, 0] rfl ?_
  exact s_X10_cellsIn_5 σ hx hr q_fu a1 a2 0 0 h
-- X10_owner
def f_X10_owner_14 (v1 : Int32) (v2 : Int32) (s0 : Int32) (σ : q_S) : Option (Int32 × q_S) :=
  if ((q_up σ 292 4 s0) 292 4) ≤ 0 then (Option.bind (f_X10_ownerAt (q_up σ 292 4 s0) v1 v2) (fun q3 => some ((q3, q_up σ 292 4 s0)))) else (some ((0, q_up σ 292 4 s0)))
set_option maxHeartbeats 4000000 in
set_option maxRecDepth 100000 in
theorem s_X10_owner_14 {X : q_X} {G : q_G} {x : q_A} (hx : q_Cx X G RX10 cX10_owner 3 6) (hr : (q_Xm X).sig.returnType = some .int) {res : Int32 × q_S} : ∀ (v1 : Int32) (v2 : Int32) (s0 : Int32) (σ : q_S), f_X10_owner_14 v1 v2 s0 σ = some res → q_Wq X G x 3 (q_MQ X G (q_Qi G x res.1 res.2)) 0 0 14 [(0, .ref (G.2.1 + 292)), (1, .int v1), (2, .int v2)] [.int s0, .ref (G.2.1 + 292)] σ := by
  intro v1 v2 s0 σ h
  unfold f_X10_owner_14 at h
  refine q_put (v := s0) hx q_fl_X10_22 q_fp_10_4 dX10_owner_14 (q_ne kd_292 (by decide)) (q_e10 kd_292) (by rw [q_l10]; decide) rfl rfl (by rw [q_e10 kd_292, q_s10_4]) ?_
  refine q_aload_n hx dX10_owner_17 0 rfl ?_
  refine q_get (v := .int ((q_up σ 292 4 s0) 292 4)) hx q_fl_X10_22 dX10_owner_18 (q_ne kd_292 (by decide)) (q_e10 kd_292) rfl ?_
  refine q_if_le hx 28 dX10_owner_21 (by decide) (fun hc2 => ?_) (fun hc2 => ?_)
  · replace h := (if_pos hc2).symm.trans h
    refine q_aload_n hx dX10_owner_28 0 rfl ?_
    refine q_iload_n hx dX10_owner_29 1 rfl ?_
    refine q_iload_n hx dX10_owner_30 2 rfl ?_
    refine q_bindE h (fun q3 hq3 h => ?_)
    refine q_callVi (As := [.int v1, .int v2]) (rest := []) hx q_kR0 (c_X10_ownerAt (q_Xl X) G x (q_up σ 292 4 s0) v1 v2 hq3) q_ml_X10_267 q_mn_X10_ownerAt q_mi_X10_ownerAt q_se_X10_ownerAt (by decide) rfl (Nat.le_of_ble_eq_true rfl) dX10_owner_31 (q_ne kd_292 (by decide)) (q_e10 kd_292) rfl rfl rfl ?_
    cases h
    exact q_iret hx hr dX10_owner_34
  · replace h := (if_neg hc2).symm.trans h
    refine q_iconst (v := 0) hx dX10_owner_24 (by decide) ?_
    refine q_goto hx 34 dX10_owner_25 (by decide) ?_
    cases h
    exact q_iret hx hr dX10_owner_34
def f_X10_owner (σ : q_S) (a1 : Int32) (a2 : Int32) : Option (Int32 × q_S) :=
  if ((f_X10_isCell a1 a2)) = 0 then (f_X10_owner_14 a1 a2 1 σ) else (f_X10_owner_14 a1 a2 0 σ)
set_option maxHeartbeats 4000000 in
set_option maxRecDepth 100000 in
theorem c_X10_owner (l : Launch) (G : q_G) (x : q_A) (σ : q_S) (a1 : Int32) (a2 : Int32)  {res : Int32 × q_S} (h : f_X10_owner σ a1 a2 = some res) : q_Met l yX10_owner cX10_owner 3 (some .int) 6 G [.ref (G.2.1 + 292), .int a1, .int a2] σ x (q_Qi G x res.1 res.2) := by
  refine q_of (by decide) (Nat.le_of_ble_eq_true rfl) (fun X hl0 hx hr => ?_)
  subst hl0
  have hx : q_Cx X G RX10 cX10_owner 3 6 := hx
  unfold f_X10_owner at h
  show q_Wq X G x 3 (q_MQ X G (q_Qi G x res.1 res.2)) 0 0 0 [(0, .ref (G.2.1 + 292)), (1, .int a1), (2, .int a2)] [] σ
  refine q_aload_n hx dX10_owner_0 0 rfl ?_
  refine q_iload_n hx dX10_owner_1 1 rfl ?_
  refine q_iload_n hx dX10_owner_2 2 rfl ?_
  refine q_callSi (As := [.int a1, .int a2]) (rest := [.ref (G.2.1 + 292)]) hx q_kR0 (c_X10_isCell (q_Xl X) G x σ a1 a2) q_ml_X10_261 q_mn_X10_isCell q_ms_X10_isCell (by decide) rfl (Nat.le_of_ble_eq_true rfl) dX10_owner_3 rfl ?_
  refine q_if_eq hx 13 dX10_owner_6 (by decide) (fun hc1 => ?_) (fun hc1 => ?_)
  · replace h := (if_pos hc1).symm.trans h
    refine q_iconst (v := 1) hx dX10_owner_13 (by decide) ?_
    refine q_sub [0, 1, 2] rfl ?_
    exact s_X10_owner_14 hx hr a1 a2 1 σ h
  · replace h := (if_neg hc1).symm.trans h
    refine q_iconst (v := 0) hx dX10_owner_9 (by decide) ?_
    refine q_goto hx 14 dX10_owner_10 (by decide) ?_
    refine q_sub [0, 1, 2] rfl ?_
    exact s_X10_owner_14 hx hr a1 a2 0 σ h
-- X10_isInside
def f_X10_isInside_22 (v1 : Int32) (v2 : Int32) (v3 : Int32) (s0 : Int32) (σ : q_S) : Option (Int32 × q_S) :=
  if ((q_up σ 292 4 s0) 292 4) = 0 then (Option.bind (f_X10_isIn (q_up σ 292 4 s0) v1 v2 v3) (fun q4 => if q4 = 0 then (some ((0, q_up σ 292 4 s0))) else (some ((1, q_up σ 292 4 s0))))) else (some ((0, q_up σ 292 4 s0)))
set_option maxHeartbeats 4000000 in
set_option maxRecDepth 100000 in
theorem s_X10_isInside_22 {X : q_X} {G : q_G} {x : q_A} (hx : q_Cx X G RX10 cX10_isInside 4 4) (hr : (q_Xm X).sig.returnType = some .boolean) {res : Int32 × q_S} : ∀ (v1 : Int32) (v2 : Int32) (v3 : Int32) (s0 : Int32) (σ : q_S), f_X10_isInside_22 v1 v2 v3 s0 σ = some res → q_Wq X G x 4 (q_MQ X G (q_Qi G x res.1 res.2)) 0 0 22 [(0, .ref (G.2.1 + 292)), (1, .int v1), (2, .int v2), (3, .int v3)] [.int s0, .ref (G.2.1 + 292)] σ := by
  intro v1 v2 v3 s0 σ h
  unfold f_X10_isInside_22 at h
  refine q_put (v := s0) hx q_fl_X10_22 q_fp_10_4 dX10_isInside_22 (q_ne kd_292 (by decide)) (q_e10 kd_292) (by rw [q_l10]; decide) rfl rfl (by rw [q_e10 kd_292, q_s10_4]) ?_
  refine q_aload_n hx dX10_isInside_25 0 rfl ?_
  refine q_get (v := .int ((q_up σ 292 4 s0) 292 4)) hx q_fl_X10_22 dX10_isInside_26 (q_ne kd_292 (by decide)) (q_e10 kd_292) rfl ?_
  refine q_if_ne hx 46 dX10_isInside_29 (by decide) (fun hc3 => ?_) (fun hc3 => ?_)
  · replace h := (if_neg hc3).symm.trans h
    refine q_iconst (v := 0) hx dX10_isInside_46 (by decide) ?_
    cases h
    exact q_zret (v := 0) hx hr rfl dX10_isInside_47
  · replace h := (if_pos hc3).symm.trans h
    refine q_aload_n hx dX10_isInside_32 0 rfl ?_
    refine q_iload_n hx dX10_isInside_33 1 rfl ?_
    refine q_iload_n hx dX10_isInside_34 2 rfl ?_
    refine q_iload_n hx dX10_isInside_35 3 rfl ?_
    refine q_bindE h (fun q4 hq4 h => ?_)
    refine q_callVi (As := [.int v1, .int v2, .int v3]) (rest := []) hx q_kR0 (c_X10_isIn (q_Xl X) G x (q_up σ 292 4 s0) v1 v2 v3 hq4) q_ml_X10_258 q_mn_X10_isIn q_mi_X10_isIn q_se_X10_isIn (by decide) rfl (Nat.le_of_ble_eq_true rfl) dX10_isInside_36 (q_ne kd_292 (by decide)) (q_e10 kd_292) rfl rfl rfl ?_
    refine q_if_eq hx 46 dX10_isInside_39 (by decide) (fun hc5 => ?_) (fun hc5 => ?_)
    · replace h := (if_pos hc5).symm.trans h
      refine q_iconst (v := 0) hx dX10_isInside_46 (by decide) ?_
      cases h
      exact q_zret (v := 0) hx hr rfl dX10_isInside_47
    · replace h := (if_neg hc5).symm.trans h
      refine q_iconst (v := 1) hx dX10_isInside_42 (by decide) ?_
      refine q_goto hx 47 dX10_isInside_43 (by decide) ?_
      cases h
      exact q_zret (v := 1) hx hr rfl dX10_isInside_47
def f_X10_isInside_21 (v1 : Int32) (v2 : Int32) (v3 : Int32) (σ : q_S) : Option (Int32 × q_S) :=
  f_X10_isInside_22 v1 v2 v3 1 σ
set_option maxHeartbeats 4000000 in
set_option maxRecDepth 100000 in
theorem s_X10_isInside_21 {X : q_X} {G : q_G} {x : q_A} (hx : q_Cx X G RX10 cX10_isInside 4 4) (hr : (q_Xm X).sig.returnType = some .boolean) {res : Int32 × q_S} : ∀ (v1 : Int32) (v2 : Int32) (v3 : Int32) (σ : q_S), f_X10_isInside_21 v1 v2 v3 σ = some res → q_Wq X G x 4 (q_MQ X G (q_Qi G x res.1 res.2)) 0 0 21 [(0, .ref (G.2.1 + 292)), (1, .int v1), (2, .int v2), (3, .int v3)] [.ref (G.2.1 + 292)] σ := by
  intro v1 v2 v3 σ h
  unfold f_X10_isInside_21 at h
  refine q_iconst (v := 1) hx dX10_isInside_21 (by decide) ?_
  refine q_sub [0, 1, 2, 3] rfl ?_
  exact s_X10_isInside_22 hx hr v1 v2 v3 1 σ h
def f_X10_isInside (σ : q_S) (a1 : Int32) (a2 : Int32) (a3 : Int32) : Option (Int32 × q_S) :=
  Option.bind (f_X10_isSleeper σ a1) (fun q1 => if q1 = 0 then (f_X10_isInside_21 a1 a2 a3 σ) else (if ((f_X10_isCell a2 a3)) = 0 then (f_X10_isInside_21 a1 a2 a3 σ) else (f_X10_isInside_22 a1 a2 a3 0 σ)))
set_option maxHeartbeats 4000000 in
set_option maxRecDepth 100000 in
theorem c_X10_isInside (l : Launch) (G : q_G) (x : q_A) (σ : q_S) (a1 : Int32) (a2 : Int32) (a3 : Int32)  {res : Int32 × q_S} (h : f_X10_isInside σ a1 a2 a3 = some res) : q_Met l yX10_isInside cX10_isInside 4 (some .boolean) 4 G [.ref (G.2.1 + 292), .int a1, .int a2, .int a3] σ x (q_Qi G x res.1 res.2) := by
  refine q_of (by decide) (Nat.le_of_ble_eq_true rfl) (fun X hl0 hx hr => ?_)
  subst hl0
  have hx : q_Cx X G RX10 cX10_isInside 4 4 := hx
  unfold f_X10_isInside at h
  show q_Wq X G x 4 (q_MQ X G (q_Qi G x res.1 res.2)) 0 0 0 [(0, .ref (G.2.1 + 292)), (1, .int a1), (2, .int a2), (3, .int a3)] [] σ
  refine q_aload_n hx dX10_isInside_0 0 rfl ?_
  refine q_aload_n hx dX10_isInside_1 0 rfl ?_
  refine q_iload_n hx dX10_isInside_2 1 rfl ?_
  refine q_bindE h (fun q1 hq1 h => ?_)
  refine q_callVi (As := [.int a1]) (rest := [.ref (G.2.1 + 292)]) hx q_kR0 (c_X10_isSleeper (q_Xl X) G x σ a1 hq1) q_ml_X10_166 q_mn_X10_isSleeper q_mi_X10_isSleeper q_se_X10_isSleeper (by decide) rfl (Nat.le_of_ble_eq_true rfl) dX10_isInside_3 (q_ne kd_292 (by decide)) (q_e10 kd_292) rfl rfl rfl ?_
  refine q_if_eq hx 21 dX10_isInside_6 (by decide) (fun hc2 => ?_) (fun hc2 => ?_)
  · replace h := (if_pos hc2).symm.trans h
    refine q_sub [0, 1, 2, 3] rfl ?_
    exact s_X10_isInside_21 hx hr a1 a2 a3 σ h
  · replace h := (if_neg hc2).symm.trans h
    refine q_iload_n hx dX10_isInside_9 2 rfl ?_
    refine q_iload_n hx dX10_isInside_10 3 rfl ?_
    refine q_callSi (As := [.int a2, .int a3]) (rest := [.ref (G.2.1 + 292)]) hx q_kR0 (c_X10_isCell (q_Xl X) G x σ a2 a3) q_ml_X10_261 q_mn_X10_isCell q_ms_X10_isCell (by decide) rfl (Nat.le_of_ble_eq_true rfl) dX10_isInside_11 rfl ?_
    refine q_if_eq hx 21 dX10_isInside_14 (by decide) (fun hc6 => ?_) (fun hc6 => ?_)
    · replace h := (if_pos hc6).symm.trans h
      refine q_sub [0, 1, 2, 3] rfl ?_
      exact s_X10_isInside_21 hx hr a1 a2 a3 σ h
    · replace h := (if_neg hc6).symm.trans h
      refine q_iconst (v := 0) hx dX10_isInside_17 (by decide) ?_
      refine q_goto hx 22 dX10_isInside_18 (by decide) ?_
      refine q_sub [0, 1, 2, 3] rfl ?_
      exact s_X10_isInside_22 hx hr a1 a2 a3 0 σ h
-- X10_areaBy
def f_X10_areaBy_14 (v1 : Int32) (s0 : Int32) (σ : q_S) : Option (Int32 × q_S) :=
  if ((q_up σ 292 4 s0) 292 4) ≤ 0 then (Option.bind (f_X10_areaOf (q_up σ 292 4 s0) v1) (fun q4 => some ((q4, q_up σ 292 4 s0)))) else (some ((0, q_up σ 292 4 s0)))
set_option maxHeartbeats 4000000 in
set_option maxRecDepth 100000 in
theorem s_X10_areaBy_14 {X : q_X} {G : q_G} {x : q_A} (hx : q_Cx X G RX10 cX10_areaBy 2 5) (hr : (q_Xm X).sig.returnType = some .int) {res : Int32 × q_S} : ∀ (v1 : Int32) (s0 : Int32) (σ : q_S), f_X10_areaBy_14 v1 s0 σ = some res → q_Wq X G x 2 (q_MQ X G (q_Qi G x res.1 res.2)) 0 0 14 [(0, .ref (G.2.1 + 292)), (1, .int v1)] [.int s0, .ref (G.2.1 + 292)] σ := by
  intro v1 s0 σ h
  unfold f_X10_areaBy_14 at h
  refine q_put (v := s0) hx q_fl_X10_22 q_fp_10_4 dX10_areaBy_14 (q_ne kd_292 (by decide)) (q_e10 kd_292) (by rw [q_l10]; decide) rfl rfl (by rw [q_e10 kd_292, q_s10_4]) ?_
  refine q_aload_n hx dX10_areaBy_17 0 rfl ?_
  refine q_get (v := .int ((q_up σ 292 4 s0) 292 4)) hx q_fl_X10_22 dX10_areaBy_18 (q_ne kd_292 (by decide)) (q_e10 kd_292) rfl ?_
  refine q_if_le hx 28 dX10_areaBy_21 (by decide) (fun hc3 => ?_) (fun hc3 => ?_)
  · replace h := (if_pos hc3).symm.trans h
    refine q_aload_n hx dX10_areaBy_28 0 rfl ?_
    refine q_iload_n hx dX10_areaBy_29 1 rfl ?_
    refine q_bindE h (fun q4 hq4 h => ?_)
    refine q_callVi (As := [.int v1]) (rest := []) hx q_kR0 (c_X10_areaOf (q_Xl X) G x (q_up σ 292 4 s0) v1 hq4) q_ml_X10_219 q_mn_X10_areaOf q_mi_X10_areaOf q_se_X10_areaOf (by decide) rfl (Nat.le_of_ble_eq_true rfl) dX10_areaBy_30 (q_ne kd_292 (by decide)) (q_e10 kd_292) rfl rfl rfl ?_
    cases h
    exact q_iret hx hr dX10_areaBy_33
  · replace h := (if_neg hc3).symm.trans h
    refine q_iconst (v := 0) hx dX10_areaBy_24 (by decide) ?_
    refine q_goto hx 33 dX10_areaBy_25 (by decide) ?_
    cases h
    exact q_iret hx hr dX10_areaBy_33
def f_X10_areaBy (σ : q_S) (a1 : Int32) : Option (Int32 × q_S) :=
  Option.bind (f_X10_isSleeper σ a1) (fun q1 => if q1 = 0 then (f_X10_areaBy_14 a1 1 σ) else (f_X10_areaBy_14 a1 0 σ))
set_option maxHeartbeats 4000000 in
set_option maxRecDepth 100000 in
theorem c_X10_areaBy (l : Launch) (G : q_G) (x : q_A) (σ : q_S) (a1 : Int32)  {res : Int32 × q_S} (h : f_X10_areaBy σ a1 = some res) : q_Met l yX10_areaBy cX10_areaBy 2 (some .int) 5 G [.ref (G.2.1 + 292), .int a1] σ x (q_Qi G x res.1 res.2) := by
  refine q_of (by decide) (Nat.le_of_ble_eq_true rfl) (fun X hl0 hx hr => ?_)
  subst hl0
  have hx : q_Cx X G RX10 cX10_areaBy 2 5 := hx
  unfold f_X10_areaBy at h
  show q_Wq X G x 2 (q_MQ X G (q_Qi G x res.1 res.2)) 0 0 0 [(0, .ref (G.2.1 + 292)), (1, .int a1)] [] σ
  refine q_aload_n hx dX10_areaBy_0 0 rfl ?_
  refine q_aload_n hx dX10_areaBy_1 0 rfl ?_
  refine q_iload_n hx dX10_areaBy_2 1 rfl ?_
  refine q_bindE h (fun q1 hq1 h => ?_)
  refine q_callVi (As := [.int a1]) (rest := [.ref (G.2.1 + 292)]) hx q_kR0 (c_X10_isSleeper (q_Xl X) G x σ a1 hq1) q_ml_X10_166 q_mn_X10_isSleeper q_mi_X10_isSleeper q_se_X10_isSleeper (by decide) rfl (Nat.le_of_ble_eq_true rfl) dX10_areaBy_3 (q_ne kd_292 (by decide)) (q_e10 kd_292) rfl rfl rfl ?_
  refine q_if_eq hx 13 dX10_areaBy_6 (by decide) (fun hc2 => ?_) (fun hc2 => ?_)
  · replace h := (if_pos hc2).symm.trans h
    refine q_iconst (v := 1) hx dX10_areaBy_13 (by decide) ?_
    refine q_sub [0, 1] rfl ?_
    exact s_X10_areaBy_14 hx hr a1 1 σ h
  · replace h := (if_neg hc2).symm.trans h
    refine q_iconst (v := 0) hx dX10_areaBy_9 (by decide) ?_
    refine q_goto hx 14 dX10_areaBy_10 (by decide) ?_
    refine q_sub [0, 1] rfl ?_
    exact s_X10_areaBy_14 hx hr a1 0 σ h
-- X10_area
def f_X10_area (σ : q_S) (a1 : Int32) : Option (Int32 × q_S) :=
  Option.bind (f_X10_areaBy σ a1) (fun q1 => some ((q1.1, q1.2)))
set_option maxHeartbeats 4000000 in
set_option maxRecDepth 100000 in
theorem c_X10_area (l : Launch) (G : q_G) (x : q_A) (σ : q_S) (a1 : Int32)  {res : Int32 × q_S} (h : f_X10_area σ a1 = some res) : q_Met l yX10_area cX10_area 2 (some .int) 6 G [.ref (G.2.1 + 292), .int a1] σ x (q_Qi G x res.1 res.2) := by
  refine q_of (by decide) (Nat.le_of_ble_eq_true rfl) (fun X hl0 hx hr => ?_)
  subst hl0
  have hx : q_Cx X G RX10 cX10_area 2 6 := hx
  unfold f_X10_area at h
  show q_Wq X G x 2 (q_MQ X G (q_Qi G x res.1 res.2)) 0 0 0 [(0, .ref (G.2.1 + 292)), (1, .int a1)] [] σ
  refine q_aload_n hx dX10_area_0 0 rfl ?_
  refine q_iload_n hx dX10_area_1 1 rfl ?_
  refine q_bindE h (fun q1 hq1 h => ?_)
  refine q_callVi (As := [.int a1]) (rest := []) hx q_kR0 (c_X10_areaBy (q_Xl X) G x σ a1 hq1) q_ml_X10_270 q_mn_X10_areaBy q_mi_X10_areaBy q_se_X10_areaBy (by decide) rfl (Nat.le_of_ble_eq_true rfl) dX10_area_2 (q_ne kd_292 (by decide)) (q_e10 kd_292) rfl rfl rfl ?_
  cases h
  exact q_iret hx hr dX10_area_5
-- X10_areaAgain
def f_X10_areaAgain (σ : q_S) (a1 : Int32) : Option (Int32 × q_S) :=
  Option.bind (f_X10_areaBy σ a1) (fun q1 => some ((q1.1, q1.2)))
set_option maxHeartbeats 4000000 in
set_option maxRecDepth 100000 in
theorem c_X10_areaAgain (l : Launch) (G : q_G) (x : q_A) (σ : q_S) (a1 : Int32)  {res : Int32 × q_S} (h : f_X10_areaAgain σ a1 = some res) : q_Met l yX10_areaAgain cX10_areaAgain 2 (some .int) 6 G [.ref (G.2.1 + 292), .int a1] σ x (q_Qi G x res.1 res.2) := by
  refine q_of (by decide) (Nat.le_of_ble_eq_true rfl) (fun X hl0 hx hr => ?_)
  subst hl0
  have hx : q_Cx X G RX10 cX10_areaAgain 2 6 := hx
  unfold f_X10_areaAgain at h
  show q_Wq X G x 2 (q_MQ X G (q_Qi G x res.1 res.2)) 0 0 0 [(0, .ref (G.2.1 + 292)), (1, .int a1)] [] σ
  refine q_aload_n hx dX10_areaAgain_0 0 rfl ?_
  refine q_iload_n hx dX10_areaAgain_1 1 rfl ?_
  refine q_bindE h (fun q1 hq1 h => ?_)
  refine q_callVi (As := [.int a1]) (rest := []) hx q_kR0 (c_X10_areaBy (q_Xl X) G x σ a1 hq1) q_ml_X10_270 q_mn_X10_areaBy q_mi_X10_areaBy q_se_X10_areaBy (by decide) rfl (Nat.le_of_ble_eq_true rfl) dX10_areaAgain_2 (q_ne kd_292 (by decide)) (q_e10 kd_292) rfl rfl rfl ?_
  cases h
  exact q_iret hx hr dX10_areaAgain_5
-- X10_borderOf
def f_X10_borderOf_75 (k44 : Int32 → Int32 → Int32 → Int32 → q_S → Option (Int32 × q_S)) : Nat → Int32 → Int32 → Int32 → Int32 → Int32 → q_S → Option (Int32 × q_S)
  | 0, _, _, _, _, _, _ => none
  | n + 1, v1, v2, v3, v4, v5, σ =>
    if 4 ≤ v5 then (k44 v1 v2 v3 (v4 + 1) σ) else (Option.bind (f_X10_ownerAt σ ((v4 - v4 / 12 * 12) + ((f_X10_stepX v5))) ((v4 / 12) + ((f_X10_stepY v5)))) (fun q9 => if q9 = v2 then (f_X10_borderOf_75 k44 n v1 v2 (v3 + 1) v4 (v5 + 1) σ) else (f_X10_borderOf_75 k44 n v1 v2 (v3 + 0) v4 (v5 + 1) σ)))
set_option maxHeartbeats 4000000 in
set_option maxRecDepth 100000 in
theorem s_X10_borderOf_75 {X : q_X} {G : q_G} {x : q_A} (hx : q_Cx X G RX10 cX10_borderOf 6 6) (hr : (q_Xm X).sig.returnType = some .int) {res : Int32 × q_S} {k44 : Int32 → Int32 → Int32 → Int32 → q_S → Option (Int32 × q_S)} (hk44 : ∀ (v1 : Int32) (v2 : Int32) (v3 : Int32) (v4 : Int32) (σ : q_S), k44 v1 v2 v3 v4 σ = some res → q_Wq X G x 6 (q_MQ X G (q_Qi G x res.1 res.2)) 0 0 44 [(0, .ref (G.2.1 + 292)), (1, .int v1), (2, .int v2), (3, .int v3), (4, .int v4)] [] σ) : ∀ (n : Nat) (v1 : Int32) (v2 : Int32) (v3 : Int32) (v4 : Int32) (v5 : Int32) (σ : q_S), f_X10_borderOf_75 k44 n v1 v2 v3 v4 v5 σ = some res → q_Wq X G x 6 (q_MQ X G (q_Qi G x res.1 res.2)) 0 0 75 [(0, .ref (G.2.1 + 292)), (1, .int v1), (2, .int v2), (3, .int v3), (4, .int v4), (5, .int v5)] [] σ := by
  intro n
  induction n with
  | zero => exact fun _ _ _ _ _ _ h => nomatch (show (none : Option (Int32 × q_S)) = some res from h)
  | succ n ih =>
    intro v1 v2 v3 v4 v5 σ h
    rw [f_X10_borderOf_75] at h
    refine q_iload hx dX10_borderOf_75 5 rfl ?_
    refine q_iconst (v := 4) hx dX10_borderOf_77 (by decide) ?_
    refine q_icmp_ge hx 125 dX10_borderOf_78 (by decide) (fun hc8 => ?_) (fun hc8 => ?_)
    · replace h := (if_pos hc8).symm.trans h
      refine q_iinc hx [(4, .int (v4 + 1)), (0, .ref (G.2.1 + 292)), (1, .int v1), (2, .int v2), (3, .int v3), (5, .int v5)] dX10_borderOf_125 4 rfl rfl (by decide) rfl ?_
      refine q_goto hx 44 dX10_borderOf_128 (by decide) ?_
      refine q_sub [1, 2, 3, 4, 0] rfl ?_
      exact hk44 v1 v2 v3 (v4 + 1) σ h
    · replace h := (if_neg hc8).symm.trans h
      refine q_iload_n hx dX10_borderOf_81 3 rfl ?_
      refine q_aload_n hx dX10_borderOf_82 0 rfl ?_
      refine q_iload hx dX10_borderOf_83 4 rfl ?_
      refine q_bipush (v := 12) hx dX10_borderOf_85 (by decide) ?_
      refine q_irem hx dX10_borderOf_87 (by decide) ?_
      refine q_iload hx dX10_borderOf_88 5 rfl ?_
      refine q_callSi (As := [.int v5]) (rest := [.int (v4 - v4 / 12 * 12), .ref (G.2.1 + 292), .int v3]) hx q_kR0 (c_X10_stepX (q_Xl X) G x σ v5) q_ml_X10_181 q_mn_X10_stepX q_ms_X10_stepX (by decide) rfl (Nat.le_of_ble_eq_true rfl) dX10_borderOf_90 rfl ?_
      refine q_iadd hx dX10_borderOf_93 ?_
      refine q_iload hx dX10_borderOf_94 4 rfl ?_
      refine q_bipush (v := 12) hx dX10_borderOf_96 (by decide) ?_
      refine q_idiv hx dX10_borderOf_98 (by decide) ?_
      refine q_iload hx dX10_borderOf_99 5 rfl ?_
      refine q_callSi (As := [.int v5]) (rest := [.int (v4 / 12), .int ((v4 - v4 / 12 * 12) + ((f_X10_stepX v5))), .ref (G.2.1 + 292), .int v3]) hx q_kR0 (c_X10_stepY (q_Xl X) G x σ v5) q_ml_X10_184 q_mn_X10_stepY q_ms_X10_stepY (by decide) rfl (Nat.le_of_ble_eq_true rfl) dX10_borderOf_101 rfl ?_
      refine q_iadd hx dX10_borderOf_104 ?_
      refine q_bindE h (fun q9 hq9 h => ?_)
      refine q_callVi (As := [.int ((v4 - v4 / 12 * 12) + ((f_X10_stepX v5))), .int ((v4 / 12) + ((f_X10_stepY v5)))]) (rest := [.int v3]) hx q_kR0 (c_X10_ownerAt (q_Xl X) G x σ ((v4 - v4 / 12 * 12) + ((f_X10_stepX v5))) ((v4 / 12) + ((f_X10_stepY v5))) hq9) q_ml_X10_267 q_mn_X10_ownerAt q_mi_X10_ownerAt q_se_X10_ownerAt (by decide) rfl (Nat.le_of_ble_eq_true rfl) dX10_borderOf_105 (q_ne kd_292 (by decide)) (q_e10 kd_292) rfl rfl rfl ?_
      refine q_iload_n hx dX10_borderOf_108 2 rfl ?_
      refine q_icmp_ne hx 116 dX10_borderOf_109 (by decide) (fun hc10 => ?_) (fun hc10 => ?_)
      · replace h := (if_neg hc10).symm.trans h
        refine q_iconst (v := 0) hx dX10_borderOf_116 (by decide) ?_
        refine q_iadd hx dX10_borderOf_117 ?_
        refine q_istore_n hx [(3, .int (v3 + 0)), (0, .ref (G.2.1 + 292)), (1, .int v1), (2, .int v2), (4, .int v4), (5, .int v5)] dX10_borderOf_118 (by decide) rfl ?_
        refine q_iinc hx [(5, .int (v5 + 1)), (3, .int (v3 + 0)), (0, .ref (G.2.1 + 292)), (1, .int v1), (2, .int v2), (4, .int v4)] dX10_borderOf_119 5 rfl rfl (by decide) rfl ?_
        refine q_goto hx 75 dX10_borderOf_122 (by decide) ?_
        refine q_sub [2, 3, 4, 1, 5, 0] rfl ?_
        exact ih v1 v2 (v3 + 0) v4 (v5 + 1) σ h
      · replace h := (if_pos hc10).symm.trans h
        refine q_iconst (v := 1) hx dX10_borderOf_112 (by decide) ?_
        refine q_goto hx 117 dX10_borderOf_113 (by decide) ?_
        refine q_iadd hx dX10_borderOf_117 ?_
        refine q_istore_n hx [(3, .int (v3 + 1)), (0, .ref (G.2.1 + 292)), (1, .int v1), (2, .int v2), (4, .int v4), (5, .int v5)] dX10_borderOf_118 (by decide) rfl ?_
        refine q_iinc hx [(5, .int (v5 + 1)), (3, .int (v3 + 1)), (0, .ref (G.2.1 + 292)), (1, .int v1), (2, .int v2), (4, .int v4)] dX10_borderOf_119 5 rfl rfl (by decide) rfl ?_
        refine q_goto hx 75 dX10_borderOf_122 (by decide) ?_
        refine q_sub [2, 3, 4, 1, 5, 0] rfl ?_
        exact ih v1 v2 (v3 + 1) v4 (v5 + 1) σ h
def f_X10_borderOf_44 : Nat → Int32 → Int32 → Int32 → Int32 → q_S → Option (Int32 × q_S)
  | 0, _, _, _, _, _ => none
  | n + 1, v1, v2, v3, v4, σ =>
    if 96 ≤ v4 then (some ((v3, σ))) else (Option.bind (f_X10_ownerAt σ (v4 - v4 / 12 * 12) (v4 / 12)) (fun q6 => if q6 = v1 then (f_X10_borderOf_75 (f_X10_borderOf_44 n) q_fu v1 v2 v3 v4 0 σ) else (f_X10_borderOf_44 n v1 v2 v3 (v4 + 1) σ)))
set_option maxHeartbeats 4000000 in
set_option maxRecDepth 100000 in
theorem s_X10_borderOf_44 {X : q_X} {G : q_G} {x : q_A} (hx : q_Cx X G RX10 cX10_borderOf 6 6) (hr : (q_Xm X).sig.returnType = some .int) {res : Int32 × q_S} : ∀ (n : Nat) (v1 : Int32) (v2 : Int32) (v3 : Int32) (v4 : Int32) (σ : q_S), f_X10_borderOf_44 n v1 v2 v3 v4 σ = some res → q_Wq X G x 6 (q_MQ X G (q_Qi G x res.1 res.2)) 0 0 44 [(0, .ref (G.2.1 + 292)), (1, .int v1), (2, .int v2), (3, .int v3), (4, .int v4)] [] σ := by
  intro n
  induction n with
  | zero => exact fun _ _ _ _ _ h => nomatch (show (none : Option (Int32 × q_S)) = some res from h)
  | succ n ih =>
    intro v1 v2 v3 v4 σ h
    rw [f_X10_borderOf_44] at h
    refine q_iload hx dX10_borderOf_44 4 rfl ?_
    refine q_bipush (v := 96) hx dX10_borderOf_46 (by decide) ?_
    refine q_icmp_ge hx 131 dX10_borderOf_48 (by decide) (fun hc5 => ?_) (fun hc5 => ?_)
    · replace h := (if_pos hc5).symm.trans h
      refine q_iload_n hx dX10_borderOf_131 3 rfl ?_
      cases h
      exact q_iret hx hr dX10_borderOf_132
    · replace h := (if_neg hc5).symm.trans h
      refine q_aload_n hx dX10_borderOf_51 0 rfl ?_
      refine q_iload hx dX10_borderOf_52 4 rfl ?_
      refine q_bipush (v := 12) hx dX10_borderOf_54 (by decide) ?_
      refine q_irem hx dX10_borderOf_56 (by decide) ?_
      refine q_iload hx dX10_borderOf_57 4 rfl ?_
      refine q_bipush (v := 12) hx dX10_borderOf_59 (by decide) ?_
      refine q_idiv hx dX10_borderOf_61 (by decide) ?_
      refine q_bindE h (fun q6 hq6 h => ?_)
      refine q_callVi (As := [.int (v4 - v4 / 12 * 12), .int (v4 / 12)]) (rest := []) hx q_kR0 (c_X10_ownerAt (q_Xl X) G x σ (v4 - v4 / 12 * 12) (v4 / 12) hq6) q_ml_X10_267 q_mn_X10_ownerAt q_mi_X10_ownerAt q_se_X10_ownerAt (by decide) rfl (Nat.le_of_ble_eq_true rfl) dX10_borderOf_62 (q_ne kd_292 (by decide)) (q_e10 kd_292) rfl rfl rfl ?_
      refine q_iload_n hx dX10_borderOf_65 1 rfl ?_
      refine q_icmp_eq hx 72 dX10_borderOf_66 (by decide) (fun hc7 => ?_) (fun hc7 => ?_)
      · replace h := (if_pos hc7).symm.trans h
        refine q_iconst (v := 0) hx dX10_borderOf_72 (by decide) ?_
        refine q_istore hx [(5, .int 0), (0, .ref (G.2.1 + 292)), (1, .int v1), (2, .int v2), (3, .int v3), (4, .int v4)] dX10_borderOf_73 (by decide) rfl ?_
        refine q_sub [1, 2, 3, 4, 5, 0] rfl ?_
        exact s_X10_borderOf_75 hx hr (fun v1 v2 v3 v4 σ h => ih v1 v2 v3 v4 σ h) q_fu v1 v2 v3 v4 0 σ h
      · replace h := (if_neg hc7).symm.trans h
        refine q_goto hx 125 dX10_borderOf_69 (by decide) ?_
        refine q_iinc hx [(4, .int (v4 + 1)), (0, .ref (G.2.1 + 292)), (1, .int v1), (2, .int v2), (3, .int v3)] dX10_borderOf_125 4 rfl rfl (by decide) rfl ?_
        refine q_goto hx 44 dX10_borderOf_128 (by decide) ?_
        refine q_sub [1, 2, 3, 4, 0] rfl ?_
        exact ih v1 v2 v3 (v4 + 1) σ h
def f_X10_borderOf_22 (v1 : Int32) (v2 : Int32) (s0 : Int32) (σ : q_S) : Option (Int32 × q_S) :=
  if 0 < ((q_up σ 292 4 s0) 292 4) then (some ((0, q_up σ 292 4 s0))) else (if v1 = v2 then (some ((0, q_up σ 292 4 s0))) else (f_X10_borderOf_44 q_fu v1 v2 0 0 (q_up σ 292 4 s0)))
set_option maxHeartbeats 4000000 in
set_option maxRecDepth 100000 in
theorem s_X10_borderOf_22 {X : q_X} {G : q_G} {x : q_A} (hx : q_Cx X G RX10 cX10_borderOf 6 6) (hr : (q_Xm X).sig.returnType = some .int) {res : Int32 × q_S} : ∀ (v1 : Int32) (v2 : Int32) (s0 : Int32) (σ : q_S), f_X10_borderOf_22 v1 v2 s0 σ = some res → q_Wq X G x 6 (q_MQ X G (q_Qi G x res.1 res.2)) 0 0 22 [(0, .ref (G.2.1 + 292)), (1, .int v1), (2, .int v2)] [.int s0, .ref (G.2.1 + 292)] σ := by
  intro v1 v2 s0 σ h
  unfold f_X10_borderOf_22 at h
  refine q_put (v := s0) hx q_fl_X10_22 q_fp_10_4 dX10_borderOf_22 (q_ne kd_292 (by decide)) (q_e10 kd_292) (by rw [q_l10]; decide) rfl rfl (by rw [q_e10 kd_292, q_s10_4]) ?_
  refine q_aload_n hx dX10_borderOf_25 0 rfl ?_
  refine q_get (v := .int ((q_up σ 292 4 s0) 292 4)) hx q_fl_X10_22 dX10_borderOf_26 (q_ne kd_292 (by decide)) (q_e10 kd_292) rfl ?_
  refine q_if_gt hx 37 dX10_borderOf_29 (by decide) (fun hc3 => ?_) (fun hc3 => ?_)
  · replace h := (if_pos hc3).symm.trans h
    refine q_iconst (v := 0) hx dX10_borderOf_37 (by decide) ?_
    cases h
    exact q_iret hx hr dX10_borderOf_38
  · replace h := (if_neg hc3).symm.trans h
    refine q_iload_n hx dX10_borderOf_32 1 rfl ?_
    refine q_iload_n hx dX10_borderOf_33 2 rfl ?_
    refine q_icmp_ne hx 39 dX10_borderOf_34 (by decide) (fun hc4 => ?_) (fun hc4 => ?_)
    · replace h := (if_neg hc4).symm.trans h
      refine q_iconst (v := 0) hx dX10_borderOf_39 (by decide) ?_
      refine q_istore_n hx [(3, .int 0), (0, .ref (G.2.1 + 292)), (1, .int v1), (2, .int v2)] dX10_borderOf_40 (by decide) rfl ?_
      refine q_iconst (v := 0) hx dX10_borderOf_41 (by decide) ?_
      refine q_istore hx [(4, .int 0), (3, .int 0), (0, .ref (G.2.1 + 292)), (1, .int v1), (2, .int v2)] dX10_borderOf_42 (by decide) rfl ?_
      refine q_sub [2, 3, 4, 1, 0] rfl ?_
      exact s_X10_borderOf_44 hx hr q_fu v1 v2 0 0 (q_up σ 292 4 s0) h
    · replace h := (if_pos hc4).symm.trans h
      refine q_iconst (v := 0) hx dX10_borderOf_37 (by decide) ?_
      cases h
      exact q_iret hx hr dX10_borderOf_38
def f_X10_borderOf_21 (v1 : Int32) (v2 : Int32) (σ : q_S) : Option (Int32 × q_S) :=
  f_X10_borderOf_22 v1 v2 1 σ
set_option maxHeartbeats 4000000 in
set_option maxRecDepth 100000 in
theorem s_X10_borderOf_21 {X : q_X} {G : q_G} {x : q_A} (hx : q_Cx X G RX10 cX10_borderOf 6 6) (hr : (q_Xm X).sig.returnType = some .int) {res : Int32 × q_S} : ∀ (v1 : Int32) (v2 : Int32) (σ : q_S), f_X10_borderOf_21 v1 v2 σ = some res → q_Wq X G x 6 (q_MQ X G (q_Qi G x res.1 res.2)) 0 0 21 [(0, .ref (G.2.1 + 292)), (1, .int v1), (2, .int v2)] [.ref (G.2.1 + 292)] σ := by
  intro v1 v2 σ h
  unfold f_X10_borderOf_21 at h
  refine q_iconst (v := 1) hx dX10_borderOf_21 (by decide) ?_
  refine q_sub [0, 1, 2] rfl ?_
  exact s_X10_borderOf_22 hx hr v1 v2 1 σ h
def f_X10_borderOf (σ : q_S) (a1 : Int32) (a2 : Int32) : Option (Int32 × q_S) :=
  Option.bind (f_X10_isSleeper σ a1) (fun q1 => if q1 = 0 then (f_X10_borderOf_21 a1 a2 σ) else (Option.bind (f_X10_isSleeper σ a2) (fun q11 => if q11 = 0 then (f_X10_borderOf_21 a1 a2 σ) else (f_X10_borderOf_22 a1 a2 0 σ))))
set_option maxHeartbeats 4000000 in
set_option maxRecDepth 100000 in
theorem c_X10_borderOf (l : Launch) (G : q_G) (x : q_A) (σ : q_S) (a1 : Int32) (a2 : Int32)  {res : Int32 × q_S} (h : f_X10_borderOf σ a1 a2 = some res) : q_Met l yX10_borderOf cX10_borderOf 6 (some .int) 6 G [.ref (G.2.1 + 292), .int a1, .int a2] σ x (q_Qi G x res.1 res.2) := by
  refine q_of (by decide) (Nat.le_of_ble_eq_true rfl) (fun X hl0 hx hr => ?_)
  subst hl0
  have hx : q_Cx X G RX10 cX10_borderOf 6 6 := hx
  unfold f_X10_borderOf at h
  show q_Wq X G x 6 (q_MQ X G (q_Qi G x res.1 res.2)) 0 0 0 [(0, .ref (G.2.1 + 292)), (1, .int a1), (2, .int a2)] [] σ
  refine q_aload_n hx dX10_borderOf_0 0 rfl ?_
  refine q_aload_n hx dX10_borderOf_1 0 rfl ?_
  refine q_iload_n hx dX10_borderOf_2 1 rfl ?_
  refine q_bindE h (fun q1 hq1 h => ?_)
  refine q_callVi (As := [.int a1]) (rest := [.ref (G.2.1 + 292)]) hx q_kR0 (c_X10_isSleeper (q_Xl X) G x σ a1 hq1) q_ml_X10_166 q_mn_X10_isSleeper q_mi_X10_isSleeper q_se_X10_isSleeper (by decide) rfl (Nat.le_of_ble_eq_true rfl) dX10_borderOf_3 (q_ne kd_292 (by decide)) (q_e10 kd_292) rfl rfl rfl ?_
  refine q_if_eq hx 21 dX10_borderOf_6 (by decide) (fun hc2 => ?_) (fun hc2 => ?_)
  · replace h := (if_pos hc2).symm.trans h
    refine q_sub [0, 1, 2] rfl ?_
    exact s_X10_borderOf_21 hx hr a1 a2 σ h
  · replace h := (if_neg hc2).symm.trans h
    refine q_aload_n hx dX10_borderOf_9 0 rfl ?_
    refine q_iload_n hx dX10_borderOf_10 2 rfl ?_
    refine q_bindE h (fun q11 hq11 h => ?_)
    refine q_callVi (As := [.int a2]) (rest := [.ref (G.2.1 + 292)]) hx q_kR0 (c_X10_isSleeper (q_Xl X) G x σ a2 hq11) q_ml_X10_166 q_mn_X10_isSleeper q_mi_X10_isSleeper q_se_X10_isSleeper (by decide) rfl (Nat.le_of_ble_eq_true rfl) dX10_borderOf_11 (q_ne kd_292 (by decide)) (q_e10 kd_292) rfl rfl rfl ?_
    refine q_if_eq hx 21 dX10_borderOf_14 (by decide) (fun hc12 => ?_) (fun hc12 => ?_)
    · replace h := (if_pos hc12).symm.trans h
      refine q_sub [0, 1, 2] rfl ?_
      exact s_X10_borderOf_21 hx hr a1 a2 σ h
    · replace h := (if_neg hc12).symm.trans h
      refine q_iconst (v := 0) hx dX10_borderOf_17 (by decide) ?_
      refine q_goto hx 22 dX10_borderOf_18 (by decide) ?_
      refine q_sub [0, 1, 2] rfl ?_
      exact s_X10_borderOf_22 hx hr a1 a2 0 σ h
-- X10_border
def f_X10_border (σ : q_S) (a1 : Int32) (a2 : Int32) : Option (Int32 × q_S) :=
  Option.bind (f_X10_borderOf σ a1 a2) (fun q1 => some ((q1.1, q1.2)))
set_option maxHeartbeats 4000000 in
set_option maxRecDepth 100000 in
theorem c_X10_border (l : Launch) (G : q_G) (x : q_A) (σ : q_S) (a1 : Int32) (a2 : Int32)  {res : Int32 × q_S} (h : f_X10_border σ a1 a2 = some res) : q_Met l yX10_border cX10_border 3 (some .int) 7 G [.ref (G.2.1 + 292), .int a1, .int a2] σ x (q_Qi G x res.1 res.2) := by
  refine q_of (by decide) (Nat.le_of_ble_eq_true rfl) (fun X hl0 hx hr => ?_)
  subst hl0
  have hx : q_Cx X G RX10 cX10_border 3 7 := hx
  unfold f_X10_border at h
  show q_Wq X G x 3 (q_MQ X G (q_Qi G x res.1 res.2)) 0 0 0 [(0, .ref (G.2.1 + 292)), (1, .int a1), (2, .int a2)] [] σ
  refine q_aload_n hx dX10_border_0 0 rfl ?_
  refine q_iload_n hx dX10_border_1 1 rfl ?_
  refine q_iload_n hx dX10_border_2 2 rfl ?_
  refine q_bindE h (fun q1 hq1 h => ?_)
  refine q_callVi (As := [.int a1, .int a2]) (rest := []) hx q_kR0 (c_X10_borderOf (q_Xl X) G x σ a1 a2 hq1) q_ml_X10_273 q_mn_X10_borderOf q_mi_X10_borderOf q_se_X10_borderOf (by decide) rfl (Nat.le_of_ble_eq_true rfl) dX10_border_3 (q_ne kd_292 (by decide)) (q_e10 kd_292) rfl rfl rfl ?_
  cases h
  exact q_iret hx hr dX10_border_6
-- X10_borderAgain
def f_X10_borderAgain (σ : q_S) (a1 : Int32) (a2 : Int32) : Option (Int32 × q_S) :=
  Option.bind (f_X10_borderOf σ a1 a2) (fun q1 => some ((q1.1, q1.2)))
set_option maxHeartbeats 4000000 in
set_option maxRecDepth 100000 in
theorem c_X10_borderAgain (l : Launch) (G : q_G) (x : q_A) (σ : q_S) (a1 : Int32) (a2 : Int32)  {res : Int32 × q_S} (h : f_X10_borderAgain σ a1 a2 = some res) : q_Met l yX10_borderAgain cX10_borderAgain 3 (some .int) 7 G [.ref (G.2.1 + 292), .int a1, .int a2] σ x (q_Qi G x res.1 res.2) := by
  refine q_of (by decide) (Nat.le_of_ble_eq_true rfl) (fun X hl0 hx hr => ?_)
  subst hl0
  have hx : q_Cx X G RX10 cX10_borderAgain 3 7 := hx
  unfold f_X10_borderAgain at h
  show q_Wq X G x 3 (q_MQ X G (q_Qi G x res.1 res.2)) 0 0 0 [(0, .ref (G.2.1 + 292)), (1, .int a1), (2, .int a2)] [] σ
  refine q_aload_n hx dX10_borderAgain_0 0 rfl ?_
  refine q_iload_n hx dX10_borderAgain_1 1 rfl ?_
  refine q_iload_n hx dX10_borderAgain_2 2 rfl ?_
  refine q_bindE h (fun q1 hq1 h => ?_)
  refine q_callVi (As := [.int a1, .int a2]) (rest := []) hx q_kR0 (c_X10_borderOf (q_Xl X) G x σ a1 a2 hq1) q_ml_X10_273 q_mn_X10_borderOf q_mi_X10_borderOf q_se_X10_borderOf (by decide) rfl (Nat.le_of_ble_eq_true rfl) dX10_borderAgain_3 (q_ne kd_292 (by decide)) (q_e10 kd_292) rfl rfl rfl ?_
  cases h
  exact q_iret hx hr dX10_borderAgain_6
-- X10_fence
def f_X10_fence_58 (k30 : Int32 → Int32 → Int32 → q_S → Option (Int32 × q_S)) : Nat → Int32 → Int32 → Int32 → Int32 → q_S → Option (Int32 × q_S)
  | 0, _, _, _, _, _ => none
  | n + 1, v1, v2, v3, v4, σ =>
    if 4 ≤ v4 then (k30 v1 v2 (v3 + 1) σ) else (Option.bind (f_X10_ownerAt σ ((v3 - v3 / 12 * 12) + ((f_X10_stepX v4))) ((v3 / 12) + ((f_X10_stepY v4)))) (fun q8 => if q8 = v1 then (f_X10_fence_58 k30 n v1 (v2 + 0) v3 (v4 + 1) σ) else (f_X10_fence_58 k30 n v1 (v2 + 1) v3 (v4 + 1) σ)))
set_option maxHeartbeats 4000000 in
set_option maxRecDepth 100000 in
theorem s_X10_fence_58 {X : q_X} {G : q_G} {x : q_A} (hx : q_Cx X G RX10 cX10_fence 5 6) (hr : (q_Xm X).sig.returnType = some .int) {res : Int32 × q_S} {k30 : Int32 → Int32 → Int32 → q_S → Option (Int32 × q_S)} (hk30 : ∀ (v1 : Int32) (v2 : Int32) (v3 : Int32) (σ : q_S), k30 v1 v2 v3 σ = some res → q_Wq X G x 5 (q_MQ X G (q_Qi G x res.1 res.2)) 0 0 30 [(0, .ref (G.2.1 + 292)), (1, .int v1), (2, .int v2), (3, .int v3)] [] σ) : ∀ (n : Nat) (v1 : Int32) (v2 : Int32) (v3 : Int32) (v4 : Int32) (σ : q_S), f_X10_fence_58 k30 n v1 v2 v3 v4 σ = some res → q_Wq X G x 5 (q_MQ X G (q_Qi G x res.1 res.2)) 0 0 58 [(0, .ref (G.2.1 + 292)), (1, .int v1), (2, .int v2), (3, .int v3), (4, .int v4)] [] σ := by
  intro n
  induction n with
  | zero => exact fun _ _ _ _ _ h => nomatch (show (none : Option (Int32 × q_S)) = some res from h)
  | succ n ih =>
    intro v1 v2 v3 v4 σ h
    rw [f_X10_fence_58] at h
    refine q_iload hx dX10_fence_58 4 rfl ?_
    refine q_iconst (v := 4) hx dX10_fence_60 (by decide) ?_
    refine q_icmp_ge hx 106 dX10_fence_61 (by decide) (fun hc7 => ?_) (fun hc7 => ?_)
    · replace h := (if_pos hc7).symm.trans h
      refine q_iinc hx [(3, .int (v3 + 1)), (0, .ref (G.2.1 + 292)), (1, .int v1), (2, .int v2), (4, .int v4)] dX10_fence_106 3 rfl rfl (by decide) rfl ?_
      refine q_goto hx 30 dX10_fence_109 (by decide) ?_
      refine q_sub [1, 2, 3, 0] rfl ?_
      exact hk30 v1 v2 (v3 + 1) σ h
    · replace h := (if_neg hc7).symm.trans h
      refine q_iload_n hx dX10_fence_64 2 rfl ?_
      refine q_aload_n hx dX10_fence_65 0 rfl ?_
      refine q_iload_n hx dX10_fence_66 3 rfl ?_
      refine q_bipush (v := 12) hx dX10_fence_67 (by decide) ?_
      refine q_irem hx dX10_fence_69 (by decide) ?_
      refine q_iload hx dX10_fence_70 4 rfl ?_
      refine q_callSi (As := [.int v4]) (rest := [.int (v3 - v3 / 12 * 12), .ref (G.2.1 + 292), .int v2]) hx q_kR0 (c_X10_stepX (q_Xl X) G x σ v4) q_ml_X10_181 q_mn_X10_stepX q_ms_X10_stepX (by decide) rfl (Nat.le_of_ble_eq_true rfl) dX10_fence_72 rfl ?_
      refine q_iadd hx dX10_fence_75 ?_
      refine q_iload_n hx dX10_fence_76 3 rfl ?_
      refine q_bipush (v := 12) hx dX10_fence_77 (by decide) ?_
      refine q_idiv hx dX10_fence_79 (by decide) ?_
      refine q_iload hx dX10_fence_80 4 rfl ?_
      refine q_callSi (As := [.int v4]) (rest := [.int (v3 / 12), .int ((v3 - v3 / 12 * 12) + ((f_X10_stepX v4))), .ref (G.2.1 + 292), .int v2]) hx q_kR0 (c_X10_stepY (q_Xl X) G x σ v4) q_ml_X10_184 q_mn_X10_stepY q_ms_X10_stepY (by decide) rfl (Nat.le_of_ble_eq_true rfl) dX10_fence_82 rfl ?_
      refine q_iadd hx dX10_fence_85 ?_
      refine q_bindE h (fun q8 hq8 h => ?_)
      refine q_callVi (As := [.int ((v3 - v3 / 12 * 12) + ((f_X10_stepX v4))), .int ((v3 / 12) + ((f_X10_stepY v4)))]) (rest := [.int v2]) hx q_kR0 (c_X10_ownerAt (q_Xl X) G x σ ((v3 - v3 / 12 * 12) + ((f_X10_stepX v4))) ((v3 / 12) + ((f_X10_stepY v4))) hq8) q_ml_X10_267 q_mn_X10_ownerAt q_mi_X10_ownerAt q_se_X10_ownerAt (by decide) rfl (Nat.le_of_ble_eq_true rfl) dX10_fence_86 (q_ne kd_292 (by decide)) (q_e10 kd_292) rfl rfl rfl ?_
      refine q_iload_n hx dX10_fence_89 1 rfl ?_
      refine q_icmp_ne hx 97 dX10_fence_90 (by decide) (fun hc9 => ?_) (fun hc9 => ?_)
      · replace h := (if_neg hc9).symm.trans h
        refine q_iconst (v := 1) hx dX10_fence_97 (by decide) ?_
        refine q_iadd hx dX10_fence_98 ?_
        refine q_istore_n hx [(2, .int (v2 + 1)), (0, .ref (G.2.1 + 292)), (1, .int v1), (3, .int v3), (4, .int v4)] dX10_fence_99 (by decide) rfl ?_
        refine q_iinc hx [(4, .int (v4 + 1)), (2, .int (v2 + 1)), (0, .ref (G.2.1 + 292)), (1, .int v1), (3, .int v3)] dX10_fence_100 4 rfl rfl (by decide) rfl ?_
        refine q_goto hx 58 dX10_fence_103 (by decide) ?_
        refine q_sub [2, 3, 1, 4, 0] rfl ?_
        exact ih v1 (v2 + 1) v3 (v4 + 1) σ h
      · replace h := (if_pos hc9).symm.trans h
        refine q_iconst (v := 0) hx dX10_fence_93 (by decide) ?_
        refine q_goto hx 98 dX10_fence_94 (by decide) ?_
        refine q_iadd hx dX10_fence_98 ?_
        refine q_istore_n hx [(2, .int (v2 + 0)), (0, .ref (G.2.1 + 292)), (1, .int v1), (3, .int v3), (4, .int v4)] dX10_fence_99 (by decide) rfl ?_
        refine q_iinc hx [(4, .int (v4 + 1)), (2, .int (v2 + 0)), (0, .ref (G.2.1 + 292)), (1, .int v1), (3, .int v3)] dX10_fence_100 4 rfl rfl (by decide) rfl ?_
        refine q_goto hx 58 dX10_fence_103 (by decide) ?_
        refine q_sub [2, 3, 1, 4, 0] rfl ?_
        exact ih v1 (v2 + 0) v3 (v4 + 1) σ h
def f_X10_fence_30 : Nat → Int32 → Int32 → Int32 → q_S → Option (Int32 × q_S)
  | 0, _, _, _, _ => none
  | n + 1, v1, v2, v3, σ =>
    if 96 ≤ v3 then (some ((v2, σ))) else (Option.bind (f_X10_ownerAt σ (v3 - v3 / 12 * 12) (v3 / 12)) (fun q5 => if q5 = v1 then (f_X10_fence_58 (f_X10_fence_30 n) q_fu v1 v2 v3 0 σ) else (f_X10_fence_30 n v1 v2 (v3 + 1) σ)))
set_option maxHeartbeats 4000000 in
set_option maxRecDepth 100000 in
theorem s_X10_fence_30 {X : q_X} {G : q_G} {x : q_A} (hx : q_Cx X G RX10 cX10_fence 5 6) (hr : (q_Xm X).sig.returnType = some .int) {res : Int32 × q_S} : ∀ (n : Nat) (v1 : Int32) (v2 : Int32) (v3 : Int32) (σ : q_S), f_X10_fence_30 n v1 v2 v3 σ = some res → q_Wq X G x 5 (q_MQ X G (q_Qi G x res.1 res.2)) 0 0 30 [(0, .ref (G.2.1 + 292)), (1, .int v1), (2, .int v2), (3, .int v3)] [] σ := by
  intro n
  induction n with
  | zero => exact fun _ _ _ _ h => nomatch (show (none : Option (Int32 × q_S)) = some res from h)
  | succ n ih =>
    intro v1 v2 v3 σ h
    rw [f_X10_fence_30] at h
    refine q_iload_n hx dX10_fence_30 3 rfl ?_
    refine q_bipush (v := 96) hx dX10_fence_31 (by decide) ?_
    refine q_icmp_ge hx 112 dX10_fence_33 (by decide) (fun hc4 => ?_) (fun hc4 => ?_)
    · replace h := (if_pos hc4).symm.trans h
      refine q_iload_n hx dX10_fence_112 2 rfl ?_
      cases h
      exact q_iret hx hr dX10_fence_113
    · replace h := (if_neg hc4).symm.trans h
      refine q_aload_n hx dX10_fence_36 0 rfl ?_
      refine q_iload_n hx dX10_fence_37 3 rfl ?_
      refine q_bipush (v := 12) hx dX10_fence_38 (by decide) ?_
      refine q_irem hx dX10_fence_40 (by decide) ?_
      refine q_iload_n hx dX10_fence_41 3 rfl ?_
      refine q_bipush (v := 12) hx dX10_fence_42 (by decide) ?_
      refine q_idiv hx dX10_fence_44 (by decide) ?_
      refine q_bindE h (fun q5 hq5 h => ?_)
      refine q_callVi (As := [.int (v3 - v3 / 12 * 12), .int (v3 / 12)]) (rest := []) hx q_kR0 (c_X10_ownerAt (q_Xl X) G x σ (v3 - v3 / 12 * 12) (v3 / 12) hq5) q_ml_X10_267 q_mn_X10_ownerAt q_mi_X10_ownerAt q_se_X10_ownerAt (by decide) rfl (Nat.le_of_ble_eq_true rfl) dX10_fence_45 (q_ne kd_292 (by decide)) (q_e10 kd_292) rfl rfl rfl ?_
      refine q_iload_n hx dX10_fence_48 1 rfl ?_
      refine q_icmp_eq hx 55 dX10_fence_49 (by decide) (fun hc6 => ?_) (fun hc6 => ?_)
      · replace h := (if_pos hc6).symm.trans h
        refine q_iconst (v := 0) hx dX10_fence_55 (by decide) ?_
        refine q_istore hx [(4, .int 0), (0, .ref (G.2.1 + 292)), (1, .int v1), (2, .int v2), (3, .int v3)] dX10_fence_56 (by decide) rfl ?_
        refine q_sub [1, 2, 3, 4, 0] rfl ?_
        exact s_X10_fence_58 hx hr (fun v1 v2 v3 σ h => ih v1 v2 v3 σ h) q_fu v1 v2 v3 0 σ h
      · replace h := (if_neg hc6).symm.trans h
        refine q_goto hx 106 dX10_fence_52 (by decide) ?_
        refine q_iinc hx [(3, .int (v3 + 1)), (0, .ref (G.2.1 + 292)), (1, .int v1), (2, .int v2)] dX10_fence_106 3 rfl rfl (by decide) rfl ?_
        refine q_goto hx 30 dX10_fence_109 (by decide) ?_
        refine q_sub [1, 2, 3, 0] rfl ?_
        exact ih v1 v2 (v3 + 1) σ h
def f_X10_fence_14 (v1 : Int32) (s0 : Int32) (σ : q_S) : Option (Int32 × q_S) :=
  if ((q_up σ 292 4 s0) 292 4) ≤ 0 then (f_X10_fence_30 q_fu v1 0 0 (q_up σ 292 4 s0)) else (some ((0, q_up σ 292 4 s0)))
set_option maxHeartbeats 4000000 in
set_option maxRecDepth 100000 in
theorem s_X10_fence_14 {X : q_X} {G : q_G} {x : q_A} (hx : q_Cx X G RX10 cX10_fence 5 6) (hr : (q_Xm X).sig.returnType = some .int) {res : Int32 × q_S} : ∀ (v1 : Int32) (s0 : Int32) (σ : q_S), f_X10_fence_14 v1 s0 σ = some res → q_Wq X G x 5 (q_MQ X G (q_Qi G x res.1 res.2)) 0 0 14 [(0, .ref (G.2.1 + 292)), (1, .int v1)] [.int s0, .ref (G.2.1 + 292)] σ := by
  intro v1 s0 σ h
  unfold f_X10_fence_14 at h
  refine q_put (v := s0) hx q_fl_X10_22 q_fp_10_4 dX10_fence_14 (q_ne kd_292 (by decide)) (q_e10 kd_292) (by rw [q_l10]; decide) rfl rfl (by rw [q_e10 kd_292, q_s10_4]) ?_
  refine q_aload_n hx dX10_fence_17 0 rfl ?_
  refine q_get (v := .int ((q_up σ 292 4 s0) 292 4)) hx q_fl_X10_22 dX10_fence_18 (q_ne kd_292 (by decide)) (q_e10 kd_292) rfl ?_
  refine q_if_le hx 26 dX10_fence_21 (by decide) (fun hc3 => ?_) (fun hc3 => ?_)
  · replace h := (if_pos hc3).symm.trans h
    refine q_iconst (v := 0) hx dX10_fence_26 (by decide) ?_
    refine q_istore_n hx [(2, .int 0), (0, .ref (G.2.1 + 292)), (1, .int v1)] dX10_fence_27 (by decide) rfl ?_
    refine q_iconst (v := 0) hx dX10_fence_28 (by decide) ?_
    refine q_istore_n hx [(3, .int 0), (2, .int 0), (0, .ref (G.2.1 + 292)), (1, .int v1)] dX10_fence_29 (by decide) rfl ?_
    refine q_sub [2, 3, 1, 0] rfl ?_
    exact s_X10_fence_30 hx hr q_fu v1 0 0 (q_up σ 292 4 s0) h
  · replace h := (if_neg hc3).symm.trans h
    refine q_iconst (v := 0) hx dX10_fence_24 (by decide) ?_
    cases h
    exact q_iret hx hr dX10_fence_25
def f_X10_fence (σ : q_S) (a1 : Int32) : Option (Int32 × q_S) :=
  Option.bind (f_X10_isSleeper σ a1) (fun q1 => if q1 = 0 then (f_X10_fence_14 a1 1 σ) else (f_X10_fence_14 a1 0 σ))
set_option maxHeartbeats 4000000 in
set_option maxRecDepth 100000 in
theorem c_X10_fence (l : Launch) (G : q_G) (x : q_A) (σ : q_S) (a1 : Int32)  {res : Int32 × q_S} (h : f_X10_fence σ a1 = some res) : q_Met l yX10_fence cX10_fence 5 (some .int) 6 G [.ref (G.2.1 + 292), .int a1] σ x (q_Qi G x res.1 res.2) := by
  refine q_of (by decide) (Nat.le_of_ble_eq_true rfl) (fun X hl0 hx hr => ?_)
  subst hl0
  have hx : q_Cx X G RX10 cX10_fence 5 6 := hx
  unfold f_X10_fence at h
  show q_Wq X G x 5 (q_MQ X G (q_Qi G x res.1 res.2)) 0 0 0 [(0, .ref (G.2.1 + 292)), (1, .int a1)] [] σ
  refine q_aload_n hx dX10_fence_0 0 rfl ?_
  refine q_aload_n hx dX10_fence_1 0 rfl ?_
  refine q_iload_n hx dX10_fence_2 1 rfl ?_
  refine q_bindE h (fun q1 hq1 h => ?_)
  refine q_callVi (As := [.int a1]) (rest := [.ref (G.2.1 + 292)]) hx q_kR0 (c_X10_isSleeper (q_Xl X) G x σ a1 hq1) q_ml_X10_166 q_mn_X10_isSleeper q_mi_X10_isSleeper q_se_X10_isSleeper (by decide) rfl (Nat.le_of_ble_eq_true rfl) dX10_fence_3 (q_ne kd_292 (by decide)) (q_e10 kd_292) rfl rfl rfl ?_
  refine q_if_eq hx 13 dX10_fence_6 (by decide) (fun hc2 => ?_) (fun hc2 => ?_)
  · replace h := (if_pos hc2).symm.trans h
    refine q_iconst (v := 1) hx dX10_fence_13 (by decide) ?_
    refine q_sub [0, 1] rfl ?_
    exact s_X10_fence_14 hx hr a1 1 σ h
  · replace h := (if_neg hc2).symm.trans h
    refine q_iconst (v := 0) hx dX10_fence_9 (by decide) ?_
    refine q_goto hx 14 dX10_fence_10 (by decide) ?_
    refine q_sub [0, 1] rfl ?_
    exact s_X10_fence_14 hx hr a1 0 σ h
