-- X10_cannot
def f_X10_cannot_142 (v3 : Int32) (v4 : Int32) (v5 : Int32) (s0 : Int32) (σ : q_S) : Option (Int32 × q_S) :=
  Option.bind (f_X10_isNot σ s0) (fun q12 => if q12.1 = 0 then (Option.bind (f_X10_isRefusedPeg q12.2 v3 v4) (fun q14 => if q14.1 = 0 then (Option.bind (f_X10_sets q14.2 v3 v4 v5) (fun q16 => some ((0, q16.2)))) else (some ((1, q14.2))))) else (some ((1, q12.2))))
set_option maxHeartbeats 4000000 in
set_option maxRecDepth 100000 in
theorem s_X10_cannot_142 {X : q_X} {G : q_G} {x : q_A} (hx : q_Cx X G RX10 cX10_cannot 6 6) (hr : (q_Xm X).sig.returnType = some .boolean) {res : Int32 × q_S} : ∀ (v3 : Int32) (v4 : Int32) (v5 : Int32) (s0 : Int32) (σ : q_S), f_X10_cannot_142 v3 v4 v5 s0 σ = some res → q_Wq X G x 6 (q_MQ X G (q_Qi G x res.1 res.2)) 0 0 142 [(0, .ref (G.2.1 + 292)), (3, .int v3), (4, .int v4), (5, .int v5)] [.int s0, .ref (G.2.1 + 292)] σ := by
  intro v3 v4 v5 s0 σ h
  unfold f_X10_cannot_142 at h
  refine q_bindE h (fun q12 hq12 h => ?_)
  refine q_callVi (As := [.int s0]) (rest := []) hx q_kR0 (c_X10_isNot (q_Xl X) G x σ s0 hq12) q_ml_X10_323 q_mn_X10_isNot q_mi_X10_isNot q_se_X10_isNot (by decide) rfl (Nat.le_of_ble_eq_true rfl) dX10_cannot_142 (q_ne kd_292 (by decide)) (q_e10 kd_292) rfl rfl rfl ?_
  refine q_if_ne hx 158 dX10_cannot_145 (by decide) (fun hc13 => ?_) (fun hc13 => ?_)
  · replace h := (if_neg hc13).symm.trans h
    refine q_iconst (v := 1) hx dX10_cannot_158 (by decide) ?_
    cases h
    exact q_zret (v := 1) hx hr rfl dX10_cannot_159
  · replace h := (if_pos hc13).symm.trans h
    refine q_aload_n hx dX10_cannot_148 0 rfl ?_
    refine q_iload_n hx dX10_cannot_149 1 rfl ?_
    refine q_iload hx dX10_cannot_150 2 rfl ?_
    refine q_bindE h (fun q14 hq14 h => ?_)
    refine q_callVi (As := [.int v3, .int v4]) (rest := []) hx q_kR0 (c_X10_isRefusedPeg (q_Xl X) G x q12.2 v3 v4 hq14) q_ml_X10_156 q_mn_X10_isRefusedPeg q_mi_X10_isRefusedPeg q_se_X10_isRefusedPeg (by decide) rfl (Nat.le_of_ble_eq_true rfl) dX10_cannot_152 (q_ne kd_292 (by decide)) (q_e10 kd_292) rfl rfl rfl ?_
    refine q_if_eq hx 160 dX10_cannot_155 (by decide) (fun hc15 => ?_) (fun hc15 => ?_)
    · replace h := (if_pos hc15).symm.trans h
      refine q_aload_n hx dX10_cannot_160 0 rfl ?_
      refine q_iload_n hx dX10_cannot_161 1 rfl ?_
      refine q_iload hx dX10_cannot_162 2 rfl ?_
      refine q_iload hx dX10_cannot_164 3 rfl ?_
      refine q_bindE h (fun q16 hq16 h => ?_)
      refine q_callVi (As := [.int v3, .int v4, .int v5]) (rest := []) hx q_kR0 (c_X10_sets (q_Xl X) G x q14.2 v3 v4 v5 hq16) q_ml_X10_159 q_mn_X10_sets q_mi_X10_sets q_se_X10_sets (by decide) rfl (Nat.le_of_ble_eq_true rfl) dX10_cannot_166 (q_ne kd_292 (by decide)) (q_e10 kd_292) rfl rfl rfl ?_
      refine q_istore_n hx [(2, .int q16.1), (0, .ref (G.2.1 + 292)), (3, .int v3), (4, .int v4), (5, .int v5)] dX10_cannot_169 (by decide) rfl ?_
      refine q_iconst (v := 0) hx dX10_cannot_170 (by decide) ?_
      cases h
      exact q_zret (v := 0) hx hr rfl dX10_cannot_171
    · replace h := (if_neg hc15).symm.trans h
      refine q_iconst (v := 1) hx dX10_cannot_158 (by decide) ?_
      cases h
      exact q_zret (v := 1) hx hr rfl dX10_cannot_159
def f_X10_cannot_141 (v3 : Int32) (v4 : Int32) (v5 : Int32) (σ : q_S) : Option (Int32 × q_S) :=
  f_X10_cannot_142 v3 v4 v5 0 σ
set_option maxHeartbeats 4000000 in
set_option maxRecDepth 100000 in
theorem s_X10_cannot_141 {X : q_X} {G : q_G} {x : q_A} (hx : q_Cx X G RX10 cX10_cannot 6 6) (hr : (q_Xm X).sig.returnType = some .boolean) {res : Int32 × q_S} : ∀ (v3 : Int32) (v4 : Int32) (v5 : Int32) (σ : q_S), f_X10_cannot_141 v3 v4 v5 σ = some res → q_Wq X G x 6 (q_MQ X G (q_Qi G x res.1 res.2)) 0 0 141 [(0, .ref (G.2.1 + 292)), (3, .int v3), (4, .int v4), (5, .int v5)] [.ref (G.2.1 + 292)] σ := by
  intro v3 v4 v5 σ h
  unfold f_X10_cannot_141 at h
  refine q_iconst (v := 0) hx dX10_cannot_141 (by decide) ?_
  refine q_sub [0, 1, 2, 3] rfl ?_
  exact s_X10_cannot_142 hx hr v3 v4 v5 0 σ h
def f_X10_cannot_196 (v3 : Int32) (v4 : Int32) (v5 : Int32) (s0 : Int32) (σ : q_S) : Option (Int32 × q_S) :=
  Option.bind (f_X10_isNot σ s0) (fun q22 => if q22.1 = 0 then (Option.bind (f_X10_isRefusedPlot q22.2 v3) (fun q24 => if q24.1 = 0 then (Option.bind (f_X10_starts q24.2 v3 v4 v5) (fun q26 => some ((0, q26.2)))) else (some ((1, q24.2))))) else (some ((1, q22.2))))
set_option maxHeartbeats 4000000 in
set_option maxRecDepth 100000 in
theorem s_X10_cannot_196 {X : q_X} {G : q_G} {x : q_A} (hx : q_Cx X G RX10 cX10_cannot 6 6) (hr : (q_Xm X).sig.returnType = some .boolean) {res : Int32 × q_S} : ∀ (v3 : Int32) (v4 : Int32) (v5 : Int32) (s0 : Int32) (σ : q_S), f_X10_cannot_196 v3 v4 v5 s0 σ = some res → q_Wq X G x 6 (q_MQ X G (q_Qi G x res.1 res.2)) 0 0 196 [(0, .ref (G.2.1 + 292)), (3, .int v3), (4, .int v4), (5, .int v5)] [.int s0, .ref (G.2.1 + 292)] σ := by
  intro v3 v4 v5 s0 σ h
  unfold f_X10_cannot_196 at h
  refine q_bindE h (fun q22 hq22 h => ?_)
  refine q_callVi (As := [.int s0]) (rest := []) hx q_kR0 (c_X10_isNot (q_Xl X) G x σ s0 hq22) q_ml_X10_323 q_mn_X10_isNot q_mi_X10_isNot q_se_X10_isNot (by decide) rfl (Nat.le_of_ble_eq_true rfl) dX10_cannot_196 (q_ne kd_292 (by decide)) (q_e10 kd_292) rfl rfl rfl ?_
  refine q_if_ne hx 210 dX10_cannot_199 (by decide) (fun hc23 => ?_) (fun hc23 => ?_)
  · replace h := (if_neg hc23).symm.trans h
    refine q_iconst (v := 1) hx dX10_cannot_210 (by decide) ?_
    cases h
    exact q_zret (v := 1) hx hr rfl dX10_cannot_211
  · replace h := (if_pos hc23).symm.trans h
    refine q_aload_n hx dX10_cannot_202 0 rfl ?_
    refine q_iload_n hx dX10_cannot_203 1 rfl ?_
    refine q_bindE h (fun q24 hq24 h => ?_)
    refine q_callVi (As := [.int v3]) (rest := []) hx q_kR0 (c_X10_isRefusedPlot (q_Xl X) G x q22.2 v3 hq24) q_ml_X10_169 q_mn_X10_isRefusedPlot q_mi_X10_isRefusedPlot q_se_X10_isRefusedPlot (by decide) rfl (Nat.le_of_ble_eq_true rfl) dX10_cannot_204 (q_ne kd_292 (by decide)) (q_e10 kd_292) rfl rfl rfl ?_
    refine q_if_eq hx 212 dX10_cannot_207 (by decide) (fun hc25 => ?_) (fun hc25 => ?_)
    · replace h := (if_pos hc25).symm.trans h
      refine q_aload_n hx dX10_cannot_212 0 rfl ?_
      refine q_iload_n hx dX10_cannot_213 1 rfl ?_
      refine q_iload hx dX10_cannot_214 2 rfl ?_
      refine q_iload hx dX10_cannot_216 3 rfl ?_
      refine q_bindE h (fun q26 hq26 h => ?_)
      refine q_callVi (As := [.int v3, .int v4, .int v5]) (rest := []) hx q_kR0 (c_X10_starts (q_Xl X) G x q24.2 v3 v4 v5 hq26) q_ml_X10_172 q_mn_X10_starts q_mi_X10_starts q_se_X10_starts (by decide) rfl (Nat.le_of_ble_eq_true rfl) dX10_cannot_218 (q_ne kd_292 (by decide)) (q_e10 kd_292) rfl rfl rfl ?_
      refine q_istore_n hx [(2, .int q26.1), (0, .ref (G.2.1 + 292)), (3, .int v3), (4, .int v4), (5, .int v5)] dX10_cannot_221 (by decide) rfl ?_
      refine q_iconst (v := 0) hx dX10_cannot_222 (by decide) ?_
      cases h
      exact q_zret (v := 0) hx hr rfl dX10_cannot_223
    · replace h := (if_neg hc25).symm.trans h
      refine q_iconst (v := 1) hx dX10_cannot_210 (by decide) ?_
      cases h
      exact q_zret (v := 1) hx hr rfl dX10_cannot_211
def f_X10_cannot_195 (v3 : Int32) (v4 : Int32) (v5 : Int32) (σ : q_S) : Option (Int32 × q_S) :=
  f_X10_cannot_196 v3 v4 v5 0 σ
set_option maxHeartbeats 4000000 in
set_option maxRecDepth 100000 in
theorem s_X10_cannot_195 {X : q_X} {G : q_G} {x : q_A} (hx : q_Cx X G RX10 cX10_cannot 6 6) (hr : (q_Xm X).sig.returnType = some .boolean) {res : Int32 × q_S} : ∀ (v3 : Int32) (v4 : Int32) (v5 : Int32) (σ : q_S), f_X10_cannot_195 v3 v4 v5 σ = some res → q_Wq X G x 6 (q_MQ X G (q_Qi G x res.1 res.2)) 0 0 195 [(0, .ref (G.2.1 + 292)), (3, .int v3), (4, .int v4), (5, .int v5)] [.ref (G.2.1 + 292)] σ := by
  intro v3 v4 v5 σ h
  unfold f_X10_cannot_195 at h
  refine q_iconst (v := 0) hx dX10_cannot_195 (by decide) ?_
  refine q_sub [0, 1, 2, 3] rfl ?_
  exact s_X10_cannot_196 hx hr v3 v4 v5 0 σ h
def f_X10_cannot_246 (v3 : Int32) (v4 : Int32) (v5 : Int32) (s0 : Int32) (σ : q_S) : Option (Int32 × q_S) :=
  Option.bind (f_X10_isNot σ s0) (fun q31 => if q31.1 = 0 then (Option.bind (f_X10_isRefusedChain q31.2 v3 v4 v5) (fun q33 => if q33.1 = 0 then (Option.bind (f_X10_lays q33.2 v3 v4 v5) (fun q35 => some ((0, q35.2)))) else (some ((1, q33.2))))) else (some ((1, q31.2))))
set_option maxHeartbeats 4000000 in
set_option maxRecDepth 100000 in
theorem s_X10_cannot_246 {X : q_X} {G : q_G} {x : q_A} (hx : q_Cx X G RX10 cX10_cannot 6 6) (hr : (q_Xm X).sig.returnType = some .boolean) {res : Int32 × q_S} : ∀ (v3 : Int32) (v4 : Int32) (v5 : Int32) (s0 : Int32) (σ : q_S), f_X10_cannot_246 v3 v4 v5 s0 σ = some res → q_Wq X G x 6 (q_MQ X G (q_Qi G x res.1 res.2)) 0 0 246 [(0, .ref (G.2.1 + 292)), (3, .int v3), (4, .int v4), (5, .int v5)] [.int s0, .ref (G.2.1 + 292)] σ := by
  intro v3 v4 v5 s0 σ h
  unfold f_X10_cannot_246 at h
  refine q_bindE h (fun q31 hq31 h => ?_)
  refine q_callVi (As := [.int s0]) (rest := []) hx q_kR0 (c_X10_isNot (q_Xl X) G x σ s0 hq31) q_ml_X10_323 q_mn_X10_isNot q_mi_X10_isNot q_se_X10_isNot (by decide) rfl (Nat.le_of_ble_eq_true rfl) dX10_cannot_246 (q_ne kd_292 (by decide)) (q_e10 kd_292) rfl rfl rfl ?_
  refine q_if_ne hx 264 dX10_cannot_249 (by decide) (fun hc32 => ?_) (fun hc32 => ?_)
  · replace h := (if_neg hc32).symm.trans h
    refine q_iconst (v := 1) hx dX10_cannot_264 (by decide) ?_
    cases h
    exact q_zret (v := 1) hx hr rfl dX10_cannot_265
  · replace h := (if_pos hc32).symm.trans h
    refine q_aload_n hx dX10_cannot_252 0 rfl ?_
    refine q_iload_n hx dX10_cannot_253 1 rfl ?_
    refine q_iload hx dX10_cannot_254 2 rfl ?_
    refine q_iload hx dX10_cannot_256 3 rfl ?_
    refine q_bindE h (fun q33 hq33 h => ?_)
    refine q_callVi (As := [.int v3, .int v4, .int v5]) (rest := []) hx q_kR0 (c_X10_isRefusedChain (q_Xl X) G x q31.2 v3 v4 v5 hq33) q_ml_X10_210 q_mn_X10_isRefusedChain q_mi_X10_isRefusedChain q_se_X10_isRefusedChain (by decide) rfl (Nat.le_of_ble_eq_true rfl) dX10_cannot_258 (q_ne kd_292 (by decide)) (q_e10 kd_292) rfl rfl rfl ?_
    refine q_if_eq hx 266 dX10_cannot_261 (by decide) (fun hc34 => ?_) (fun hc34 => ?_)
    · replace h := (if_pos hc34).symm.trans h
      refine q_aload_n hx dX10_cannot_266 0 rfl ?_
      refine q_iload_n hx dX10_cannot_267 1 rfl ?_
      refine q_iload hx dX10_cannot_268 2 rfl ?_
      refine q_iload hx dX10_cannot_270 3 rfl ?_
      refine q_bindE h (fun q35 hq35 h => ?_)
      refine q_callVi (As := [.int v3, .int v4, .int v5]) (rest := []) hx q_kR0 (c_X10_lays (q_Xl X) G x q33.2 v3 v4 v5 hq35) q_ml_X10_213 q_mn_X10_lays q_mi_X10_lays q_se_X10_lays (by decide) rfl (Nat.le_of_ble_eq_true rfl) dX10_cannot_272 (q_ne kd_292 (by decide)) (q_e10 kd_292) rfl rfl rfl ?_
      refine q_istore_n hx [(2, .int q35.1), (0, .ref (G.2.1 + 292)), (3, .int v3), (4, .int v4), (5, .int v5)] dX10_cannot_275 (by decide) rfl ?_
      refine q_iconst (v := 0) hx dX10_cannot_276 (by decide) ?_
      cases h
      exact q_zret (v := 0) hx hr rfl dX10_cannot_277
    · replace h := (if_neg hc34).symm.trans h
      refine q_iconst (v := 1) hx dX10_cannot_264 (by decide) ?_
      cases h
      exact q_zret (v := 1) hx hr rfl dX10_cannot_265
def f_X10_cannot_245 (v3 : Int32) (v4 : Int32) (v5 : Int32) (σ : q_S) : Option (Int32 × q_S) :=
  f_X10_cannot_246 v3 v4 v5 0 σ
set_option maxHeartbeats 4000000 in
set_option maxRecDepth 100000 in
theorem s_X10_cannot_245 {X : q_X} {G : q_G} {x : q_A} (hx : q_Cx X G RX10 cX10_cannot 6 6) (hr : (q_Xm X).sig.returnType = some .boolean) {res : Int32 × q_S} : ∀ (v3 : Int32) (v4 : Int32) (v5 : Int32) (σ : q_S), f_X10_cannot_245 v3 v4 v5 σ = some res → q_Wq X G x 6 (q_MQ X G (q_Qi G x res.1 res.2)) 0 0 245 [(0, .ref (G.2.1 + 292)), (3, .int v3), (4, .int v4), (5, .int v5)] [.ref (G.2.1 + 292)] σ := by
  intro v3 v4 v5 σ h
  unfold f_X10_cannot_245 at h
  refine q_iconst (v := 0) hx dX10_cannot_245 (by decide) ?_
  refine q_sub [0, 1, 2, 3] rfl ?_
  exact s_X10_cannot_246 hx hr v3 v4 v5 0 σ h
def f_X10_cannot_302 (v3 : Int32) (v4 : Int32) (v5 : Int32) (s0 : Int32) (σ : q_S) : Option (Int32 × q_S) :=
  Option.bind (f_X10_isNot σ s0) (fun q41 => if q41.1 = 0 then (Option.bind (f_X10_isRefusedBend q41.2 v3 v4 v5) (fun q43 => if q43.1 = 0 then (Option.bind (f_X10_bends q43.2 v3 v4 v5) (fun q45 => some ((0, q45.2)))) else (some ((1, q43.2))))) else (some ((1, q41.2))))
set_option maxHeartbeats 4000000 in
set_option maxRecDepth 100000 in
theorem s_X10_cannot_302 {X : q_X} {G : q_G} {x : q_A} (hx : q_Cx X G RX10 cX10_cannot 6 6) (hr : (q_Xm X).sig.returnType = some .boolean) {res : Int32 × q_S} : ∀ (v3 : Int32) (v4 : Int32) (v5 : Int32) (s0 : Int32) (σ : q_S), f_X10_cannot_302 v3 v4 v5 s0 σ = some res → q_Wq X G x 6 (q_MQ X G (q_Qi G x res.1 res.2)) 0 0 302 [(0, .ref (G.2.1 + 292)), (3, .int v3), (4, .int v4), (5, .int v5)] [.int s0, .ref (G.2.1 + 292)] σ := by
  intro v3 v4 v5 s0 σ h
  unfold f_X10_cannot_302 at h
  refine q_bindE h (fun q41 hq41 h => ?_)
  refine q_callVi (As := [.int s0]) (rest := []) hx q_kR0 (c_X10_isNot (q_Xl X) G x σ s0 hq41) q_ml_X10_323 q_mn_X10_isNot q_mi_X10_isNot q_se_X10_isNot (by decide) rfl (Nat.le_of_ble_eq_true rfl) dX10_cannot_302 (q_ne kd_292 (by decide)) (q_e10 kd_292) rfl rfl rfl ?_
  refine q_if_ne hx 320 dX10_cannot_305 (by decide) (fun hc42 => ?_) (fun hc42 => ?_)
  · replace h := (if_neg hc42).symm.trans h
    refine q_iconst (v := 1) hx dX10_cannot_320 (by decide) ?_
    cases h
    exact q_zret (v := 1) hx hr rfl dX10_cannot_321
  · replace h := (if_pos hc42).symm.trans h
    refine q_aload_n hx dX10_cannot_308 0 rfl ?_
    refine q_iload_n hx dX10_cannot_309 1 rfl ?_
    refine q_iload hx dX10_cannot_310 2 rfl ?_
    refine q_iload hx dX10_cannot_312 3 rfl ?_
    refine q_bindE h (fun q43 hq43 h => ?_)
    refine q_callVi (As := [.int v3, .int v4, .int v5]) (rest := []) hx q_kR0 (c_X10_isRefusedBend (q_Xl X) G x q41.2 v3 v4 v5 hq43) q_ml_X10_228 q_mn_X10_isRefusedBend q_mi_X10_isRefusedBend q_se_X10_isRefusedBend (by decide) rfl (Nat.le_of_ble_eq_true rfl) dX10_cannot_314 (q_ne kd_292 (by decide)) (q_e10 kd_292) rfl rfl rfl ?_
    refine q_if_eq hx 322 dX10_cannot_317 (by decide) (fun hc44 => ?_) (fun hc44 => ?_)
    · replace h := (if_pos hc44).symm.trans h
      refine q_aload_n hx dX10_cannot_322 0 rfl ?_
      refine q_iload_n hx dX10_cannot_323 1 rfl ?_
      refine q_iload hx dX10_cannot_324 2 rfl ?_
      refine q_iload hx dX10_cannot_326 3 rfl ?_
      refine q_bindE h (fun q45 hq45 h => ?_)
      refine q_callVi (As := [.int v3, .int v4, .int v5]) (rest := []) hx q_kR0 (c_X10_bends (q_Xl X) G x q43.2 v3 v4 v5 hq45) q_ml_X10_231 q_mn_X10_bends q_mi_X10_bends q_se_X10_bends (by decide) rfl (Nat.le_of_ble_eq_true rfl) dX10_cannot_328 (q_ne kd_292 (by decide)) (q_e10 kd_292) rfl rfl rfl ?_
      refine q_istore_n hx [(2, .int q45.1), (0, .ref (G.2.1 + 292)), (3, .int v3), (4, .int v4), (5, .int v5)] dX10_cannot_331 (by decide) rfl ?_
      refine q_iconst (v := 0) hx dX10_cannot_332 (by decide) ?_
      cases h
      exact q_zret (v := 0) hx hr rfl dX10_cannot_333
    · replace h := (if_neg hc44).symm.trans h
      refine q_iconst (v := 1) hx dX10_cannot_320 (by decide) ?_
      cases h
      exact q_zret (v := 1) hx hr rfl dX10_cannot_321
def f_X10_cannot_301 (v3 : Int32) (v4 : Int32) (v5 : Int32) (σ : q_S) : Option (Int32 × q_S) :=
  f_X10_cannot_302 v3 v4 v5 0 σ
set_option maxHeartbeats 4000000 in
set_option maxRecDepth 100000 in
theorem s_X10_cannot_301 {X : q_X} {G : q_G} {x : q_A} (hx : q_Cx X G RX10 cX10_cannot 6 6) (hr : (q_Xm X).sig.returnType = some .boolean) {res : Int32 × q_S} : ∀ (v3 : Int32) (v4 : Int32) (v5 : Int32) (σ : q_S), f_X10_cannot_301 v3 v4 v5 σ = some res → q_Wq X G x 6 (q_MQ X G (q_Qi G x res.1 res.2)) 0 0 301 [(0, .ref (G.2.1 + 292)), (3, .int v3), (4, .int v4), (5, .int v5)] [.ref (G.2.1 + 292)] σ := by
  intro v3 v4 v5 σ h
  unfold f_X10_cannot_301 at h
  refine q_iconst (v := 0) hx dX10_cannot_301 (by decide) ?_
  refine q_sub [0, 1, 2, 3] rfl ?_
  exact s_X10_cannot_302 hx hr v3 v4 v5 0 σ h
def f_X10_cannot_386 (v3 : Int32) (v4 : Int32) (s0 : Int32) (σ : q_S) : Option (Int32 × q_S) :=
  Option.bind (f_X10_isNot σ s0) (fun q57 => if q57.1 = 0 then (Option.bind (f_X10_isRefusedDeep q57.2 v3 v4) (fun q59 => if q59.1 = 0 then (Option.bind (f_X10_deepens q59.2 v3 v4) (fun q61 => some ((0, q61.2)))) else (some ((1, q59.2))))) else (some ((1, q57.2))))
set_option maxHeartbeats 4000000 in
set_option maxRecDepth 100000 in
theorem s_X10_cannot_386 {X : q_X} {G : q_G} {x : q_A} (hx : q_Cx X G RX10 cX10_cannot 6 6) (hr : (q_Xm X).sig.returnType = some .boolean) {res : Int32 × q_S} : ∀ (v3 : Int32) (v4 : Int32) (s0 : Int32) (σ : q_S), f_X10_cannot_386 v3 v4 s0 σ = some res → q_Wq X G x 6 (q_MQ X G (q_Qi G x res.1 res.2)) 0 0 386 [(0, .ref (G.2.1 + 292)), (3, .int v3), (4, .int v4)] [.int s0, .ref (G.2.1 + 292)] σ := by
  intro v3 v4 s0 σ h
  unfold f_X10_cannot_386 at h
  refine q_bindE h (fun q57 hq57 h => ?_)
  refine q_callVi (As := [.int s0]) (rest := []) hx q_kR0 (c_X10_isNot (q_Xl X) G x σ s0 hq57) q_ml_X10_323 q_mn_X10_isNot q_mi_X10_isNot q_se_X10_isNot (by decide) rfl (Nat.le_of_ble_eq_true rfl) dX10_cannot_386 (q_ne kd_292 (by decide)) (q_e10 kd_292) rfl rfl rfl ?_
  refine q_if_ne hx 402 dX10_cannot_389 (by decide) (fun hc58 => ?_) (fun hc58 => ?_)
  · replace h := (if_neg hc58).symm.trans h
    refine q_iconst (v := 1) hx dX10_cannot_402 (by decide) ?_
    cases h
    exact q_zret (v := 1) hx hr rfl dX10_cannot_403
  · replace h := (if_pos hc58).symm.trans h
    refine q_aload_n hx dX10_cannot_392 0 rfl ?_
    refine q_iload_n hx dX10_cannot_393 1 rfl ?_
    refine q_iload hx dX10_cannot_394 2 rfl ?_
    refine q_bindE h (fun q59 hq59 h => ?_)
    refine q_callVi (As := [.int v3, .int v4]) (rest := []) hx q_kR0 (c_X10_isRefusedDeep (q_Xl X) G x q57.2 v3 v4 hq59) q_ml_X10_243 q_mn_X10_isRefusedDeep q_mi_X10_isRefusedDeep q_se_X10_isRefusedDeep (by decide) rfl (Nat.le_of_ble_eq_true rfl) dX10_cannot_396 (q_ne kd_292 (by decide)) (q_e10 kd_292) rfl rfl rfl ?_
    refine q_if_eq hx 404 dX10_cannot_399 (by decide) (fun hc60 => ?_) (fun hc60 => ?_)
    · replace h := (if_pos hc60).symm.trans h
      refine q_aload_n hx dX10_cannot_404 0 rfl ?_
      refine q_iload_n hx dX10_cannot_405 1 rfl ?_
      refine q_iload hx dX10_cannot_406 2 rfl ?_
      refine q_bindE h (fun q61 hq61 h => ?_)
      refine q_callVi (As := [.int v3, .int v4]) (rest := []) hx q_kR0 (c_X10_deepens (q_Xl X) G x q59.2 v3 v4 hq61) q_ml_X10_246 q_mn_X10_deepens q_mi_X10_deepens q_se_X10_deepens (by decide) rfl (Nat.le_of_ble_eq_true rfl) dX10_cannot_408 (q_ne kd_292 (by decide)) (q_e10 kd_292) rfl rfl rfl ?_
      refine q_istore_n hx [(2, .int q61.1), (0, .ref (G.2.1 + 292)), (3, .int v3), (4, .int v4)] dX10_cannot_411 (by decide) rfl ?_
      refine q_iconst (v := 0) hx dX10_cannot_412 (by decide) ?_
      cases h
      exact q_zret (v := 0) hx hr rfl dX10_cannot_413
    · replace h := (if_neg hc60).symm.trans h
      refine q_iconst (v := 1) hx dX10_cannot_402 (by decide) ?_
      cases h
      exact q_zret (v := 1) hx hr rfl dX10_cannot_403
def f_X10_cannot_385 (v3 : Int32) (v4 : Int32) (σ : q_S) : Option (Int32 × q_S) :=
  f_X10_cannot_386 v3 v4 0 σ
set_option maxHeartbeats 4000000 in
set_option maxRecDepth 100000 in
theorem s_X10_cannot_385 {X : q_X} {G : q_G} {x : q_A} (hx : q_Cx X G RX10 cX10_cannot 6 6) (hr : (q_Xm X).sig.returnType = some .boolean) {res : Int32 × q_S} : ∀ (v3 : Int32) (v4 : Int32) (σ : q_S), f_X10_cannot_385 v3 v4 σ = some res → q_Wq X G x 6 (q_MQ X G (q_Qi G x res.1 res.2)) 0 0 385 [(0, .ref (G.2.1 + 292)), (3, .int v3), (4, .int v4)] [.ref (G.2.1 + 292)] σ := by
  intro v3 v4 σ h
  unfold f_X10_cannot_385 at h
  refine q_iconst (v := 0) hx dX10_cannot_385 (by decide) ?_
  refine q_sub [0, 1, 2] rfl ?_
  exact s_X10_cannot_386 hx hr v3 v4 0 σ h
def f_X10_cannot (σ : q_S) (a1 : Int32) : Option (Int32 × q_S) :=
  if ((3 * a1) < 0 ∨ 96 ≤ (3 * a1).toNatClampNeg) then none else if (((3 * a1) + 1) < 0 ∨ 96 ≤ ((3 * a1) + 1).toNatClampNeg) then none else if (((3 * a1) + 2) < 0 ∨ 96 ≤ ((3 * a1) + 2).toNatClampNeg) then none else if (a1 < 0 ∨ 32 ≤ a1.toNatClampNeg) then none else if ((q_up σ 292 27 0) 300 a1.toNatClampNeg) = 0 then (Option.bind (f_X10_isNot (q_up σ 292 27 0) ((f_X10_in (σ 301 (3 * a1).toNatClampNeg) 1 9))) (fun q6 => if q6.1 = 0 then (if ((f_X10_isRefusedSleeper q6.2).1) = 0 then (Option.bind (f_X10_comes ((f_X10_isRefusedSleeper q6.2).2) (σ 301 (3 * a1).toNatClampNeg)) (fun q9 => some ((0, q9.2)))) else (some ((1, (f_X10_isRefusedSleeper q6.2).2)))) else (some ((1, q6.2))))) else if ((q_up σ 292 27 0) 300 a1.toNatClampNeg) = 1 then (if ((f_X10_isCorner (σ 301 (3 * a1).toNatClampNeg) (σ 301 ((3 * a1) + 1).toNatClampNeg))) = 0 then (f_X10_cannot_141 (σ 301 (3 * a1).toNatClampNeg) (σ 301 ((3 * a1) + 1).toNatClampNeg) (σ 301 ((3 * a1) + 2).toNatClampNeg) (q_up σ 292 27 0)) else (Option.bind (f_X10_isPeriod (σ 301 ((3 * a1) + 2).toNatClampNeg)) (fun q17 => if q17 = 0 then (f_X10_cannot_141 (σ 301 (3 * a1).toNatClampNeg) (σ 301 ((3 * a1) + 1).toNatClampNeg) (σ 301 ((3 * a1) + 2).toNatClampNeg) (q_up σ 292 27 0)) else (f_X10_cannot_142 (σ 301 (3 * a1).toNatClampNeg) (σ 301 ((3 * a1) + 1).toNatClampNeg) (σ 301 ((3 * a1) + 2).toNatClampNeg) 1 (q_up σ 292 27 0))))) else if ((q_up σ 292 27 0) 300 a1.toNatClampNeg) = 2 then (Option.bind (f_X10_isSleeper (q_up σ 292 27 0) (σ 301 (3 * a1).toNatClampNeg)) (fun q20 => if q20 = 0 then (f_X10_cannot_195 (σ 301 (3 * a1).toNatClampNeg) (σ 301 ((3 * a1) + 1).toNatClampNeg) (σ 301 ((3 * a1) + 2).toNatClampNeg) (q_up σ 292 27 0)) else (if ((f_X10_isCorner (σ 301 ((3 * a1) + 1).toNatClampNeg) (σ 301 ((3 * a1) + 2).toNatClampNeg))) = 0 then (f_X10_cannot_195 (σ 301 (3 * a1).toNatClampNeg) (σ 301 ((3 * a1) + 1).toNatClampNeg) (σ 301 ((3 * a1) + 2).toNatClampNeg) (q_up σ 292 27 0)) else (f_X10_cannot_196 (σ 301 (3 * a1).toNatClampNeg) (σ 301 ((3 * a1) + 1).toNatClampNeg) (σ 301 ((3 * a1) + 2).toNatClampNeg) 1 (q_up σ 292 27 0))))) else if ((q_up σ 292 27 0) 300 a1.toNatClampNeg) = 3 then (Option.bind (f_X10_isSleeper (q_up σ 292 27 0) (σ 301 (3 * a1).toNatClampNeg)) (fun q29 => if q29 = 0 then (f_X10_cannot_245 (σ 301 (3 * a1).toNatClampNeg) (σ 301 ((3 * a1) + 1).toNatClampNeg) (σ 301 ((3 * a1) + 2).toNatClampNeg) (q_up σ 292 27 0)) else (Option.bind (f_X10_isLength (σ 301 ((3 * a1) + 2).toNatClampNeg)) (fun q36 => if q36 = 0 then (f_X10_cannot_245 (σ 301 (3 * a1).toNatClampNeg) (σ 301 ((3 * a1) + 1).toNatClampNeg) (σ 301 ((3 * a1) + 2).toNatClampNeg) (q_up σ 292 27 0)) else (f_X10_cannot_246 (σ 301 (3 * a1).toNatClampNeg) (σ 301 ((3 * a1) + 1).toNatClampNeg) (σ 301 ((3 * a1) + 2).toNatClampNeg) 1 (q_up σ 292 27 0)))))) else if ((q_up σ 292 27 0) 300 a1.toNatClampNeg) = 4 then (Option.bind (f_X10_hasChain (q_up σ 292 27 0) (σ 301 (3 * a1).toNatClampNeg) (σ 301 ((3 * a1) + 1).toNatClampNeg)) (fun q39 => if q39 = 0 then (f_X10_cannot_301 (σ 301 (3 * a1).toNatClampNeg) (σ 301 ((3 * a1) + 1).toNatClampNeg) (σ 301 ((3 * a1) + 2).toNatClampNeg) (q_up σ 292 27 0)) else (if ((f_X10_isBend (σ 301 ((3 * a1) + 2).toNatClampNeg))) = 0 then (f_X10_cannot_301 (σ 301 (3 * a1).toNatClampNeg) (σ 301 ((3 * a1) + 1).toNatClampNeg) (σ 301 ((3 * a1) + 2).toNatClampNeg) (q_up σ 292 27 0)) else (f_X10_cannot_302 (σ 301 (3 * a1).toNatClampNeg) (σ 301 ((3 * a1) + 1).toNatClampNeg) (σ 301 ((3 * a1) + 2).toNatClampNeg) 1 (q_up σ 292 27 0))))) else if ((q_up σ 292 27 0) 300 a1.toNatClampNeg) = 5 then (Option.bind (f_X10_isSleeper (q_up σ 292 27 0) (σ 301 (3 * a1).toNatClampNeg)) (fun q48 => Option.bind (f_X10_isNot (q_up σ 292 27 0) q48) (fun q49 => if q49.1 = 0 then (Option.bind (f_X10_isRefusedDrop q49.2 (σ 301 (3 * a1).toNatClampNeg)) (fun q51 => if q51.1 = 0 then (Option.bind (f_X10_drops q51.2 (σ 301 (3 * a1).toNatClampNeg)) (fun q53 => some ((0, q53.2)))) else (some ((1, q51.2))))) else (some ((1, q49.2)))))) else if ((q_up σ 292 27 0) 300 a1.toNatClampNeg) = 6 then (Option.bind (f_X10_isSleeper (q_up σ 292 27 0) (σ 301 (3 * a1).toNatClampNeg)) (fun q55 => if q55 = 0 then (f_X10_cannot_385 (σ 301 (3 * a1).toNatClampNeg) (σ 301 ((3 * a1) + 1).toNatClampNeg) (q_up σ 292 27 0)) else (Option.bind (f_X10_isDepth (σ 301 ((3 * a1) + 1).toNatClampNeg)) (fun q62 => if q62 = 0 then (f_X10_cannot_385 (σ 301 (3 * a1).toNatClampNeg) (σ 301 ((3 * a1) + 1).toNatClampNeg) (q_up σ 292 27 0)) else (f_X10_cannot_386 (σ 301 (3 * a1).toNatClampNeg) (σ 301 ((3 * a1) + 1).toNatClampNeg) 1 (q_up σ 292 27 0)))))) else Option.bind (f_X10_areHours (σ 301 (3 * a1).toNatClampNeg)) (fun q64 => Option.bind (f_X10_isNot (q_up σ 292 27 0) q64) (fun q65 => if q65.1 = 0 then (Option.bind (f_X10_goesBy q65.2 (σ 301 (3 * a1).toNatClampNeg)) (fun q67 => some ((0, q67.2)))) else (some ((1, q65.2)))))
set_option maxHeartbeats 4000000 in
set_option maxRecDepth 100000 in
theorem c_X10_cannot (l : Launch) (G : q_G) (x : q_A) (σ : q_S) (a1 : Int32)  {res : Int32 × q_S} (h : f_X10_cannot σ a1 = some res) : q_Met l yX10_cannot cX10_cannot 6 (some .boolean) 6 G [.ref (G.2.1 + 292), .int a1] σ x (q_Qi G x res.1 res.2) := by
  refine q_of (by decide) (Nat.le_of_ble_eq_true rfl) (fun X hl0 hx hr => ?_)
  subst hl0
  have hx : q_Cx X G RX10 cX10_cannot 6 6 := hx
  unfold f_X10_cannot at h
  show q_Wq X G x 6 (q_MQ X G (q_Qi G x res.1 res.2)) 0 0 0 [(0, .ref (G.2.1 + 292)), (1, .int a1)] [] σ
  refine q_iconst (v := 0) hx dX10_cannot_0 (by decide) ?_
  refine q_istore_n hx [(2, .int 0), (0, .ref (G.2.1 + 292)), (1, .int a1)] dX10_cannot_1 (by decide) rfl ?_
  refine q_aload_n hx dX10_cannot_2 1 rfl ?_
  refine q_get (v := .ref (G.2.1 + 301)) hx q_fl_X10_76 dX10_cannot_3 (q_ne kd_292 (by decide)) (q_e10 kd_292) rfl ?_
  refine q_iconst (v := 3) hx dX10_cannot_6 (by decide) ?_
  refine q_iload_n hx dX10_cannot_7 2 rfl ?_
  refine q_imul hx dX10_cannot_8 ?_
  by_cases hg1 : ((3 * a1) < 0 ∨ 96 ≤ (3 * a1).toNatClampNeg)
  · rw [if_pos hg1] at h; exact nomatch h
  replace h := (if_neg hg1).symm.trans h
  refine q_iald (N := 96) hx dX10_cannot_9 kd_301 (by first | decide | assumption) hg1 ?_
  refine q_istore_n hx [(3, .int (σ 301 (3 * a1).toNatClampNeg)), (2, .int 0), (0, .ref (G.2.1 + 292)), (1, .int a1)] dX10_cannot_10 (by decide) rfl ?_
  refine q_aload_n hx dX10_cannot_11 2 rfl ?_
  refine q_get (v := .ref (G.2.1 + 301)) hx q_fl_X10_76 dX10_cannot_12 (q_ne kd_292 (by decide)) (q_e10 kd_292) rfl ?_
  refine q_iconst (v := 3) hx dX10_cannot_15 (by decide) ?_
  refine q_iload_n hx dX10_cannot_16 3 rfl ?_
  refine q_imul hx dX10_cannot_17 ?_
  refine q_iconst (v := 1) hx dX10_cannot_18 (by decide) ?_
  refine q_iadd hx dX10_cannot_19 ?_
  by_cases hg2 : (((3 * a1) + 1) < 0 ∨ 96 ≤ ((3 * a1) + 1).toNatClampNeg)
  · rw [if_pos hg2] at h; exact nomatch h
  replace h := (if_neg hg2).symm.trans h
  refine q_iald (N := 96) hx dX10_cannot_20 kd_301 (by first | decide | assumption) hg2 ?_
  refine q_istore hx [(4, .int (σ 301 ((3 * a1) + 1).toNatClampNeg)), (3, .int (σ 301 (3 * a1).toNatClampNeg)), (2, .int 0), (0, .ref (G.2.1 + 292)), (1, .int a1)] dX10_cannot_21 (by decide) rfl ?_
  refine q_aload_n hx dX10_cannot_23 3 rfl ?_
  refine q_get (v := .ref (G.2.1 + 301)) hx q_fl_X10_76 dX10_cannot_24 (q_ne kd_292 (by decide)) (q_e10 kd_292) rfl ?_
  refine q_iconst (v := 3) hx dX10_cannot_27 (by decide) ?_
  refine q_iload_n hx dX10_cannot_28 4 rfl ?_
  refine q_imul hx dX10_cannot_29 ?_
  refine q_iconst (v := 2) hx dX10_cannot_30 (by decide) ?_
  refine q_iadd hx dX10_cannot_31 ?_
  by_cases hg3 : (((3 * a1) + 2) < 0 ∨ 96 ≤ ((3 * a1) + 2).toNatClampNeg)
  · rw [if_pos hg3] at h; exact nomatch h
  replace h := (if_neg hg3).symm.trans h
  refine q_iald (N := 96) hx dX10_cannot_32 kd_301 (by first | decide | assumption) hg3 ?_
  refine q_istore hx [(5, .int (σ 301 ((3 * a1) + 2).toNatClampNeg)), (4, .int (σ 301 ((3 * a1) + 1).toNatClampNeg)), (3, .int (σ 301 (3 * a1).toNatClampNeg)), (2, .int 0), (0, .ref (G.2.1 + 292)), (1, .int a1)] dX10_cannot_33 (by decide) rfl ?_
  refine q_aload_n hx dX10_cannot_35 4 rfl ?_
  refine q_iconst (v := 0) hx dX10_cannot_36 (by decide) ?_
  refine q_put (v := 0) hx q_fl_X10_94 q_fp_10_27 dX10_cannot_37 (q_ne kd_292 (by decide)) (q_e10 kd_292) (by rw [q_l10]; decide) rfl rfl (by rw [q_e10 kd_292, q_s10_27]) ?_
  refine q_aload_n hx dX10_cannot_40 4 rfl ?_
  refine q_get (v := .ref (G.2.1 + 300)) hx q_fl_X10_73 dX10_cannot_41 (q_ne kd_292 (by decide)) (q_e10 kd_292) rfl ?_
  refine q_iload_n hx dX10_cannot_44 5 rfl ?_
  by_cases hg4 : (a1 < 0 ∨ 32 ≤ a1.toNatClampNeg)
  · rw [if_pos hg4] at h; exact nomatch h
  replace h := (if_neg hg4).symm.trans h
  refine q_iald (N := 32) hx dX10_cannot_45 kd_300 (by first | decide | assumption) hg4 ?_
  by_cases hc5 : (q_up σ 292 27 0) 300 a1.toNatClampNeg = 0
  · replace h := (if_pos hc5).symm.trans h
    refine q_tin hx 88 dX10_cannot_46 (by rw [hc5] <;> decide) (by rw [hc5] <;> decide) (by rw [hc5] <;> rfl) (by decide) ?_
    refine q_aload_n hx dX10_cannot_88 4 rfl ?_
    refine q_iload_n hx dX10_cannot_89 2 rfl ?_
    refine q_iconst (v := 1) hx dX10_cannot_90 (by decide) ?_
    refine q_bipush (v := 9) hx dX10_cannot_91 (by decide) ?_
    refine q_callSi (As := [.int (σ 301 (3 * a1).toNatClampNeg), .int 1, .int 9]) (rest := [.ref (G.2.1 + 292)]) hx q_kR0 (c_X10_in (q_Xl X) G x (q_up σ 292 27 0) (σ 301 (3 * a1).toNatClampNeg) 1 9) q_ml_X10_115 q_mn_X10_in q_ms_X10_in (by decide) rfl (Nat.le_of_ble_eq_true rfl) dX10_cannot_93 rfl ?_
    refine q_bindE h (fun q6 hq6 h => ?_)
    refine q_callVi (As := [.int ((f_X10_in (σ 301 (3 * a1).toNatClampNeg) 1 9))]) (rest := []) hx q_kR0 (c_X10_isNot (q_Xl X) G x (q_up σ 292 27 0) ((f_X10_in (σ 301 (3 * a1).toNatClampNeg) 1 9)) hq6) q_ml_X10_323 q_mn_X10_isNot q_mi_X10_isNot q_se_X10_isNot (by decide) rfl (Nat.le_of_ble_eq_true rfl) dX10_cannot_96 (q_ne kd_292 (by decide)) (q_e10 kd_292) rfl rfl rfl ?_
    refine q_if_ne hx 109 dX10_cannot_99 (by decide) (fun hc7 => ?_) (fun hc7 => ?_)
    · replace h := (if_neg hc7).symm.trans h
      refine q_iconst (v := 1) hx dX10_cannot_109 (by decide) ?_
      cases h
      exact q_zret (v := 1) hx hr rfl dX10_cannot_110
    · replace h := (if_pos hc7).symm.trans h
      refine q_aload_n hx dX10_cannot_102 4 rfl ?_
      refine q_callVi (As := []) (rest := []) hx q_kR0 (c_X10_isRefusedSleeper (q_Xl X) G x q6.2 ) q_ml_X10_130 q_mn_X10_isRefusedSleeper q_mi_X10_isRefusedSleeper q_se_X10_isRefusedSleeper (by decide) rfl (Nat.le_of_ble_eq_true rfl) dX10_cannot_103 (q_ne kd_292 (by decide)) (q_e10 kd_292) rfl rfl rfl ?_
      refine q_if_eq hx 111 dX10_cannot_106 (by decide) (fun hc8 => ?_) (fun hc8 => ?_)
      · replace h := (if_pos hc8).symm.trans h
        refine q_aload_n hx dX10_cannot_111 4 rfl ?_
        refine q_iload_n hx dX10_cannot_112 2 rfl ?_
        refine q_bindE h (fun q9 hq9 h => ?_)
        refine q_callVi (As := [.int (σ 301 (3 * a1).toNatClampNeg)]) (rest := []) hx q_kR0 (c_X10_comes (q_Xl X) G x ((f_X10_isRefusedSleeper q6.2).2) (σ 301 (3 * a1).toNatClampNeg) hq9) q_ml_X10_137 q_mn_X10_comes q_mi_X10_comes q_se_X10_comes (by decide) rfl (Nat.le_of_ble_eq_true rfl) dX10_cannot_113 (q_ne kd_292 (by decide)) (q_e10 kd_292) rfl rfl rfl ?_
        refine q_istore_n hx [(2, .int q9.1), (5, .int (σ 301 ((3 * a1) + 2).toNatClampNeg)), (4, .int (σ 301 ((3 * a1) + 1).toNatClampNeg)), (3, .int (σ 301 (3 * a1).toNatClampNeg)), (0, .ref (G.2.1 + 292)), (1, .int a1)] dX10_cannot_116 (by decide) rfl ?_
        refine q_iconst (v := 0) hx dX10_cannot_117 (by decide) ?_
        cases h
        exact q_zret (v := 0) hx hr rfl dX10_cannot_118
      · replace h := (if_neg hc8).symm.trans h
        refine q_iconst (v := 1) hx dX10_cannot_109 (by decide) ?_
        cases h
        exact q_zret (v := 1) hx hr rfl dX10_cannot_110
  replace h := (if_neg hc5).symm.trans h
  by_cases hc10 : (q_up σ 292 27 0) 300 a1.toNatClampNeg = 1
  · replace h := (if_pos hc10).symm.trans h
    refine q_tin hx 119 dX10_cannot_46 (by rw [hc10] <;> decide) (by rw [hc10] <;> decide) (by rw [hc10] <;> rfl) (by decide) ?_
    refine q_aload_n hx dX10_cannot_119 4 rfl ?_
    refine q_iload_n hx dX10_cannot_120 2 rfl ?_
    refine q_iload hx dX10_cannot_121 1 rfl ?_
    refine q_callSi (As := [.int (σ 301 (3 * a1).toNatClampNeg), .int (σ 301 ((3 * a1) + 1).toNatClampNeg)]) (rest := [.ref (G.2.1 + 292)]) hx q_kR0 (c_X10_isCorner (q_Xl X) G x (q_up σ 292 27 0) (σ 301 (3 * a1).toNatClampNeg) (σ 301 ((3 * a1) + 1).toNatClampNeg)) q_ml_X10_149 q_mn_X10_isCorner q_ms_X10_isCorner (by decide) rfl (Nat.le_of_ble_eq_true rfl) dX10_cannot_123 rfl ?_
    refine q_if_eq hx 141 dX10_cannot_126 (by decide) (fun hc11 => ?_) (fun hc11 => ?_)
    · replace h := (if_pos hc11).symm.trans h
      refine q_sub [4, 2, 1, 0] rfl ?_
      exact s_X10_cannot_141 hx hr (σ 301 (3 * a1).toNatClampNeg) (σ 301 ((3 * a1) + 1).toNatClampNeg) (σ 301 ((3 * a1) + 2).toNatClampNeg) (q_up σ 292 27 0) h
    · replace h := (if_neg hc11).symm.trans h
      refine q_iload hx dX10_cannot_129 0 rfl ?_
      refine q_bindE h (fun q17 hq17 h => ?_)
      refine q_callSi (As := [.int (σ 301 ((3 * a1) + 2).toNatClampNeg)]) (rest := [.ref (G.2.1 + 292)]) hx q_kR0 (c_X10_isPeriod (q_Xl X) G x (q_up σ 292 27 0) (σ 301 ((3 * a1) + 2).toNatClampNeg) hq17) q_ml_X10_152 q_mn_X10_isPeriod q_ms_X10_isPeriod (by decide) rfl (Nat.le_of_ble_eq_true rfl) dX10_cannot_131 rfl ?_
      refine q_if_eq hx 141 dX10_cannot_134 (by decide) (fun hc18 => ?_) (fun hc18 => ?_)
      · replace h := (if_pos hc18).symm.trans h
        refine q_sub [4, 2, 1, 0] rfl ?_
        exact s_X10_cannot_141 hx hr (σ 301 (3 * a1).toNatClampNeg) (σ 301 ((3 * a1) + 1).toNatClampNeg) (σ 301 ((3 * a1) + 2).toNatClampNeg) (q_up σ 292 27 0) h
      · replace h := (if_neg hc18).symm.trans h
        refine q_iconst (v := 1) hx dX10_cannot_137 (by decide) ?_
        refine q_goto hx 142 dX10_cannot_138 (by decide) ?_
        refine q_sub [4, 2, 1, 0] rfl ?_
        exact s_X10_cannot_142 hx hr (σ 301 (3 * a1).toNatClampNeg) (σ 301 ((3 * a1) + 1).toNatClampNeg) (σ 301 ((3 * a1) + 2).toNatClampNeg) 1 (q_up σ 292 27 0) h
  replace h := (if_neg hc10).symm.trans h
  by_cases hc19 : (q_up σ 292 27 0) 300 a1.toNatClampNeg = 2
  · replace h := (if_pos hc19).symm.trans h
    refine q_tin hx 172 dX10_cannot_46 (by rw [hc19] <;> decide) (by rw [hc19] <;> decide) (by rw [hc19] <;> rfl) (by decide) ?_
    refine q_aload_n hx dX10_cannot_172 4 rfl ?_
    refine q_aload_n hx dX10_cannot_173 4 rfl ?_
    refine q_iload_n hx dX10_cannot_174 2 rfl ?_
    refine q_bindE h (fun q20 hq20 h => ?_)
    refine q_callVi (As := [.int (σ 301 (3 * a1).toNatClampNeg)]) (rest := [.ref (G.2.1 + 292)]) hx q_kR0 (c_X10_isSleeper (q_Xl X) G x (q_up σ 292 27 0) (σ 301 (3 * a1).toNatClampNeg) hq20) q_ml_X10_166 q_mn_X10_isSleeper q_mi_X10_isSleeper q_se_X10_isSleeper (by decide) rfl (Nat.le_of_ble_eq_true rfl) dX10_cannot_175 (q_ne kd_292 (by decide)) (q_e10 kd_292) rfl rfl rfl ?_
    refine q_if_eq hx 195 dX10_cannot_178 (by decide) (fun hc21 => ?_) (fun hc21 => ?_)
    · replace h := (if_pos hc21).symm.trans h
      refine q_sub [4, 2, 1, 0] rfl ?_
      exact s_X10_cannot_195 hx hr (σ 301 (3 * a1).toNatClampNeg) (σ 301 ((3 * a1) + 1).toNatClampNeg) (σ 301 ((3 * a1) + 2).toNatClampNeg) (q_up σ 292 27 0) h
    · replace h := (if_neg hc21).symm.trans h
      refine q_iload hx dX10_cannot_181 1 rfl ?_
      refine q_iload hx dX10_cannot_183 0 rfl ?_
      refine q_callSi (As := [.int (σ 301 ((3 * a1) + 1).toNatClampNeg), .int (σ 301 ((3 * a1) + 2).toNatClampNeg)]) (rest := [.ref (G.2.1 + 292)]) hx q_kR0 (c_X10_isCorner (q_Xl X) G x (q_up σ 292 27 0) (σ 301 ((3 * a1) + 1).toNatClampNeg) (σ 301 ((3 * a1) + 2).toNatClampNeg)) q_ml_X10_149 q_mn_X10_isCorner q_ms_X10_isCorner (by decide) rfl (Nat.le_of_ble_eq_true rfl) dX10_cannot_185 rfl ?_
      refine q_if_eq hx 195 dX10_cannot_188 (by decide) (fun hc27 => ?_) (fun hc27 => ?_)
      · replace h := (if_pos hc27).symm.trans h
        refine q_sub [4, 2, 1, 0] rfl ?_
        exact s_X10_cannot_195 hx hr (σ 301 (3 * a1).toNatClampNeg) (σ 301 ((3 * a1) + 1).toNatClampNeg) (σ 301 ((3 * a1) + 2).toNatClampNeg) (q_up σ 292 27 0) h
      · replace h := (if_neg hc27).symm.trans h
        refine q_iconst (v := 1) hx dX10_cannot_191 (by decide) ?_
        refine q_goto hx 196 dX10_cannot_192 (by decide) ?_
        refine q_sub [4, 2, 1, 0] rfl ?_
        exact s_X10_cannot_196 hx hr (σ 301 (3 * a1).toNatClampNeg) (σ 301 ((3 * a1) + 1).toNatClampNeg) (σ 301 ((3 * a1) + 2).toNatClampNeg) 1 (q_up σ 292 27 0) h
  replace h := (if_neg hc19).symm.trans h
  by_cases hc28 : (q_up σ 292 27 0) 300 a1.toNatClampNeg = 3
  · replace h := (if_pos hc28).symm.trans h
    refine q_tin hx 224 dX10_cannot_46 (by rw [hc28] <;> decide) (by rw [hc28] <;> decide) (by rw [hc28] <;> rfl) (by decide) ?_
    refine q_aload_n hx dX10_cannot_224 4 rfl ?_
    refine q_aload_n hx dX10_cannot_225 4 rfl ?_
    refine q_iload_n hx dX10_cannot_226 2 rfl ?_
    refine q_bindE h (fun q29 hq29 h => ?_)
    refine q_callVi (As := [.int (σ 301 (3 * a1).toNatClampNeg)]) (rest := [.ref (G.2.1 + 292)]) hx q_kR0 (c_X10_isSleeper (q_Xl X) G x (q_up σ 292 27 0) (σ 301 (3 * a1).toNatClampNeg) hq29) q_ml_X10_166 q_mn_X10_isSleeper q_mi_X10_isSleeper q_se_X10_isSleeper (by decide) rfl (Nat.le_of_ble_eq_true rfl) dX10_cannot_227 (q_ne kd_292 (by decide)) (q_e10 kd_292) rfl rfl rfl ?_
    refine q_if_eq hx 245 dX10_cannot_230 (by decide) (fun hc30 => ?_) (fun hc30 => ?_)
    · replace h := (if_pos hc30).symm.trans h
      refine q_sub [4, 2, 1, 0] rfl ?_
      exact s_X10_cannot_245 hx hr (σ 301 (3 * a1).toNatClampNeg) (σ 301 ((3 * a1) + 1).toNatClampNeg) (σ 301 ((3 * a1) + 2).toNatClampNeg) (q_up σ 292 27 0) h
    · replace h := (if_neg hc30).symm.trans h
      refine q_iload hx dX10_cannot_233 0 rfl ?_
      refine q_bindE h (fun q36 hq36 h => ?_)
      refine q_callSi (As := [.int (σ 301 ((3 * a1) + 2).toNatClampNeg)]) (rest := [.ref (G.2.1 + 292)]) hx q_kR0 (c_X10_isLength (q_Xl X) G x (q_up σ 292 27 0) (σ 301 ((3 * a1) + 2).toNatClampNeg) hq36) q_ml_X10_207 q_mn_X10_isLength q_ms_X10_isLength (by decide) rfl (Nat.le_of_ble_eq_true rfl) dX10_cannot_235 rfl ?_
      refine q_if_eq hx 245 dX10_cannot_238 (by decide) (fun hc37 => ?_) (fun hc37 => ?_)
      · replace h := (if_pos hc37).symm.trans h
        refine q_sub [4, 2, 1, 0] rfl ?_
        exact s_X10_cannot_245 hx hr (σ 301 (3 * a1).toNatClampNeg) (σ 301 ((3 * a1) + 1).toNatClampNeg) (σ 301 ((3 * a1) + 2).toNatClampNeg) (q_up σ 292 27 0) h
      · replace h := (if_neg hc37).symm.trans h
        refine q_iconst (v := 1) hx dX10_cannot_241 (by decide) ?_
        refine q_goto hx 246 dX10_cannot_242 (by decide) ?_
        refine q_sub [4, 2, 1, 0] rfl ?_
        exact s_X10_cannot_246 hx hr (σ 301 (3 * a1).toNatClampNeg) (σ 301 ((3 * a1) + 1).toNatClampNeg) (σ 301 ((3 * a1) + 2).toNatClampNeg) 1 (q_up σ 292 27 0) h
  replace h := (if_neg hc28).symm.trans h
  by_cases hc38 : (q_up σ 292 27 0) 300 a1.toNatClampNeg = 4
  · replace h := (if_pos hc38).symm.trans h
    refine q_tin hx 278 dX10_cannot_46 (by rw [hc38] <;> decide) (by rw [hc38] <;> decide) (by rw [hc38] <;> rfl) (by decide) ?_
    refine q_aload_n hx dX10_cannot_278 4 rfl ?_
    refine q_aload_n hx dX10_cannot_279 4 rfl ?_
    refine q_iload_n hx dX10_cannot_280 2 rfl ?_
    refine q_iload hx dX10_cannot_281 1 rfl ?_
    refine q_bindE h (fun q39 hq39 h => ?_)
    refine q_callVi (As := [.int (σ 301 (3 * a1).toNatClampNeg), .int (σ 301 ((3 * a1) + 1).toNatClampNeg)]) (rest := [.ref (G.2.1 + 292)]) hx q_kR0 (c_X10_hasChain (q_Xl X) G x (q_up σ 292 27 0) (σ 301 (3 * a1).toNatClampNeg) (σ 301 ((3 * a1) + 1).toNatClampNeg) hq39) q_ml_X10_222 q_mn_X10_hasChain q_mi_X10_hasChain q_se_X10_hasChain (by decide) rfl (Nat.le_of_ble_eq_true rfl) dX10_cannot_283 (q_ne kd_292 (by decide)) (q_e10 kd_292) rfl rfl rfl ?_
    refine q_if_eq hx 301 dX10_cannot_286 (by decide) (fun hc40 => ?_) (fun hc40 => ?_)
    · replace h := (if_pos hc40).symm.trans h
      refine q_sub [4, 2, 1, 0] rfl ?_
      exact s_X10_cannot_301 hx hr (σ 301 (3 * a1).toNatClampNeg) (σ 301 ((3 * a1) + 1).toNatClampNeg) (σ 301 ((3 * a1) + 2).toNatClampNeg) (q_up σ 292 27 0) h
    · replace h := (if_neg hc40).symm.trans h
      refine q_iload hx dX10_cannot_289 0 rfl ?_
      refine q_callSi (As := [.int (σ 301 ((3 * a1) + 2).toNatClampNeg)]) (rest := [.ref (G.2.1 + 292)]) hx q_kR0 (c_X10_isBend (q_Xl X) G x (q_up σ 292 27 0) (σ 301 ((3 * a1) + 2).toNatClampNeg)) q_ml_X10_225 q_mn_X10_isBend q_ms_X10_isBend (by decide) rfl (Nat.le_of_ble_eq_true rfl) dX10_cannot_291 rfl ?_
      refine q_if_eq hx 301 dX10_cannot_294 (by decide) (fun hc46 => ?_) (fun hc46 => ?_)
      · replace h := (if_pos hc46).symm.trans h
        refine q_sub [4, 2, 1, 0] rfl ?_
        exact s_X10_cannot_301 hx hr (σ 301 (3 * a1).toNatClampNeg) (σ 301 ((3 * a1) + 1).toNatClampNeg) (σ 301 ((3 * a1) + 2).toNatClampNeg) (q_up σ 292 27 0) h
      · replace h := (if_neg hc46).symm.trans h
        refine q_iconst (v := 1) hx dX10_cannot_297 (by decide) ?_
        refine q_goto hx 302 dX10_cannot_298 (by decide) ?_
        refine q_sub [4, 2, 1, 0] rfl ?_
        exact s_X10_cannot_302 hx hr (σ 301 (3 * a1).toNatClampNeg) (σ 301 ((3 * a1) + 1).toNatClampNeg) (σ 301 ((3 * a1) + 2).toNatClampNeg) 1 (q_up σ 292 27 0) h
  replace h := (if_neg hc38).symm.trans h
  by_cases hc47 : (q_up σ 292 27 0) 300 a1.toNatClampNeg = 5
  · replace h := (if_pos hc47).symm.trans h
    refine q_tin hx 334 dX10_cannot_46 (by rw [hc47] <;> decide) (by rw [hc47] <;> decide) (by rw [hc47] <;> rfl) (by decide) ?_
    refine q_aload_n hx dX10_cannot_334 4 rfl ?_
    refine q_aload_n hx dX10_cannot_335 4 rfl ?_
    refine q_iload_n hx dX10_cannot_336 2 rfl ?_
    refine q_bindE h (fun q48 hq48 h => ?_)
    refine q_callVi (As := [.int (σ 301 (3 * a1).toNatClampNeg)]) (rest := [.ref (G.2.1 + 292)]) hx q_kR0 (c_X10_isSleeper (q_Xl X) G x (q_up σ 292 27 0) (σ 301 (3 * a1).toNatClampNeg) hq48) q_ml_X10_166 q_mn_X10_isSleeper q_mi_X10_isSleeper q_se_X10_isSleeper (by decide) rfl (Nat.le_of_ble_eq_true rfl) dX10_cannot_337 (q_ne kd_292 (by decide)) (q_e10 kd_292) rfl rfl rfl ?_
    refine q_bindE h (fun q49 hq49 h => ?_)
    refine q_callVi (As := [.int q48]) (rest := []) hx q_kR0 (c_X10_isNot (q_Xl X) G x (q_up σ 292 27 0) q48 hq49) q_ml_X10_323 q_mn_X10_isNot q_mi_X10_isNot q_se_X10_isNot (by decide) rfl (Nat.le_of_ble_eq_true rfl) dX10_cannot_340 (q_ne kd_292 (by decide)) (q_e10 kd_292) rfl rfl rfl ?_
    refine q_if_ne hx 354 dX10_cannot_343 (by decide) (fun hc50 => ?_) (fun hc50 => ?_)
    · replace h := (if_neg hc50).symm.trans h
      refine q_iconst (v := 1) hx dX10_cannot_354 (by decide) ?_
      cases h
      exact q_zret (v := 1) hx hr rfl dX10_cannot_355
    · replace h := (if_pos hc50).symm.trans h
      refine q_aload_n hx dX10_cannot_346 4 rfl ?_
      refine q_iload_n hx dX10_cannot_347 2 rfl ?_
      refine q_bindE h (fun q51 hq51 h => ?_)
      refine q_callVi (As := [.int (σ 301 (3 * a1).toNatClampNeg)]) (rest := []) hx q_kR0 (c_X10_isRefusedDrop (q_Xl X) G x q49.2 (σ 301 (3 * a1).toNatClampNeg) hq51) q_ml_X10_234 q_mn_X10_isRefusedDrop q_mi_X10_isRefusedDrop q_se_X10_isRefusedDrop (by decide) rfl (Nat.le_of_ble_eq_true rfl) dX10_cannot_348 (q_ne kd_292 (by decide)) (q_e10 kd_292) rfl rfl rfl ?_
      refine q_if_eq hx 356 dX10_cannot_351 (by decide) (fun hc52 => ?_) (fun hc52 => ?_)
      · replace h := (if_pos hc52).symm.trans h
        refine q_aload_n hx dX10_cannot_356 4 rfl ?_
        refine q_iload_n hx dX10_cannot_357 2 rfl ?_
        refine q_bindE h (fun q53 hq53 h => ?_)
        refine q_callVi (As := [.int (σ 301 (3 * a1).toNatClampNeg)]) (rest := []) hx q_kR0 (c_X10_drops (q_Xl X) G x q51.2 (σ 301 (3 * a1).toNatClampNeg) hq53) q_ml_X10_237 q_mn_X10_drops q_mi_X10_drops q_se_X10_drops (by decide) rfl (Nat.le_of_ble_eq_true rfl) dX10_cannot_358 (q_ne kd_292 (by decide)) (q_e10 kd_292) rfl rfl rfl ?_
        refine q_istore_n hx [(2, .int q53.1), (5, .int (σ 301 ((3 * a1) + 2).toNatClampNeg)), (4, .int (σ 301 ((3 * a1) + 1).toNatClampNeg)), (3, .int (σ 301 (3 * a1).toNatClampNeg)), (0, .ref (G.2.1 + 292)), (1, .int a1)] dX10_cannot_361 (by decide) rfl ?_
        refine q_iconst (v := 0) hx dX10_cannot_362 (by decide) ?_
        cases h
        exact q_zret (v := 0) hx hr rfl dX10_cannot_363
      · replace h := (if_neg hc52).symm.trans h
        refine q_iconst (v := 1) hx dX10_cannot_354 (by decide) ?_
        cases h
        exact q_zret (v := 1) hx hr rfl dX10_cannot_355
  replace h := (if_neg hc47).symm.trans h
  by_cases hc54 : (q_up σ 292 27 0) 300 a1.toNatClampNeg = 6
  · replace h := (if_pos hc54).symm.trans h
    refine q_tin hx 364 dX10_cannot_46 (by rw [hc54] <;> decide) (by rw [hc54] <;> decide) (by rw [hc54] <;> rfl) (by decide) ?_
    refine q_aload_n hx dX10_cannot_364 4 rfl ?_
    refine q_aload_n hx dX10_cannot_365 4 rfl ?_
    refine q_iload_n hx dX10_cannot_366 2 rfl ?_
    refine q_bindE h (fun q55 hq55 h => ?_)
    refine q_callVi (As := [.int (σ 301 (3 * a1).toNatClampNeg)]) (rest := [.ref (G.2.1 + 292)]) hx q_kR0 (c_X10_isSleeper (q_Xl X) G x (q_up σ 292 27 0) (σ 301 (3 * a1).toNatClampNeg) hq55) q_ml_X10_166 q_mn_X10_isSleeper q_mi_X10_isSleeper q_se_X10_isSleeper (by decide) rfl (Nat.le_of_ble_eq_true rfl) dX10_cannot_367 (q_ne kd_292 (by decide)) (q_e10 kd_292) rfl rfl rfl ?_
    refine q_if_eq hx 385 dX10_cannot_370 (by decide) (fun hc56 => ?_) (fun hc56 => ?_)
    · replace h := (if_pos hc56).symm.trans h
      refine q_sub [4, 2, 1] rfl ?_
      exact s_X10_cannot_385 hx hr (σ 301 (3 * a1).toNatClampNeg) (σ 301 ((3 * a1) + 1).toNatClampNeg) (q_up σ 292 27 0) h
    · replace h := (if_neg hc56).symm.trans h
      refine q_iload hx dX10_cannot_373 1 rfl ?_
      refine q_bindE h (fun q62 hq62 h => ?_)
      refine q_callSi (As := [.int (σ 301 ((3 * a1) + 1).toNatClampNeg)]) (rest := [.ref (G.2.1 + 292)]) hx q_kR0 (c_X10_isDepth (q_Xl X) G x (q_up σ 292 27 0) (σ 301 ((3 * a1) + 1).toNatClampNeg) hq62) q_ml_X10_240 q_mn_X10_isDepth q_ms_X10_isDepth (by decide) rfl (Nat.le_of_ble_eq_true rfl) dX10_cannot_375 rfl ?_
      refine q_if_eq hx 385 dX10_cannot_378 (by decide) (fun hc63 => ?_) (fun hc63 => ?_)
      · replace h := (if_pos hc63).symm.trans h
        refine q_sub [4, 2, 1] rfl ?_
        exact s_X10_cannot_385 hx hr (σ 301 (3 * a1).toNatClampNeg) (σ 301 ((3 * a1) + 1).toNatClampNeg) (q_up σ 292 27 0) h
      · replace h := (if_neg hc63).symm.trans h
        refine q_iconst (v := 1) hx dX10_cannot_381 (by decide) ?_
        refine q_goto hx 386 dX10_cannot_382 (by decide) ?_
        refine q_sub [4, 2, 1] rfl ?_
        exact s_X10_cannot_386 hx hr (σ 301 (3 * a1).toNatClampNeg) (σ 301 ((3 * a1) + 1).toNatClampNeg) 1 (q_up σ 292 27 0) h
  replace h := (if_neg hc54).symm.trans h
  have hc5T := lv_neT (k := 0) (a := 0) hc5 (by decide)
  have hc10T := lv_neT (k := 1) (a := 1) hc10 (by decide)
  have hc19T := lv_neT (k := 2) (a := 2) hc19 (by decide)
  have hc28T := lv_neT (k := 3) (a := 3) hc28 (by decide)
  have hc38T := lv_neT (k := 4) (a := 4) hc38 (by decide)
  have hc47T := lv_neT (k := 5) (a := 5) hc47 (by decide)
  have hc54T := lv_neT (k := 6) (a := 6) hc54 (by decide)
  refine q_tout hx 414 dX10_cannot_46 (by omega) (by decide) ?_
  refine q_aload_n hx dX10_cannot_414 4 rfl ?_
  refine q_iload_n hx dX10_cannot_415 2 rfl ?_
  refine q_bindE h (fun q64 hq64 h => ?_)
  refine q_callSi (As := [.int (σ 301 (3 * a1).toNatClampNeg)]) (rest := [.ref (G.2.1 + 292)]) hx q_kR0 (c_X10_areHours (q_Xl X) G x (q_up σ 292 27 0) (σ 301 (3 * a1).toNatClampNeg) hq64) q_ml_X10_252 q_mn_X10_areHours q_ms_X10_areHours (by decide) rfl (Nat.le_of_ble_eq_true rfl) dX10_cannot_416 rfl ?_
  refine q_bindE h (fun q65 hq65 h => ?_)
  refine q_callVi (As := [.int q64]) (rest := []) hx q_kR0 (c_X10_isNot (q_Xl X) G x (q_up σ 292 27 0) q64 hq65) q_ml_X10_323 q_mn_X10_isNot q_mi_X10_isNot q_se_X10_isNot (by decide) rfl (Nat.le_of_ble_eq_true rfl) dX10_cannot_419 (q_ne kd_292 (by decide)) (q_e10 kd_292) rfl rfl rfl ?_
  refine q_if_eq hx 427 dX10_cannot_422 (by decide) (fun hc66 => ?_) (fun hc66 => ?_)
  · replace h := (if_pos hc66).symm.trans h
    refine q_aload_n hx dX10_cannot_427 4 rfl ?_
    refine q_iload_n hx dX10_cannot_428 2 rfl ?_
    refine q_bindE h (fun q67 hq67 h => ?_)
    refine q_callVi (As := [.int (σ 301 (3 * a1).toNatClampNeg)]) (rest := []) hx q_kR0 (c_X10_goesBy (q_Xl X) G x q65.2 (σ 301 (3 * a1).toNatClampNeg) hq67) q_ml_X10_255 q_mn_X10_goesBy q_mi_X10_goesBy q_se_X10_goesBy (by decide) rfl (Nat.le_of_ble_eq_true rfl) dX10_cannot_429 (q_ne kd_292 (by decide)) (q_e10 kd_292) rfl rfl rfl ?_
    refine q_istore_n hx [(2, .int q67.1), (5, .int (σ 301 ((3 * a1) + 2).toNatClampNeg)), (4, .int (σ 301 ((3 * a1) + 1).toNatClampNeg)), (3, .int (σ 301 (3 * a1).toNatClampNeg)), (0, .ref (G.2.1 + 292)), (1, .int a1)] dX10_cannot_432 (by decide) rfl ?_
    refine q_iconst (v := 0) hx dX10_cannot_433 (by decide) ?_
    cases h
    exact q_zret (v := 0) hx hr rfl dX10_cannot_434
  · replace h := (if_neg hc66).symm.trans h
    refine q_iconst (v := 1) hx dX10_cannot_425 (by decide) ?_
    cases h
    exact q_zret (v := 1) hx hr rfl dX10_cannot_426
-- X10_read
def f_X10_read_79 (v1 : Int32) (s0 : Int32) (σ : q_S) : Option (Int32 × q_S) :=
  some (((f_X10_no (q_up (q_up (q_up (q_up σ 292 10 s0) 292 11 ((q_up σ 292 10 s0) 292 7)) 292 8 11) 292 9 v1) 2).1, (f_X10_no (q_up (q_up (q_up (q_up σ 292 10 s0) 292 11 ((q_up σ 292 10 s0) 292 7)) 292 8 11) 292 9 v1) 2).2))
set_option maxHeartbeats 4000000 in
set_option maxRecDepth 100000 in
theorem s_X10_read_79 {X : q_X} {G : q_G} {x : q_A} (hx : q_Cx X G RX10 cX10_read 2 7) (hr : (q_Xm X).sig.returnType = some .int) {res : Int32 × q_S} : ∀ (v1 : Int32) (s0 : Int32) (σ : q_S), f_X10_read_79 v1 s0 σ = some res → q_Wq X G x 2 (q_MQ X G (q_Qi G x res.1 res.2)) 0 0 79 [(0, .ref (G.2.1 + 292)), (1, .int v1)] [.int s0, .ref (G.2.1 + 292)] σ := by
  intro v1 s0 σ h
  unfold f_X10_read_79 at h
  refine q_put (v := s0) hx q_fl_X10_41 q_fp_10_10 dX10_read_79 (q_ne kd_292 (by decide)) (q_e10 kd_292) (by rw [q_l10]; decide) rfl rfl (by rw [q_e10 kd_292, q_s10_10]) ?_
  refine q_aload_n hx dX10_read_82 0 rfl ?_
  refine q_aload_n hx dX10_read_83 0 rfl ?_
  refine q_get (v := .int ((q_up σ 292 10 s0) 292 7)) hx q_fl_X10_32 dX10_read_84 (q_ne kd_292 (by decide)) (q_e10 kd_292) rfl ?_
  refine q_put (v := (q_up σ 292 10 s0) 292 7) hx q_fl_X10_44 q_fp_10_11 dX10_read_87 (q_ne kd_292 (by decide)) (q_e10 kd_292) (by rw [q_l10]; decide) rfl rfl (by rw [q_e10 kd_292, q_s10_11]) ?_
  refine q_aload_n hx dX10_read_90 0 rfl ?_
  refine q_bipush (v := 11) hx dX10_read_91 (by decide) ?_
  refine q_put (v := 11) hx q_fl_X10_35 q_fp_10_8 dX10_read_93 (q_ne kd_292 (by decide)) (q_e10 kd_292) (by rw [q_l10]; decide) rfl rfl (by rw [q_e10 kd_292, q_s10_8]) ?_
  refine q_aload_n hx dX10_read_96 0 rfl ?_
  refine q_iload_n hx dX10_read_97 1 rfl ?_
  refine q_put (v := v1) hx q_fl_X10_38 q_fp_10_9 dX10_read_98 (q_ne kd_292 (by decide)) (q_e10 kd_292) (by rw [q_l10]; decide) rfl rfl (by rw [q_e10 kd_292, q_s10_9]) ?_
  refine q_aload_n hx dX10_read_101 0 rfl ?_
  refine q_iconst (v := 2) hx dX10_read_102 (by decide) ?_
  refine q_callVi (As := [.int 2]) (rest := []) hx q_kR0 (c_X10_no (q_Xl X) G x (q_up (q_up (q_up (q_up σ 292 10 s0) 292 11 ((q_up σ 292 10 s0) 292 7)) 292 8 11) 292 9 v1) 2) q_ml_X10_103 q_mn_X10_no q_mi_X10_no q_se_X10_no (by decide) rfl (Nat.le_of_ble_eq_true rfl) dX10_read_103 (q_ne kd_292 (by decide)) (q_e10 kd_292) rfl rfl rfl ?_
  cases h
  exact q_iret hx hr dX10_read_106
def f_X10_read_31 : Nat → Int32 → q_S → Option (Int32 × q_S)
  | 0, _, _ => none
  | n + 1, v1, σ =>
    if (σ 292 25) ≤ v1 then (Option.bind (f_X10_keeps σ (σ 292 25)) (fun q5 => some ((q5.1, q5.2)))) else (Option.bind (f_X10_cannot σ v1) (fun q6 => if q6.1 = 0 then (f_X10_read_31 n (v1 + 1) q6.2) else (Option.bind (f_X10_copies q6.2 294 220 0 293 220 0) (fun q8 => if (q8 292 27) = 0 then (f_X10_read_79 v1 (q8 292 6) q8) else (f_X10_read_79 v1 0 q8)))))
set_option maxHeartbeats 4000000 in
set_option maxRecDepth 100000 in
theorem s_X10_read_31 {X : q_X} {G : q_G} {x : q_A} (hx : q_Cx X G RX10 cX10_read 2 7) (hr : (q_Xm X).sig.returnType = some .int) {res : Int32 × q_S} : ∀ (n : Nat) (v1 : Int32) (σ : q_S), f_X10_read_31 n v1 σ = some res → q_Wq X G x 2 (q_MQ X G (q_Qi G x res.1 res.2)) 0 0 31 [(0, .ref (G.2.1 + 292)), (1, .int v1)] [] σ := by
  intro n
  induction n with
  | zero => exact fun _ _ h => nomatch (show (none : Option (Int32 × q_S)) = some res from h)
  | succ n ih =>
    intro v1 σ h
    rw [f_X10_read_31] at h
    refine q_iload_n hx dX10_read_31 1 rfl ?_
    refine q_aload_n hx dX10_read_32 0 rfl ?_
    refine q_get (v := .int (σ 292 25)) hx q_fl_X10_88 dX10_read_33 (q_ne kd_292 (by decide)) (q_e10 kd_292) rfl ?_
    refine q_icmp_ge hx 113 dX10_read_36 (by decide) (fun hc4 => ?_) (fun hc4 => ?_)
    · replace h := (if_pos hc4).symm.trans h
      refine q_aload_n hx dX10_read_113 0 rfl ?_
      refine q_aload_n hx dX10_read_114 0 rfl ?_
      refine q_get (v := .int (σ 292 25)) hx q_fl_X10_88 dX10_read_115 (q_ne kd_292 (by decide)) (q_e10 kd_292) rfl ?_
      refine q_bindE h (fun q5 hq5 h => ?_)
      refine q_callVi (As := [.int (σ 292 25)]) (rest := []) hx q_kR0 (c_X10_keeps (q_Xl X) G x σ (σ 292 25) hq5) q_ml_X10_140 q_mn_X10_keeps q_mi_X10_keeps q_se_X10_keeps (by decide) rfl (Nat.le_of_ble_eq_true rfl) dX10_read_118 (q_ne kd_292 (by decide)) (q_e10 kd_292) rfl rfl rfl ?_
      cases h
      exact q_iret hx hr dX10_read_121
    · replace h := (if_neg hc4).symm.trans h
      refine q_aload_n hx dX10_read_39 0 rfl ?_
      refine q_iload_n hx dX10_read_40 1 rfl ?_
      refine q_bindE h (fun q6 hq6 h => ?_)
      refine q_callVi (As := [.int v1]) (rest := []) hx q_kR0 (c_X10_cannot (q_Xl X) G x σ v1 hq6) q_ml_X10_330 q_mn_X10_cannot q_mi_X10_cannot q_se_X10_cannot (by decide) rfl (Nat.le_of_ble_eq_true rfl) dX10_read_41 (q_ne kd_292 (by decide)) (q_e10 kd_292) rfl rfl rfl ?_
      refine q_if_ne hx 50 dX10_read_44 (by decide) (fun hc7 => ?_) (fun hc7 => ?_)
      · replace h := (if_neg hc7).symm.trans h
        refine q_aload_n hx dX10_read_50 0 rfl ?_
        refine q_get (v := .ref (G.2.1 + 294)) hx q_fl_X10_13 dX10_read_51 (q_ne kd_292 (by decide)) (q_e10 kd_292) rfl ?_
        refine q_iconst (v := 0) hx dX10_read_54 (by decide) ?_
        refine q_aload_n hx dX10_read_55 0 rfl ?_
        refine q_get (v := .ref (G.2.1 + 293)) hx q_fl_X10_7 dX10_read_56 (q_ne kd_292 (by decide)) (q_e10 kd_292) rfl ?_
        refine q_iconst (v := 0) hx dX10_read_59 (by decide) ?_
        refine q_bindE h (fun q8 hq8 h => ?_)
        refine q_callSv (As := [.ref (G.2.1 + 294), .int 0, .ref (G.2.1 + 293), .int 0]) (rest := []) hx q_kR0 (c_X10_copies (q_Xl X) G x q6.2 294 220 0 293 220 0 kd_294 (by decide) kd_293 (by decide) hq8) q_ml_X10_107 q_mn_X10_copies q_ms_X10_copies (by decide) rfl (Nat.le_of_ble_eq_true rfl) dX10_read_60 rfl ?_
        refine q_aload_n hx dX10_read_63 0 rfl ?_
        refine q_aload_n hx dX10_read_64 0 rfl ?_
        refine q_get (v := .int (q8 292 27)) hx q_fl_X10_94 dX10_read_65 (q_ne kd_292 (by decide)) (q_e10 kd_292) rfl ?_
        refine q_if_eq hx 75 dX10_read_68 (by decide) (fun hc9 => ?_) (fun hc9 => ?_)
        · replace h := (if_pos hc9).symm.trans h
          refine q_aload_n hx dX10_read_75 0 rfl ?_
          refine q_get (v := .int (q8 292 6)) hx q_fl_X10_29 dX10_read_76 (q_ne kd_292 (by decide)) (q_e10 kd_292) rfl ?_
          refine q_sub [0, 1] rfl ?_
          exact s_X10_read_79 hx hr v1 (q8 292 6) q8 h
        · replace h := (if_neg hc9).symm.trans h
          refine q_iconst (v := 0) hx dX10_read_71 (by decide) ?_
          refine q_goto hx 79 dX10_read_72 (by decide) ?_
          refine q_sub [0, 1] rfl ?_
          exact s_X10_read_79 hx hr v1 0 q8 h
      · replace h := (if_pos hc7).symm.trans h
        refine q_goto hx 107 dX10_read_47 (by decide) ?_
        refine q_iinc hx [(1, .int (v1 + 1)), (0, .ref (G.2.1 + 292))] dX10_read_107 1 rfl rfl (by decide) rfl ?_
        refine q_goto hx 31 dX10_read_110 (by decide) ?_
        refine q_sub [1, 0] rfl ?_
        exact ih (v1 + 1) q6.2 h
def f_X10_read (σ : q_S) : Option (Int32 × q_S) :=
  Option.bind (f_X10_begins σ) (fun q1 => Option.bind (f_X10_reads q1) (fun q2 => if (q2 292 26) = 0 then (f_X10_read_31 q_fu 0 q2) else (some (((f_X10_no (q_up q2 292 12 (q2 292 24)) 1).1, (f_X10_no (q_up q2 292 12 (q2 292 24)) 1).2)))))
set_option maxHeartbeats 4000000 in
set_option maxRecDepth 100000 in
theorem c_X10_read (l : Launch) (G : q_G) (x : q_A) (σ : q_S)   {res : Int32 × q_S} (h : f_X10_read σ = some res) : q_Met l yX10_read cX10_read 2 (some .int) 7 G [.ref (G.2.1 + 292)] σ x (q_Qi G x res.1 res.2) := by
  refine q_of (by decide) (Nat.le_of_ble_eq_true rfl) (fun X hl0 hx hr => ?_)
  subst hl0
  have hx : q_Cx X G RX10 cX10_read 2 7 := hx
  unfold f_X10_read at h
  show q_Wq X G x 2 (q_MQ X G (q_Qi G x res.1 res.2)) 0 0 0 [(0, .ref (G.2.1 + 292))] [] σ
  refine q_aload_n hx dX10_read_0 0 rfl ?_
  refine q_bindE h (fun q1 hq1 h => ?_)
  refine q_callVv (As := []) (rest := []) hx q_kR0 (c_X10_begins (q_Xl X) G x σ  hq1) q_ml_X10_127 q_mn_X10_begins q_mi_X10_begins q_se_X10_begins (by decide) rfl (Nat.le_of_ble_eq_true rfl) dX10_read_1 (q_ne kd_292 (by decide)) (q_e10 kd_292) rfl rfl rfl ?_
  refine q_aload_n hx dX10_read_4 0 rfl ?_
  refine q_bindE h (fun q2 hq2 h => ?_)
  refine q_callVv (As := []) (rest := []) hx q_kR0 (c_X10_reads (q_Xl X) G x q1  hq2) q_ml_X10_327 q_mn_X10_reads q_mi_X10_reads q_se_X10_reads (by decide) rfl (Nat.le_of_ble_eq_true rfl) dX10_read_5 (q_ne kd_292 (by decide)) (q_e10 kd_292) rfl rfl rfl ?_
  refine q_aload_n hx dX10_read_8 0 rfl ?_
  refine q_get (v := .int (q2 292 26)) hx q_fl_X10_91 dX10_read_9 (q_ne kd_292 (by decide)) (q_e10 kd_292) rfl ?_
  refine q_if_eq hx 29 dX10_read_12 (by decide) (fun hc3 => ?_) (fun hc3 => ?_)
  · replace h := (if_pos hc3).symm.trans h
    refine q_iconst (v := 0) hx dX10_read_29 (by decide) ?_
    refine q_istore_n hx [(1, .int 0), (0, .ref (G.2.1 + 292))] dX10_read_30 (by decide) rfl ?_
    refine q_sub [1, 0] rfl ?_
    exact s_X10_read_31 hx hr q_fu 0 q2 h
  · replace h := (if_neg hc3).symm.trans h
    refine q_aload_n hx dX10_read_15 0 rfl ?_
    refine q_aload_n hx dX10_read_16 0 rfl ?_
    refine q_get (v := .int (q2 292 24)) hx q_fl_X10_85 dX10_read_17 (q_ne kd_292 (by decide)) (q_e10 kd_292) rfl ?_
    refine q_put (v := q2 292 24) hx q_fl_X10_47 q_fp_10_12 dX10_read_20 (q_ne kd_292 (by decide)) (q_e10 kd_292) (by rw [q_l10]; decide) rfl rfl (by rw [q_e10 kd_292, q_s10_12]) ?_
    refine q_aload_n hx dX10_read_23 0 rfl ?_
    refine q_iconst (v := 1) hx dX10_read_24 (by decide) ?_
    refine q_callVi (As := [.int 1]) (rest := []) hx q_kR0 (c_X10_no (q_Xl X) G x (q_up q2 292 12 (q2 292 24)) 1) q_ml_X10_103 q_mn_X10_no q_mi_X10_no q_se_X10_no (by decide) rfl (Nat.le_of_ble_eq_true rfl) dX10_read_25 (q_ne kd_292 (by decide)) (q_e10 kd_292) rfl rfl rfl ?_
    cases h
    exact q_iret hx hr dX10_read_28
-- X10_errorPosition
def f_X10_errorPosition_13 (s0 : Int32) (σ : q_S) : Int32 × q_S :=
  if ((q_up σ 292 4 s0) 292 4) ≤ 0 then (((q_up σ 292 4 s0) 292 12, q_up σ 292 4 s0)) else ((0, q_up σ 292 4 s0))
set_option maxHeartbeats 4000000 in
set_option maxRecDepth 100000 in
theorem s_X10_errorPosition_13 {X : q_X} {G : q_G} {x : q_A} (hx : q_Cx X G RX10 cX10_errorPosition 1 1) (hr : (q_Xm X).sig.returnType = some .int) {res : Int32 × q_S} : ∀ (s0 : Int32) (σ : q_S), f_X10_errorPosition_13 s0 σ = res → q_Wq X G x 1 (q_MQ X G (q_Qi G x res.1 res.2)) 0 0 13 [(0, .ref (G.2.1 + 292))] [.int s0, .ref (G.2.1 + 292)] σ := by
  intro s0 σ h
  unfold f_X10_errorPosition_13 at h
  refine q_put (v := s0) hx q_fl_X10_22 q_fp_10_4 dX10_errorPosition_13 (q_ne kd_292 (by decide)) (q_e10 kd_292) (by rw [q_l10]; decide) rfl rfl (by rw [q_e10 kd_292, q_s10_4]) ?_
  refine q_aload_n hx dX10_errorPosition_16 0 rfl ?_
  refine q_get (v := .int ((q_up σ 292 4 s0) 292 4)) hx q_fl_X10_22 dX10_errorPosition_17 (q_ne kd_292 (by decide)) (q_e10 kd_292) rfl ?_
  refine q_if_le hx 27 dX10_errorPosition_20 (by decide) (fun hc2 => ?_) (fun hc2 => ?_)
  · replace h := (if_pos hc2).symm.trans h
    refine q_aload_n hx dX10_errorPosition_27 0 rfl ?_
    refine q_get (v := .int ((q_up σ 292 4 s0) 292 12)) hx q_fl_X10_47 dX10_errorPosition_28 (q_ne kd_292 (by decide)) (q_e10 kd_292) rfl ?_
    subst h
    exact q_iret hx hr dX10_errorPosition_31
  · replace h := (if_neg hc2).symm.trans h
    refine q_iconst (v := 0) hx dX10_errorPosition_23 (by decide) ?_
    refine q_goto hx 31 dX10_errorPosition_24 (by decide) ?_
    subst h
    exact q_iret hx hr dX10_errorPosition_31
def f_X10_errorPosition (σ : q_S) : Int32 × q_S :=
  if 0 ≤ (σ 292 12) then (f_X10_errorPosition_13 0 σ) else (f_X10_errorPosition_13 1 σ)
set_option maxHeartbeats 4000000 in
set_option maxRecDepth 100000 in
theorem ca_X10_errorPosition (l : Launch) (G : q_G) (x : q_A) (σ : q_S)   {res : Int32 × q_S} (h : f_X10_errorPosition σ = res) : q_Met l yX10_errorPosition cX10_errorPosition 1 (some .int) 1 G [.ref (G.2.1 + 292)] σ x (q_Qi G x res.1 res.2) := by
  refine q_of (by decide) (Nat.le_of_ble_eq_true rfl) (fun X hl0 hx hr => ?_)
  subst hl0
  have hx : q_Cx X G RX10 cX10_errorPosition 1 1 := hx
  unfold f_X10_errorPosition at h
  show q_Wq X G x 1 (q_MQ X G (q_Qi G x res.1 res.2)) 0 0 0 [(0, .ref (G.2.1 + 292))] [] σ
  refine q_aload_n hx dX10_errorPosition_0 0 rfl ?_
  refine q_aload_n hx dX10_errorPosition_1 0 rfl ?_
  refine q_get (v := .int (σ 292 12)) hx q_fl_X10_47 dX10_errorPosition_2 (q_ne kd_292 (by decide)) (q_e10 kd_292) rfl ?_
  refine q_if_ge hx 12 dX10_errorPosition_5 (by decide) (fun hc1 => ?_) (fun hc1 => ?_)
  · replace h := (if_pos hc1).symm.trans h
    refine q_iconst (v := 0) hx dX10_errorPosition_12 (by decide) ?_
    refine q_sub [0] rfl ?_
    exact s_X10_errorPosition_13 hx hr 0 σ h
  · replace h := (if_neg hc1).symm.trans h
    refine q_iconst (v := 1) hx dX10_errorPosition_8 (by decide) ?_
    refine q_goto hx 13 dX10_errorPosition_9 (by decide) ?_
    refine q_sub [0] rfl ?_
    exact s_X10_errorPosition_13 hx hr 1 σ h
theorem c_X10_errorPosition (l : Launch) (G : q_G) (x : q_A) (σ : q_S)   : q_Met l yX10_errorPosition cX10_errorPosition 1 (some .int) 1 G [.ref (G.2.1 + 292)] σ x (q_Qi G x (f_X10_errorPosition σ).1 (f_X10_errorPosition σ).2) := ca_X10_errorPosition l G x σ  rfl
-- X10_refusal
def f_X10_refusal_20 (v1 : Int32) (v2 : Int32) (s0 : Int32) (σ : q_S) : Int32 × q_S :=
  if s0 = 0 then (((f_X10_no σ 1).1, (f_X10_no σ 1).2)) else (if v2 = 0 then ((s0, σ)) else (if v1 = 0 then ((σ 292 9, σ)) else ((σ 292 11, σ))))
set_option maxHeartbeats 4000000 in
set_option maxRecDepth 100000 in
theorem s_X10_refusal_20 {X : q_X} {G : q_G} {x : q_A} (hx : q_Cx X G RX10 cX10_refusal 4 2) (hr : (q_Xm X).sig.returnType = some .int) {res : Int32 × q_S} : ∀ (v1 : Int32) (v2 : Int32) (s0 : Int32) (σ : q_S), f_X10_refusal_20 v1 v2 s0 σ = res → q_Wq X G x 4 (q_MQ X G (q_Qi G x res.1 res.2)) 0 0 20 [(0, .ref (G.2.1 + 292)), (1, .int v1), (2, .int v2)] [.int s0] σ := by
  intro v1 v2 s0 σ h
  unfold f_X10_refusal_20 at h
  refine q_istore_n hx [(3, .int s0), (0, .ref (G.2.1 + 292)), (1, .int v1), (2, .int v2)] dX10_refusal_20 (by decide) rfl ?_
  refine q_iload_n hx dX10_refusal_21 0 rfl ?_
  refine q_if_ne hx 31 dX10_refusal_22 (by decide) (fun hc2 => ?_) (fun hc2 => ?_)
  · replace h := (if_neg hc2).symm.trans h
    refine q_iload_n hx dX10_refusal_31 3 rfl ?_
    refine q_if_ne hx 39 dX10_refusal_32 (by decide) (fun hc3 => ?_) (fun hc3 => ?_)
    · replace h := (if_neg hc3).symm.trans h
      refine q_iload_n hx dX10_refusal_39 2 rfl ?_
      refine q_if_eq hx 50 dX10_refusal_40 (by decide) (fun hc4 => ?_) (fun hc4 => ?_)
      · replace h := (if_pos hc4).symm.trans h
        refine q_aload_n hx dX10_refusal_50 1 rfl ?_
        refine q_get (v := .int (σ 292 9)) hx q_fl_X10_38 dX10_refusal_51 (q_ne kd_292 (by decide)) (q_e10 kd_292) rfl ?_
        subst h
        exact q_iret hx hr dX10_refusal_54
      · replace h := (if_neg hc4).symm.trans h
        refine q_aload_n hx dX10_refusal_43 1 rfl ?_
        refine q_get (v := .int (σ 292 11)) hx q_fl_X10_44 dX10_refusal_44 (q_ne kd_292 (by decide)) (q_e10 kd_292) rfl ?_
        refine q_goto hx 54 dX10_refusal_47 (by decide) ?_
        subst h
        exact q_iret hx hr dX10_refusal_54
    · replace h := (if_pos hc3).symm.trans h
      refine q_iload_n hx dX10_refusal_35 0 rfl ?_
      refine q_goto hx 54 dX10_refusal_36 (by decide) ?_
      subst h
      exact q_iret hx hr dX10_refusal_54
  · replace h := (if_pos hc2).symm.trans h
    refine q_aload_n hx dX10_refusal_25 1 rfl ?_
    refine q_iconst (v := 1) hx dX10_refusal_26 (by decide) ?_
    refine q_callVi (As := [.int 1]) (rest := []) hx q_kR0 (c_X10_no (q_Xl X) G x σ 1) q_ml_X10_103 q_mn_X10_no q_mi_X10_no q_se_X10_no (by decide) rfl (Nat.le_of_ble_eq_true rfl) dX10_refusal_27 (q_ne kd_292 (by decide)) (q_e10 kd_292) rfl rfl rfl ?_
    subst h
    exact q_iret hx hr dX10_refusal_30
def f_X10_refusal (σ : q_S) (a1 : Int32) (a2 : Int32) : Int32 × q_S :=
  if a1 = 0 then (f_X10_refusal_20 a1 a2 ((q_up σ 292 4 0) 292 8) (q_up σ 292 4 0)) else (f_X10_refusal_20 a1 a2 ((q_up σ 292 4 0) 292 10) (q_up σ 292 4 0))
set_option maxHeartbeats 4000000 in
set_option maxRecDepth 100000 in
theorem ca_X10_refusal (l : Launch) (G : q_G) (x : q_A) (σ : q_S) (a1 : Int32) (a2 : Int32)  {res : Int32 × q_S} (h : f_X10_refusal σ a1 a2 = res) : q_Met l yX10_refusal cX10_refusal 4 (some .int) 2 G [.ref (G.2.1 + 292), .int a1, .int a2] σ x (q_Qi G x res.1 res.2) := by
  refine q_of (by decide) (Nat.le_of_ble_eq_true rfl) (fun X hl0 hx hr => ?_)
  subst hl0
  have hx : q_Cx X G RX10 cX10_refusal 4 2 := hx
  unfold f_X10_refusal at h
  show q_Wq X G x 4 (q_MQ X G (q_Qi G x res.1 res.2)) 0 0 0 [(0, .ref (G.2.1 + 292)), (1, .int a1), (2, .int a2)] [] σ
  refine q_aload_n hx dX10_refusal_0 0 rfl ?_
  refine q_iconst (v := 0) hx dX10_refusal_1 (by decide) ?_
  refine q_put (v := 0) hx q_fl_X10_22 q_fp_10_4 dX10_refusal_2 (q_ne kd_292 (by decide)) (q_e10 kd_292) (by rw [q_l10]; decide) rfl rfl (by rw [q_e10 kd_292, q_s10_4]) ?_
  refine q_iload_n hx dX10_refusal_5 1 rfl ?_
  refine q_if_eq hx 16 dX10_refusal_6 (by decide) (fun hc1 => ?_) (fun hc1 => ?_)
  · replace h := (if_pos hc1).symm.trans h
    refine q_aload_n hx dX10_refusal_16 0 rfl ?_
    refine q_get (v := .int ((q_up σ 292 4 0) 292 8)) hx q_fl_X10_35 dX10_refusal_17 (q_ne kd_292 (by decide)) (q_e10 kd_292) rfl ?_
    refine q_sub [0, 1, 2] rfl ?_
    exact s_X10_refusal_20 hx hr a1 a2 ((q_up σ 292 4 0) 292 8) (q_up σ 292 4 0) h
  · replace h := (if_neg hc1).symm.trans h
    refine q_aload_n hx dX10_refusal_9 0 rfl ?_
    refine q_get (v := .int ((q_up σ 292 4 0) 292 10)) hx q_fl_X10_41 dX10_refusal_10 (q_ne kd_292 (by decide)) (q_e10 kd_292) rfl ?_
    refine q_goto hx 20 dX10_refusal_13 (by decide) ?_
    refine q_sub [0, 1, 2] rfl ?_
    exact s_X10_refusal_20 hx hr a1 a2 ((q_up σ 292 4 0) 292 10) (q_up σ 292 4 0) h
theorem c_X10_refusal (l : Launch) (G : q_G) (x : q_A) (σ : q_S) (a1 : Int32) (a2 : Int32)  : q_Met l yX10_refusal cX10_refusal 4 (some .int) 2 G [.ref (G.2.1 + 292), .int a1, .int a2] σ x (q_Qi G x (f_X10_refusal σ a1 a2).1 (f_X10_refusal σ a1 a2).2) := ca_X10_refusal l G x σ a1 a2 rfl
-- X10_writes
def f_X10_writes (σ : q_S) (a1 : Int32) : Option (q_S) :=
  if ((σ 292 29) < 0 ∨ 60 ≤ (σ 292 29).toNatClampNeg) then none else some (q_up (q_up σ 302 (σ 292 29).toNatClampNeg a1) 292 29 (((q_up σ 302 (σ 292 29).toNatClampNeg a1) 292 29) + 1))
set_option maxHeartbeats 4000000 in
set_option maxRecDepth 100000 in
theorem c_X10_writes (l : Launch) (G : q_G) (x : q_A) (σ : q_S) (a1 : Int32)  {res : q_S} (h : f_X10_writes σ a1 = some res) : q_Met l yX10_writes cX10_writes 2 (none) 1 G [.ref (G.2.1 + 292), .int a1] σ x (q_Qv G x res) := by
  refine q_of (by decide) (Nat.le_of_ble_eq_true rfl) (fun X hl0 hx hr => ?_)
  subst hl0
  have hx : q_Cx X G RX10 cX10_writes 2 1 := hx
  unfold f_X10_writes at h
  show q_Wq X G x 2 (q_MQ X G (q_Qv G x res)) 0 0 0 [(0, .ref (G.2.1 + 292)), (1, .int a1)] [] σ
  refine q_aload_n hx dX10_writes_0 0 rfl ?_
  refine q_get (v := .ref (G.2.1 + 302)) hx q_fl_X10_97 dX10_writes_1 (q_ne kd_292 (by decide)) (q_e10 kd_292) rfl ?_
  refine q_aload_n hx dX10_writes_4 0 rfl ?_
  refine q_get (v := .int (σ 292 29)) hx q_fl_X10_100 dX10_writes_5 (q_ne kd_292 (by decide)) (q_e10 kd_292) rfl ?_
  refine q_iload_n hx dX10_writes_8 1 rfl ?_
  by_cases hg1 : ((σ 292 29) < 0 ∨ 60 ≤ (σ 292 29).toNatClampNeg)
  · rw [if_pos hg1] at h; exact nomatch h
  replace h := (if_neg hg1).symm.trans h
  refine q_iast (N := 60) hx dX10_writes_9 kd_302 (by first | decide | assumption) hg1 ?_
  refine q_aload_n hx dX10_writes_10 0 rfl ?_
  refine q_dup hx dX10_writes_11 rfl ?_
  refine q_get (v := .int ((q_up σ 302 (σ 292 29).toNatClampNeg a1) 292 29)) hx q_fl_X10_100 dX10_writes_12 (q_ne kd_292 (by decide)) (q_e10 kd_292) rfl ?_
  refine q_iconst (v := 1) hx dX10_writes_15 (by decide) ?_
  refine q_iadd hx dX10_writes_16 ?_
  refine q_put (v := ((q_up σ 302 (σ 292 29).toNatClampNeg a1) 292 29) + 1) hx q_fl_X10_100 q_fp_10_29 dX10_writes_17 (q_ne kd_292 (by decide)) (q_e10 kd_292) (by rw [q_l10]; decide) rfl rfl (by rw [q_e10 kd_292, q_s10_29]) ?_
  cases h
  exact q_vret hx hr dX10_writes_20
-- X10_writesNumber
def f_X10_writesNumber_17 (v1 : Int32) (σ : q_S) : Option (q_S) :=
  Option.bind (f_X10_writes σ (48 + (v1 - v1 / 10 * 10))) (fun q2 => some q2)
set_option maxHeartbeats 4000000 in
set_option maxRecDepth 100000 in
theorem s_X10_writesNumber_17 {X : q_X} {G : q_G} {x : q_A} (hx : q_Cx X G RX10 cX10_writesNumber 2 2) (hr : (q_Xm X).sig.returnType = none) {res : q_S} : ∀ (v1 : Int32) (σ : q_S), f_X10_writesNumber_17 v1 σ = some res → q_Wq X G x 2 (q_MQ X G (q_Qv G x res)) 0 0 17 [(0, .ref (G.2.1 + 292)), (1, .int v1)] [] σ := by
  intro v1 σ h
  unfold f_X10_writesNumber_17 at h
  refine q_aload_n hx dX10_writesNumber_17 0 rfl ?_
  refine q_bipush (v := 48) hx dX10_writesNumber_18 (by decide) ?_
  refine q_iload_n hx dX10_writesNumber_20 1 rfl ?_
  refine q_bipush (v := 10) hx dX10_writesNumber_21 (by decide) ?_
  refine q_irem hx dX10_writesNumber_23 (by decide) ?_
  refine q_iadd hx dX10_writesNumber_24 ?_
  refine q_bindE h (fun q2 hq2 h => ?_)
  refine q_callVv (As := [.int (48 + (v1 - v1 / 10 * 10))]) (rest := []) hx q_kR0 (c_X10_writes (q_Xl X) G x σ (48 + (v1 - v1 / 10 * 10)) hq2) q_ml_X10_333 q_mn_X10_writes q_mi_X10_writes q_se_X10_writes (by decide) rfl (Nat.le_of_ble_eq_true rfl) dX10_writesNumber_25 (q_ne kd_292 (by decide)) (q_e10 kd_292) rfl rfl rfl ?_
  cases h
  exact q_vret hx hr dX10_writesNumber_28
def f_X10_writesNumber (σ : q_S) (a1 : Int32) : Option (q_S) :=
  if a1 ≤ 9 then (f_X10_writesNumber_17 a1 σ) else (Option.bind (f_X10_writes σ (48 + (a1 / 10))) (fun q3 => f_X10_writesNumber_17 a1 q3))
set_option maxHeartbeats 4000000 in
set_option maxRecDepth 100000 in
theorem c_X10_writesNumber (l : Launch) (G : q_G) (x : q_A) (σ : q_S) (a1 : Int32)  {res : q_S} (h : f_X10_writesNumber σ a1 = some res) : q_Met l yX10_writesNumber cX10_writesNumber 2 (none) 2 G [.ref (G.2.1 + 292), .int a1] σ x (q_Qv G x res) := by
  refine q_of (by decide) (Nat.le_of_ble_eq_true rfl) (fun X hl0 hx hr => ?_)
  subst hl0
  have hx : q_Cx X G RX10 cX10_writesNumber 2 2 := hx
  unfold f_X10_writesNumber at h
  show q_Wq X G x 2 (q_MQ X G (q_Qv G x res)) 0 0 0 [(0, .ref (G.2.1 + 292)), (1, .int a1)] [] σ
  refine q_iload_n hx dX10_writesNumber_0 1 rfl ?_
  refine q_bipush (v := 9) hx dX10_writesNumber_1 (by decide) ?_
  refine q_icmp_le hx 17 dX10_writesNumber_3 (by decide) (fun hc1 => ?_) (fun hc1 => ?_)
  · replace h := (if_pos hc1).symm.trans h
    refine q_sub [0, 1] rfl ?_
    exact s_X10_writesNumber_17 hx hr a1 σ h
  · replace h := (if_neg hc1).symm.trans h
    refine q_aload_n hx dX10_writesNumber_6 0 rfl ?_
    refine q_bipush (v := 48) hx dX10_writesNumber_7 (by decide) ?_
    refine q_iload_n hx dX10_writesNumber_9 1 rfl ?_
    refine q_bipush (v := 10) hx dX10_writesNumber_10 (by decide) ?_
    refine q_idiv hx dX10_writesNumber_12 (by decide) ?_
    refine q_iadd hx dX10_writesNumber_13 ?_
    refine q_bindE h (fun q3 hq3 h => ?_)
    refine q_callVv (As := [.int (48 + (a1 / 10))]) (rest := []) hx q_kR0 (c_X10_writes (q_Xl X) G x σ (48 + (a1 / 10)) hq3) q_ml_X10_333 q_mn_X10_writes q_mi_X10_writes q_se_X10_writes (by decide) rfl (Nat.le_of_ble_eq_true rfl) dX10_writesNumber_14 (q_ne kd_292 (by decide)) (q_e10 kd_292) rfl rfl rfl ?_
    refine q_sub [0, 1] rfl ?_
    exact s_X10_writesNumber_17 hx hr a1 q3 h
-- X10_show
def f_X10_show_35 : Nat → Int32 → Int32 → q_S → Option (Int32 × q_S)
  | 0, _, _, _ => none
  | n + 1, v1, v2, σ =>
    if 12 ≤ v2 then (some ((σ 292 29, σ))) else (Option.bind (f_X10_ownerAt σ v2 v1) (fun q4 => if 0 ≤ q4 then (Option.bind (f_X10_ownerAt σ v2 v1) (fun q6 => Option.bind (f_X10_writes σ (48 + q6)) (fun q7 => f_X10_show_35 n v1 (v2 + 1) q7))) else (Option.bind (f_X10_writes σ 46) (fun q8 => f_X10_show_35 n v1 (v2 + 1) q8))))
set_option maxHeartbeats 4000000 in
set_option maxRecDepth 100000 in
theorem s_X10_show_35 {X : q_X} {G : q_G} {x : q_A} (hx : q_Cx X G RX10 cX10_show 3 6) (hr : (q_Xm X).sig.returnType = some .int) {res : Int32 × q_S} : ∀ (n : Nat) (v1 : Int32) (v2 : Int32) (σ : q_S), f_X10_show_35 n v1 v2 σ = some res → q_Wq X G x 3 (q_MQ X G (q_Qi G x res.1 res.2)) 0 0 35 [(0, .ref (G.2.1 + 292)), (1, .int v1), (2, .int v2)] [] σ := by
  intro n
  induction n with
  | zero => exact fun _ _ _ h => nomatch (show (none : Option (Int32 × q_S)) = some res from h)
  | succ n ih =>
    intro v1 v2 σ h
    rw [f_X10_show_35] at h
    refine q_iload_n hx dX10_show_35 2 rfl ?_
    refine q_bipush (v := 12) hx dX10_show_36 (by decide) ?_
    refine q_icmp_ge hx 74 dX10_show_38 (by decide) (fun hc3 => ?_) (fun hc3 => ?_)
    · replace h := (if_pos hc3).symm.trans h
      refine q_aload_n hx dX10_show_74 0 rfl ?_
      refine q_get (v := .int (σ 292 29)) hx q_fl_X10_100 dX10_show_75 (q_ne kd_292 (by decide)) (q_e10 kd_292) rfl ?_
      cases h
      exact q_iret hx hr dX10_show_78
    · replace h := (if_neg hc3).symm.trans h
      refine q_aload_n hx dX10_show_41 0 rfl ?_
      refine q_aload_n hx dX10_show_42 0 rfl ?_
      refine q_iload_n hx dX10_show_43 2 rfl ?_
      refine q_iload_n hx dX10_show_44 1 rfl ?_
      refine q_bindE h (fun q4 hq4 h => ?_)
      refine q_callVi (As := [.int v2, .int v1]) (rest := [.ref (G.2.1 + 292)]) hx q_kR0 (c_X10_ownerAt (q_Xl X) G x σ v2 v1 hq4) q_ml_X10_267 q_mn_X10_ownerAt q_mi_X10_ownerAt q_se_X10_ownerAt (by decide) rfl (Nat.le_of_ble_eq_true rfl) dX10_show_45 (q_ne kd_292 (by decide)) (q_e10 kd_292) rfl rfl rfl ?_
      refine q_if_ge hx 56 dX10_show_48 (by decide) (fun hc5 => ?_) (fun hc5 => ?_)
      · replace h := (if_pos hc5).symm.trans h
        refine q_bipush (v := 48) hx dX10_show_56 (by decide) ?_
        refine q_aload_n hx dX10_show_58 0 rfl ?_
        refine q_iload_n hx dX10_show_59 2 rfl ?_
        refine q_iload_n hx dX10_show_60 1 rfl ?_
        refine q_bindE h (fun q6 hq6 h => ?_)
        refine q_callVi (As := [.int v2, .int v1]) (rest := [.int 48, .ref (G.2.1 + 292)]) hx q_kR0 (c_X10_ownerAt (q_Xl X) G x σ v2 v1 hq6) q_ml_X10_267 q_mn_X10_ownerAt q_mi_X10_ownerAt q_se_X10_ownerAt (by decide) rfl (Nat.le_of_ble_eq_true rfl) dX10_show_61 (q_ne kd_292 (by decide)) (q_e10 kd_292) rfl rfl rfl ?_
        refine q_iadd hx dX10_show_64 ?_
        refine q_bindE h (fun q7 hq7 h => ?_)
        refine q_callVv (As := [.int (48 + q6)]) (rest := []) hx q_kR0 (c_X10_writes (q_Xl X) G x σ (48 + q6) hq7) q_ml_X10_333 q_mn_X10_writes q_mi_X10_writes q_se_X10_writes (by decide) rfl (Nat.le_of_ble_eq_true rfl) dX10_show_65 (q_ne kd_292 (by decide)) (q_e10 kd_292) rfl rfl rfl ?_
        refine q_iinc hx [(2, .int (v2 + 1)), (0, .ref (G.2.1 + 292)), (1, .int v1)] dX10_show_68 2 rfl rfl (by decide) rfl ?_
        refine q_goto hx 35 dX10_show_71 (by decide) ?_
        refine q_sub [1, 2, 0] rfl ?_
        exact ih v1 (v2 + 1) q7 h
      · replace h := (if_neg hc5).symm.trans h
        refine q_bipush (v := 46) hx dX10_show_51 (by decide) ?_
        refine q_goto hx 65 dX10_show_53 (by decide) ?_
        refine q_bindE h (fun q8 hq8 h => ?_)
        refine q_callVv (As := [.int 46]) (rest := []) hx q_kR0 (c_X10_writes (q_Xl X) G x σ 46 hq8) q_ml_X10_333 q_mn_X10_writes q_mi_X10_writes q_se_X10_writes (by decide) rfl (Nat.le_of_ble_eq_true rfl) dX10_show_65 (q_ne kd_292 (by decide)) (q_e10 kd_292) rfl rfl rfl ?_
        refine q_iinc hx [(2, .int (v2 + 1)), (0, .ref (G.2.1 + 292)), (1, .int v1)] dX10_show_68 2 rfl rfl (by decide) rfl ?_
        refine q_goto hx 35 dX10_show_71 (by decide) ?_
        refine q_sub [1, 2, 0] rfl ?_
        exact ih v1 (v2 + 1) q8 h
def f_X10_show_16 (v1 : Int32) (s0 : Int32) (σ : q_S) : Option (Int32 × q_S) :=
  if ((q_up σ 292 4 s0) 292 4) ≤ 0 then (f_X10_show_35 q_fu v1 0 (q_up (q_up σ 292 4 s0) 292 29 0)) else (some ((0, q_up σ 292 4 s0)))
set_option maxHeartbeats 4000000 in
set_option maxRecDepth 100000 in
theorem s_X10_show_16 {X : q_X} {G : q_G} {x : q_A} (hx : q_Cx X G RX10 cX10_show 3 6) (hr : (q_Xm X).sig.returnType = some .int) {res : Int32 × q_S} : ∀ (v1 : Int32) (s0 : Int32) (σ : q_S), f_X10_show_16 v1 s0 σ = some res → q_Wq X G x 3 (q_MQ X G (q_Qi G x res.1 res.2)) 0 0 16 [(0, .ref (G.2.1 + 292)), (1, .int v1)] [.int s0, .ref (G.2.1 + 292)] σ := by
  intro v1 s0 σ h
  unfold f_X10_show_16 at h
  refine q_put (v := s0) hx q_fl_X10_22 q_fp_10_4 dX10_show_16 (q_ne kd_292 (by decide)) (q_e10 kd_292) (by rw [q_l10]; decide) rfl rfl (by rw [q_e10 kd_292, q_s10_4]) ?_
  refine q_aload_n hx dX10_show_19 0 rfl ?_
  refine q_get (v := .int ((q_up σ 292 4 s0) 292 4)) hx q_fl_X10_22 dX10_show_20 (q_ne kd_292 (by decide)) (q_e10 kd_292) rfl ?_
  refine q_if_le hx 28 dX10_show_23 (by decide) (fun hc2 => ?_) (fun hc2 => ?_)
  · replace h := (if_pos hc2).symm.trans h
    refine q_aload_n hx dX10_show_28 0 rfl ?_
    refine q_iconst (v := 0) hx dX10_show_29 (by decide) ?_
    refine q_put (v := 0) hx q_fl_X10_100 q_fp_10_29 dX10_show_30 (q_ne kd_292 (by decide)) (q_e10 kd_292) (by rw [q_l10]; decide) rfl rfl (by rw [q_e10 kd_292, q_s10_29]) ?_
    refine q_iconst (v := 0) hx dX10_show_33 (by decide) ?_
    refine q_istore_n hx [(2, .int 0), (0, .ref (G.2.1 + 292)), (1, .int v1)] dX10_show_34 (by decide) rfl ?_
    refine q_sub [1, 2, 0] rfl ?_
    exact s_X10_show_35 hx hr q_fu v1 0 (q_up (q_up σ 292 4 s0) 292 29 0) h
  · replace h := (if_neg hc2).symm.trans h
    refine q_iconst (v := 0) hx dX10_show_26 (by decide) ?_
    cases h
    exact q_iret hx hr dX10_show_27
def f_X10_show (σ : q_S) (a1 : Int32) : Option (Int32 × q_S) :=
  if ((f_X10_in a1 0 7)) = 0 then (f_X10_show_16 a1 1 σ) else (f_X10_show_16 a1 0 σ)
set_option maxHeartbeats 4000000 in
set_option maxRecDepth 100000 in
theorem c_X10_show (l : Launch) (G : q_G) (x : q_A) (σ : q_S) (a1 : Int32)  {res : Int32 × q_S} (h : f_X10_show σ a1 = some res) : q_Met l yX10_show cX10_show 3 (some .int) 6 G [.ref (G.2.1 + 292), .int a1] σ x (q_Qi G x res.1 res.2) := by
  refine q_of (by decide) (Nat.le_of_ble_eq_true rfl) (fun X hl0 hx hr => ?_)
  subst hl0
  have hx : q_Cx X G RX10 cX10_show 3 6 := hx
  unfold f_X10_show at h
  show q_Wq X G x 3 (q_MQ X G (q_Qi G x res.1 res.2)) 0 0 0 [(0, .ref (G.2.1 + 292)), (1, .int a1)] [] σ
  refine q_aload_n hx dX10_show_0 0 rfl ?_
  refine q_iload_n hx dX10_show_1 1 rfl ?_
  refine q_iconst (v := 0) hx dX10_show_2 (by decide) ?_
  refine q_bipush (v := 7) hx dX10_show_3 (by decide) ?_
  refine q_callSi (As := [.int a1, .int 0, .int 7]) (rest := [.ref (G.2.1 + 292)]) hx q_kR0 (c_X10_in (q_Xl X) G x σ a1 0 7) q_ml_X10_115 q_mn_X10_in q_ms_X10_in (by decide) rfl (Nat.le_of_ble_eq_true rfl) dX10_show_5 rfl ?_
  refine q_if_eq hx 15 dX10_show_8 (by decide) (fun hc1 => ?_) (fun hc1 => ?_)
  · replace h := (if_pos hc1).symm.trans h
    refine q_iconst (v := 1) hx dX10_show_15 (by decide) ?_
    refine q_sub [0, 1] rfl ?_
    exact s_X10_show_16 hx hr a1 1 σ h
  · replace h := (if_neg hc1).symm.trans h
    refine q_iconst (v := 0) hx dX10_show_11 (by decide) ?_
    refine q_goto hx 16 dX10_show_12 (by decide) ?_
    refine q_sub [0, 1] rfl ?_
    exact s_X10_show_16 hx hr a1 0 σ h
-- X10_letterOf
def f_X10_letterOf (a0 : Int32) : Int32 :=
  if a0 = 0 then (110) else (if a0 = 1 then (101) else (if a0 = 2 then (115) else (119)))
set_option maxHeartbeats 4000000 in
set_option maxRecDepth 100000 in
theorem ca_X10_letterOf (l : Launch) (G : q_G) (x : q_A) (σ : q_S) (a0 : Int32)  {res : Int32} (h : f_X10_letterOf a0 = res) : q_Met l yX10_letterOf cX10_letterOf 1 (some .int) 1 G [.int a0] σ x (q_Qi G x res σ) := by
  refine q_of (by decide) (Nat.le_of_ble_eq_true rfl) (fun X hl0 hx hr => ?_)
  subst hl0
  have hx : q_Cx X G RX10 cX10_letterOf 1 1 := hx
  unfold f_X10_letterOf at h
  show q_Wq X G x 1 (q_MQ X G (q_Qi G x res σ)) 0 0 0 [(0, .int a0)] [] σ
  refine q_iload_n hx dX10_letterOf_0 0 rfl ?_
  refine q_if_ne hx 9 dX10_letterOf_1 (by decide) (fun hc1 => ?_) (fun hc1 => ?_)
  · replace h := (if_neg hc1).symm.trans h
    refine q_iload_n hx dX10_letterOf_9 0 rfl ?_
    refine q_iconst (v := 1) hx dX10_letterOf_10 (by decide) ?_
    refine q_icmp_ne hx 19 dX10_letterOf_11 (by decide) (fun hc2 => ?_) (fun hc2 => ?_)
    · replace h := (if_neg hc2).symm.trans h
      refine q_iload_n hx dX10_letterOf_19 0 rfl ?_
      refine q_iconst (v := 2) hx dX10_letterOf_20 (by decide) ?_
      refine q_icmp_ne hx 29 dX10_letterOf_21 (by decide) (fun hc3 => ?_) (fun hc3 => ?_)
      · replace h := (if_neg hc3).symm.trans h
        refine q_bipush (v := 119) hx dX10_letterOf_29 (by decide) ?_
        subst h
        exact q_iret hx hr dX10_letterOf_31
      · replace h := (if_pos hc3).symm.trans h
        refine q_bipush (v := 115) hx dX10_letterOf_24 (by decide) ?_
        refine q_goto hx 31 dX10_letterOf_26 (by decide) ?_
        subst h
        exact q_iret hx hr dX10_letterOf_31
    · replace h := (if_pos hc2).symm.trans h
      refine q_bipush (v := 101) hx dX10_letterOf_14 (by decide) ?_
      refine q_goto hx 31 dX10_letterOf_16 (by decide) ?_
      subst h
      exact q_iret hx hr dX10_letterOf_31
  · replace h := (if_pos hc1).symm.trans h
    refine q_bipush (v := 110) hx dX10_letterOf_4 (by decide) ?_
    refine q_goto hx 31 dX10_letterOf_6 (by decide) ?_
    subst h
    exact q_iret hx hr dX10_letterOf_31
theorem c_X10_letterOf (l : Launch) (G : q_G) (x : q_A) (σ : q_S) (a0 : Int32)  : q_Met l yX10_letterOf cX10_letterOf 1 (some .int) 1 G [.int a0] σ x (q_Qi G x (f_X10_letterOf a0) σ) := ca_X10_letterOf l G x σ a0 rfl
-- X10_tell
def f_X10_tell_82 : Nat → Int32 → Int32 → q_S → Option (Int32 × q_S)
  | 0, _, _, _ => none
  | n + 1, v1, v2, σ =>
    Option.bind (f_X10_sv σ v1 4) (fun q13 => if q13 ≤ v2 then (Option.bind (f_X10_sv σ v1 1) (fun q15 => if q15 = 2 then (Option.bind (f_X10_writes σ 33) (fun q17 => some ((q17 292 29, q17)))) else (some ((σ 292 29, σ))))) else (Option.bind (f_X10_way σ v1 v2) (fun q18 => Option.bind (f_X10_writes σ ((f_X10_letterOf q18))) (fun q19 => Option.bind (f_X10_length q19 v1 v2) (fun q20 => Option.bind (f_X10_writesNumber q19 q20) (fun q21 => f_X10_tell_82 n v1 (v2 + 1) q21))))))
set_option maxHeartbeats 4000000 in
set_option maxRecDepth 100000 in
theorem s_X10_tell_82 {X : q_X} {G : q_G} {x : q_A} (hx : q_Cx X G RX10 cX10_tell 3 3) (hr : (q_Xm X).sig.returnType = some .int) {res : Int32 × q_S} : ∀ (n : Nat) (v1 : Int32) (v2 : Int32) (σ : q_S), f_X10_tell_82 n v1 v2 σ = some res → q_Wq X G x 3 (q_MQ X G (q_Qi G x res.1 res.2)) 0 0 82 [(0, .ref (G.2.1 + 292)), (1, .int v1), (2, .int v2)] [] σ := by
  intro n
  induction n with
  | zero => exact fun _ _ _ h => nomatch (show (none : Option (Int32 × q_S)) = some res from h)
  | succ n ih =>
    intro v1 v2 σ h
    rw [f_X10_tell_82] at h
    refine q_iload_n hx dX10_tell_82 2 rfl ?_
    refine q_aload_n hx dX10_tell_83 0 rfl ?_
    refine q_iload_n hx dX10_tell_84 1 rfl ?_
    refine q_iconst (v := 4) hx dX10_tell_85 (by decide) ?_
    refine q_bindE h (fun q13 hq13 h => ?_)
    refine q_callVi (As := [.int v1, .int 4]) (rest := [.int v2]) hx q_kR0 (c_X10_sv (q_Xl X) G x σ v1 4 hq13) q_ml_X10_111 q_mn_X10_sv q_mi_X10_sv q_se_X10_sv (by decide) rfl (Nat.le_of_ble_eq_true rfl) dX10_tell_86 (q_ne kd_292 (by decide)) (q_e10 kd_292) rfl rfl rfl ?_
    refine q_icmp_ge hx 121 dX10_tell_89 (by decide) (fun hc14 => ?_) (fun hc14 => ?_)
    · replace h := (if_pos hc14).symm.trans h
      refine q_aload_n hx dX10_tell_121 0 rfl ?_
      refine q_iload_n hx dX10_tell_122 1 rfl ?_
      refine q_iconst (v := 1) hx dX10_tell_123 (by decide) ?_
      refine q_bindE h (fun q15 hq15 h => ?_)
      refine q_callVi (As := [.int v1, .int 1]) (rest := []) hx q_kR0 (c_X10_sv (q_Xl X) G x σ v1 1 hq15) q_ml_X10_111 q_mn_X10_sv q_mi_X10_sv q_se_X10_sv (by decide) rfl (Nat.le_of_ble_eq_true rfl) dX10_tell_124 (q_ne kd_292 (by decide)) (q_e10 kd_292) rfl rfl rfl ?_
      refine q_iconst (v := 2) hx dX10_tell_127 (by decide) ?_
      refine q_icmp_ne hx 137 dX10_tell_128 (by decide) (fun hc16 => ?_) (fun hc16 => ?_)
      · replace h := (if_neg hc16).symm.trans h
        refine q_aload_n hx dX10_tell_137 0 rfl ?_
        refine q_get (v := .int (σ 292 29)) hx q_fl_X10_100 dX10_tell_138 (q_ne kd_292 (by decide)) (q_e10 kd_292) rfl ?_
        cases h
        exact q_iret hx hr dX10_tell_141
      · replace h := (if_pos hc16).symm.trans h
        refine q_aload_n hx dX10_tell_131 0 rfl ?_
        refine q_bipush (v := 33) hx dX10_tell_132 (by decide) ?_
        refine q_bindE h (fun q17 hq17 h => ?_)
        refine q_callVv (As := [.int 33]) (rest := []) hx q_kR0 (c_X10_writes (q_Xl X) G x σ 33 hq17) q_ml_X10_333 q_mn_X10_writes q_mi_X10_writes q_se_X10_writes (by decide) rfl (Nat.le_of_ble_eq_true rfl) dX10_tell_134 (q_ne kd_292 (by decide)) (q_e10 kd_292) rfl rfl rfl ?_
        refine q_aload_n hx dX10_tell_137 0 rfl ?_
        refine q_get (v := .int (q17 292 29)) hx q_fl_X10_100 dX10_tell_138 (q_ne kd_292 (by decide)) (q_e10 kd_292) rfl ?_
        cases h
        exact q_iret hx hr dX10_tell_141
    · replace h := (if_neg hc14).symm.trans h
      refine q_aload_n hx dX10_tell_92 0 rfl ?_
      refine q_aload_n hx dX10_tell_93 0 rfl ?_
      refine q_iload_n hx dX10_tell_94 1 rfl ?_
      refine q_iload_n hx dX10_tell_95 2 rfl ?_
      refine q_bindE h (fun q18 hq18 h => ?_)
      refine q_callVi (As := [.int v1, .int v2]) (rest := [.ref (G.2.1 + 292)]) hx q_kR0 (c_X10_way (q_Xl X) G x σ v1 v2 hq18) q_ml_X10_178 q_mn_X10_way q_mi_X10_way q_se_X10_way (by decide) rfl (Nat.le_of_ble_eq_true rfl) dX10_tell_96 (q_ne kd_292 (by decide)) (q_e10 kd_292) rfl rfl rfl ?_
      refine q_callSi (As := [.int q18]) (rest := [.ref (G.2.1 + 292)]) hx q_kR0 (c_X10_letterOf (q_Xl X) G x σ q18) q_ml_X10_340 q_mn_X10_letterOf q_ms_X10_letterOf (by decide) rfl (Nat.le_of_ble_eq_true rfl) dX10_tell_99 rfl ?_
      refine q_bindE h (fun q19 hq19 h => ?_)
      refine q_callVv (As := [.int ((f_X10_letterOf q18))]) (rest := []) hx q_kR0 (c_X10_writes (q_Xl X) G x σ ((f_X10_letterOf q18)) hq19) q_ml_X10_333 q_mn_X10_writes q_mi_X10_writes q_se_X10_writes (by decide) rfl (Nat.le_of_ble_eq_true rfl) dX10_tell_102 (q_ne kd_292 (by decide)) (q_e10 kd_292) rfl rfl rfl ?_
      refine q_aload_n hx dX10_tell_105 0 rfl ?_
      refine q_aload_n hx dX10_tell_106 0 rfl ?_
      refine q_iload_n hx dX10_tell_107 1 rfl ?_
      refine q_iload_n hx dX10_tell_108 2 rfl ?_
      refine q_bindE h (fun q20 hq20 h => ?_)
      refine q_callVi (As := [.int v1, .int v2]) (rest := [.ref (G.2.1 + 292)]) hx q_kR0 (c_X10_length (q_Xl X) G x q19 v1 v2 hq20) q_ml_X10_175 q_mn_X10_length q_mi_X10_length q_se_X10_length (by decide) rfl (Nat.le_of_ble_eq_true rfl) dX10_tell_109 (q_ne kd_292 (by decide)) (q_e10 kd_292) rfl rfl rfl ?_
      refine q_bindE h (fun q21 hq21 h => ?_)
      refine q_callVv (As := [.int q20]) (rest := []) hx q_kR0 (c_X10_writesNumber (q_Xl X) G x q19 q20 hq21) q_ml_X10_337 q_mn_X10_writesNumber q_mi_X10_writesNumber q_se_X10_writesNumber (by decide) rfl (Nat.le_of_ble_eq_true rfl) dX10_tell_112 (q_ne kd_292 (by decide)) (q_e10 kd_292) rfl rfl rfl ?_
      refine q_iinc hx [(2, .int (v2 + 1)), (0, .ref (G.2.1 + 292)), (1, .int v1)] dX10_tell_115 2 rfl rfl (by decide) rfl ?_
      refine q_goto hx 82 dX10_tell_118 (by decide) ?_
      refine q_sub [1, 2, 0] rfl ?_
      exact ih v1 (v2 + 1) q21 h
def f_X10_tell_14 (v1 : Int32) (s0 : Int32) (σ : q_S) : Option (Int32 × q_S) :=
  if ((q_up σ 292 4 s0) 292 4) ≤ 0 then (Option.bind (f_X10_sv (q_up (q_up σ 292 4 s0) 292 29 0) v1 1) (fun q4 => if q4 = 0 then (some ((0, q_up (q_up σ 292 4 s0) 292 29 0))) else (Option.bind (f_X10_writes (q_up (q_up σ 292 4 s0) 292 29 0) 40) (fun q6 => Option.bind (f_X10_sv q6 v1 2) (fun q7 => Option.bind (f_X10_writesNumber q6 q7) (fun q8 => Option.bind (f_X10_writes q8 44) (fun q9 => Option.bind (f_X10_sv q9 v1 3) (fun q10 => Option.bind (f_X10_writesNumber q9 q10) (fun q11 => Option.bind (f_X10_writes q11 41) (fun q12 => f_X10_tell_82 q_fu v1 0 q12)))))))))) else (some ((0, q_up σ 292 4 s0)))
set_option maxHeartbeats 4000000 in
set_option maxRecDepth 100000 in
theorem s_X10_tell_14 {X : q_X} {G : q_G} {x : q_A} (hx : q_Cx X G RX10 cX10_tell 3 3) (hr : (q_Xm X).sig.returnType = some .int) {res : Int32 × q_S} : ∀ (v1 : Int32) (s0 : Int32) (σ : q_S), f_X10_tell_14 v1 s0 σ = some res → q_Wq X G x 3 (q_MQ X G (q_Qi G x res.1 res.2)) 0 0 14 [(0, .ref (G.2.1 + 292)), (1, .int v1)] [.int s0, .ref (G.2.1 + 292)] σ := by
  intro v1 s0 σ h
  unfold f_X10_tell_14 at h
  refine q_put (v := s0) hx q_fl_X10_22 q_fp_10_4 dX10_tell_14 (q_ne kd_292 (by decide)) (q_e10 kd_292) (by rw [q_l10]; decide) rfl rfl (by rw [q_e10 kd_292, q_s10_4]) ?_
  refine q_aload_n hx dX10_tell_17 0 rfl ?_
  refine q_get (v := .int ((q_up σ 292 4 s0) 292 4)) hx q_fl_X10_22 dX10_tell_18 (q_ne kd_292 (by decide)) (q_e10 kd_292) rfl ?_
  refine q_if_le hx 26 dX10_tell_21 (by decide) (fun hc3 => ?_) (fun hc3 => ?_)
  · replace h := (if_pos hc3).symm.trans h
    refine q_aload_n hx dX10_tell_26 0 rfl ?_
    refine q_iconst (v := 0) hx dX10_tell_27 (by decide) ?_
    refine q_put (v := 0) hx q_fl_X10_100 q_fp_10_29 dX10_tell_28 (q_ne kd_292 (by decide)) (q_e10 kd_292) (by rw [q_l10]; decide) rfl rfl (by rw [q_e10 kd_292, q_s10_29]) ?_
    refine q_aload_n hx dX10_tell_31 0 rfl ?_
    refine q_iload_n hx dX10_tell_32 1 rfl ?_
    refine q_iconst (v := 1) hx dX10_tell_33 (by decide) ?_
    refine q_bindE h (fun q4 hq4 h => ?_)
    refine q_callVi (As := [.int v1, .int 1]) (rest := []) hx q_kR0 (c_X10_sv (q_Xl X) G x (q_up (q_up σ 292 4 s0) 292 29 0) v1 1 hq4) q_ml_X10_111 q_mn_X10_sv q_mi_X10_sv q_se_X10_sv (by decide) rfl (Nat.le_of_ble_eq_true rfl) dX10_tell_34 (q_ne kd_292 (by decide)) (q_e10 kd_292) rfl rfl rfl ?_
    refine q_if_ne hx 42 dX10_tell_37 (by decide) (fun hc5 => ?_) (fun hc5 => ?_)
    · replace h := (if_neg hc5).symm.trans h
      refine q_aload_n hx dX10_tell_42 0 rfl ?_
      refine q_bipush (v := 40) hx dX10_tell_43 (by decide) ?_
      refine q_bindE h (fun q6 hq6 h => ?_)
      refine q_callVv (As := [.int 40]) (rest := []) hx q_kR0 (c_X10_writes (q_Xl X) G x (q_up (q_up σ 292 4 s0) 292 29 0) 40 hq6) q_ml_X10_333 q_mn_X10_writes q_mi_X10_writes q_se_X10_writes (by decide) rfl (Nat.le_of_ble_eq_true rfl) dX10_tell_45 (q_ne kd_292 (by decide)) (q_e10 kd_292) rfl rfl rfl ?_
      refine q_aload_n hx dX10_tell_48 0 rfl ?_
      refine q_aload_n hx dX10_tell_49 0 rfl ?_
      refine q_iload_n hx dX10_tell_50 1 rfl ?_
      refine q_iconst (v := 2) hx dX10_tell_51 (by decide) ?_
      refine q_bindE h (fun q7 hq7 h => ?_)
      refine q_callVi (As := [.int v1, .int 2]) (rest := [.ref (G.2.1 + 292)]) hx q_kR0 (c_X10_sv (q_Xl X) G x q6 v1 2 hq7) q_ml_X10_111 q_mn_X10_sv q_mi_X10_sv q_se_X10_sv (by decide) rfl (Nat.le_of_ble_eq_true rfl) dX10_tell_52 (q_ne kd_292 (by decide)) (q_e10 kd_292) rfl rfl rfl ?_
      refine q_bindE h (fun q8 hq8 h => ?_)
      refine q_callVv (As := [.int q7]) (rest := []) hx q_kR0 (c_X10_writesNumber (q_Xl X) G x q6 q7 hq8) q_ml_X10_337 q_mn_X10_writesNumber q_mi_X10_writesNumber q_se_X10_writesNumber (by decide) rfl (Nat.le_of_ble_eq_true rfl) dX10_tell_55 (q_ne kd_292 (by decide)) (q_e10 kd_292) rfl rfl rfl ?_
      refine q_aload_n hx dX10_tell_58 0 rfl ?_
      refine q_bipush (v := 44) hx dX10_tell_59 (by decide) ?_
      refine q_bindE h (fun q9 hq9 h => ?_)
      refine q_callVv (As := [.int 44]) (rest := []) hx q_kR0 (c_X10_writes (q_Xl X) G x q8 44 hq9) q_ml_X10_333 q_mn_X10_writes q_mi_X10_writes q_se_X10_writes (by decide) rfl (Nat.le_of_ble_eq_true rfl) dX10_tell_61 (q_ne kd_292 (by decide)) (q_e10 kd_292) rfl rfl rfl ?_
      refine q_aload_n hx dX10_tell_64 0 rfl ?_
      refine q_aload_n hx dX10_tell_65 0 rfl ?_
      refine q_iload_n hx dX10_tell_66 1 rfl ?_
      refine q_iconst (v := 3) hx dX10_tell_67 (by decide) ?_
      refine q_bindE h (fun q10 hq10 h => ?_)
      refine q_callVi (As := [.int v1, .int 3]) (rest := [.ref (G.2.1 + 292)]) hx q_kR0 (c_X10_sv (q_Xl X) G x q9 v1 3 hq10) q_ml_X10_111 q_mn_X10_sv q_mi_X10_sv q_se_X10_sv (by decide) rfl (Nat.le_of_ble_eq_true rfl) dX10_tell_68 (q_ne kd_292 (by decide)) (q_e10 kd_292) rfl rfl rfl ?_
      refine q_bindE h (fun q11 hq11 h => ?_)
      refine q_callVv (As := [.int q10]) (rest := []) hx q_kR0 (c_X10_writesNumber (q_Xl X) G x q9 q10 hq11) q_ml_X10_337 q_mn_X10_writesNumber q_mi_X10_writesNumber q_se_X10_writesNumber (by decide) rfl (Nat.le_of_ble_eq_true rfl) dX10_tell_71 (q_ne kd_292 (by decide)) (q_e10 kd_292) rfl rfl rfl ?_
      refine q_aload_n hx dX10_tell_74 0 rfl ?_
      refine q_bipush (v := 41) hx dX10_tell_75 (by decide) ?_
      refine q_bindE h (fun q12 hq12 h => ?_)
      refine q_callVv (As := [.int 41]) (rest := []) hx q_kR0 (c_X10_writes (q_Xl X) G x q11 41 hq12) q_ml_X10_333 q_mn_X10_writes q_mi_X10_writes q_se_X10_writes (by decide) rfl (Nat.le_of_ble_eq_true rfl) dX10_tell_77 (q_ne kd_292 (by decide)) (q_e10 kd_292) rfl rfl rfl ?_
      refine q_iconst (v := 0) hx dX10_tell_80 (by decide) ?_
      refine q_istore_n hx [(2, .int 0), (0, .ref (G.2.1 + 292)), (1, .int v1)] dX10_tell_81 (by decide) rfl ?_
      refine q_sub [1, 2, 0] rfl ?_
      exact s_X10_tell_82 hx hr q_fu v1 0 q12 h
    · replace h := (if_pos hc5).symm.trans h
      refine q_iconst (v := 0) hx dX10_tell_40 (by decide) ?_
      cases h
      exact q_iret hx hr dX10_tell_41
  · replace h := (if_neg hc3).symm.trans h
    refine q_iconst (v := 0) hx dX10_tell_24 (by decide) ?_
    cases h
    exact q_iret hx hr dX10_tell_25
def f_X10_tell (σ : q_S) (a1 : Int32) : Option (Int32 × q_S) :=
  Option.bind (f_X10_isSleeper σ a1) (fun q1 => if q1 = 0 then (f_X10_tell_14 a1 1 σ) else (f_X10_tell_14 a1 0 σ))
set_option maxHeartbeats 4000000 in
set_option maxRecDepth 100000 in
theorem c_X10_tell (l : Launch) (G : q_G) (x : q_A) (σ : q_S) (a1 : Int32)  {res : Int32 × q_S} (h : f_X10_tell σ a1 = some res) : q_Met l yX10_tell cX10_tell 3 (some .int) 3 G [.ref (G.2.1 + 292), .int a1] σ x (q_Qi G x res.1 res.2) := by
  refine q_of (by decide) (Nat.le_of_ble_eq_true rfl) (fun X hl0 hx hr => ?_)
  subst hl0
  have hx : q_Cx X G RX10 cX10_tell 3 3 := hx
  unfold f_X10_tell at h
  show q_Wq X G x 3 (q_MQ X G (q_Qi G x res.1 res.2)) 0 0 0 [(0, .ref (G.2.1 + 292)), (1, .int a1)] [] σ
  refine q_aload_n hx dX10_tell_0 0 rfl ?_
  refine q_aload_n hx dX10_tell_1 0 rfl ?_
  refine q_iload_n hx dX10_tell_2 1 rfl ?_
  refine q_bindE h (fun q1 hq1 h => ?_)
  refine q_callVi (As := [.int a1]) (rest := [.ref (G.2.1 + 292)]) hx q_kR0 (c_X10_isSleeper (q_Xl X) G x σ a1 hq1) q_ml_X10_166 q_mn_X10_isSleeper q_mi_X10_isSleeper q_se_X10_isSleeper (by decide) rfl (Nat.le_of_ble_eq_true rfl) dX10_tell_3 (q_ne kd_292 (by decide)) (q_e10 kd_292) rfl rfl rfl ?_
  refine q_if_eq hx 13 dX10_tell_6 (by decide) (fun hc2 => ?_) (fun hc2 => ?_)
  · replace h := (if_pos hc2).symm.trans h
    refine q_iconst (v := 1) hx dX10_tell_13 (by decide) ?_
    refine q_sub [0, 1] rfl ?_
    exact s_X10_tell_14 hx hr a1 1 σ h
  · replace h := (if_neg hc2).symm.trans h
    refine q_iconst (v := 0) hx dX10_tell_9 (by decide) ?_
    refine q_goto hx 14 dX10_tell_10 (by decide) ?_
    refine q_sub [0, 1] rfl ?_
    exact s_X10_tell_14 hx hr a1 0 σ h
-- X10_written
def f_X10_written_20 (v1 : Int32) (s0 : Int32) (σ : q_S) : Option (Int32 × q_S) :=
  if ((q_up σ 292 4 s0) 292 4) ≤ 0 then (if (v1 < 0 ∨ 60 ≤ v1.toNatClampNeg) then none else some (((((q_up σ 292 4 s0) 302 v1.toNatClampNeg).toUInt32 % 65536).toInt32, q_up σ 292 4 s0))) else (some ((32, q_up σ 292 4 s0)))
set_option maxHeartbeats 4000000 in
set_option maxRecDepth 100000 in
theorem s_X10_written_20 {X : q_X} {G : q_G} {x : q_A} (hx : q_Cx X G RX10 cX10_written 2 2) (hr : (q_Xm X).sig.returnType = some .char) {res : Int32 × q_S} : ∀ (v1 : Int32) (s0 : Int32) (σ : q_S), f_X10_written_20 v1 s0 σ = some res → q_Wq X G x 2 (q_MQ X G (q_Qi G x res.1 res.2)) 0 0 20 [(0, .ref (G.2.1 + 292)), (1, .int v1)] [.int s0, .ref (G.2.1 + 292)] σ := by
  intro v1 s0 σ h
  unfold f_X10_written_20 at h
  refine q_put (v := s0) hx q_fl_X10_22 q_fp_10_4 dX10_written_20 (q_ne kd_292 (by decide)) (q_e10 kd_292) (by rw [q_l10]; decide) rfl rfl (by rw [q_e10 kd_292, q_s10_4]) ?_
  refine q_aload_n hx dX10_written_23 0 rfl ?_
  refine q_get (v := .int ((q_up σ 292 4 s0) 292 4)) hx q_fl_X10_22 dX10_written_24 (q_ne kd_292 (by decide)) (q_e10 kd_292) rfl ?_
  refine q_if_le hx 35 dX10_written_27 (by decide) (fun hc2 => ?_) (fun hc2 => ?_)
  · replace h := (if_pos hc2).symm.trans h
    refine q_aload_n hx dX10_written_35 0 rfl ?_
    refine q_get (v := .ref (G.2.1 + 302)) hx q_fl_X10_97 dX10_written_36 (q_ne kd_292 (by decide)) (q_e10 kd_292) rfl ?_
    refine q_iload_n hx dX10_written_39 1 rfl ?_
    by_cases hg3 : (v1 < 0 ∨ 60 ≤ v1.toNatClampNeg)
    · rw [if_pos hg3] at h; exact nomatch h
    replace h := (if_neg hg3).symm.trans h
    refine q_iald (N := 60) hx dX10_written_40 kd_302 (by first | decide | assumption) hg3 ?_
    refine q_i2c hx dX10_written_41 ?_
    cases h
    exact q_zret (v := (((q_up σ 292 4 s0) 302 v1.toNatClampNeg).toUInt32 % 65536).toInt32) hx hr (pk_nc _) dX10_written_42
  · replace h := (if_neg hc2).symm.trans h
    refine q_bipush (v := 32) hx dX10_written_30 (by decide) ?_
    refine q_goto hx 42 dX10_written_32 (by decide) ?_
    cases h
    exact q_zret (v := 32) hx hr rfl dX10_written_42
def f_X10_written (σ : q_S) (a1 : Int32) : Option (Int32 × q_S) :=
  if ((f_X10_in a1 0 ((σ 292 29) - 1))) = 0 then (f_X10_written_20 a1 1 σ) else (f_X10_written_20 a1 0 σ)
set_option maxHeartbeats 4000000 in
set_option maxRecDepth 100000 in
theorem c_X10_written (l : Launch) (G : q_G) (x : q_A) (σ : q_S) (a1 : Int32)  {res : Int32 × q_S} (h : f_X10_written σ a1 = some res) : q_Met l yX10_written cX10_written 2 (some .char) 2 G [.ref (G.2.1 + 292), .int a1] σ x (q_Qi G x res.1 res.2) := by
  refine q_of (by decide) (Nat.le_of_ble_eq_true rfl) (fun X hl0 hx hr => ?_)
  subst hl0
  have hx : q_Cx X G RX10 cX10_written 2 2 := hx
  unfold f_X10_written at h
  show q_Wq X G x 2 (q_MQ X G (q_Qi G x res.1 res.2)) 0 0 0 [(0, .ref (G.2.1 + 292)), (1, .int a1)] [] σ
  refine q_aload_n hx dX10_written_0 0 rfl ?_
  refine q_iload_n hx dX10_written_1 1 rfl ?_
  refine q_iconst (v := 0) hx dX10_written_2 (by decide) ?_
  refine q_aload_n hx dX10_written_3 0 rfl ?_
  refine q_get (v := .int (σ 292 29)) hx q_fl_X10_100 dX10_written_4 (q_ne kd_292 (by decide)) (q_e10 kd_292) rfl ?_
  refine q_iconst (v := 1) hx dX10_written_7 (by decide) ?_
  refine q_isub hx dX10_written_8 ?_
  refine q_callSi (As := [.int a1, .int 0, .int ((σ 292 29) - 1)]) (rest := [.ref (G.2.1 + 292)]) hx q_kR0 (c_X10_in (q_Xl X) G x σ a1 0 ((σ 292 29) - 1)) q_ml_X10_115 q_mn_X10_in q_ms_X10_in (by decide) rfl (Nat.le_of_ble_eq_true rfl) dX10_written_9 rfl ?_
  refine q_if_eq hx 19 dX10_written_12 (by decide) (fun hc1 => ?_) (fun hc1 => ?_)
  · replace h := (if_pos hc1).symm.trans h
    refine q_iconst (v := 1) hx dX10_written_19 (by decide) ?_
    refine q_sub [0, 1] rfl ?_
    exact s_X10_written_20 hx hr a1 1 σ h
  · replace h := (if_neg hc1).symm.trans h
    refine q_iconst (v := 0) hx dX10_written_15 (by decide) ?_
    refine q_goto hx 20 dX10_written_16 (by decide) ?_
    refine q_sub [0, 1] rfl ?_
    exact s_X10_written_20 hx hr a1 0 σ h
-- X10_awake
def f_X10_awake_4 (σ : q_S) : Nat → Int32 → Int32 → Option (Int32)
  | 0, _, _ => none
  | n + 1, v1, v2 =>
    if (σ 293 0) ≤ v2 then (some v1) else (Option.bind (f_X10_sv σ v2 0) (fun q2 => if q2 = 0 then (f_X10_awake_4 σ n (v1 + 1) (v2 + 1)) else (f_X10_awake_4 σ n (v1 + 0) (v2 + 1))))
set_option maxHeartbeats 4000000 in
set_option maxRecDepth 100000 in
theorem s_X10_awake_4 {X : q_X} {G : q_G} {x : q_A} (σ : q_S) (hx : q_Cx X G RX10 cX10_awake 3 2) (hr : (q_Xm X).sig.returnType = some .int) {res : Int32} : ∀ (n : Nat) (v1 : Int32) (v2 : Int32), f_X10_awake_4 σ n v1 v2 = some res → q_Wq X G x 3 (q_MQ X G (q_Qi G x res σ)) 0 0 4 [(0, .ref (G.2.1 + 292)), (1, .int v1), (2, .int v2)] [] σ := by
  intro n
  induction n with
  | zero => exact fun _ _ h => nomatch (show (none : Option (Int32)) = some res from h)
  | succ n ih =>
    intro v1 v2 h
    rw [f_X10_awake_4] at h
    refine q_iload_n hx dX10_awake_4 2 rfl ?_
    refine q_aload_n hx dX10_awake_5 0 rfl ?_
    refine q_get (v := .ref (G.2.1 + 293)) hx q_fl_X10_7 dX10_awake_6 (q_ne kd_292 (by decide)) (q_e10 kd_292) rfl ?_
    refine q_iconst (v := 0) hx dX10_awake_9 (by decide) ?_
    refine q_ialdK (N := 220) hx 0 dX10_awake_10 kd_293 (by decide) (by decide) (by decide) (by decide) ?_
    refine q_icmp_ge hx 37 dX10_awake_11 (by decide) (fun hc1 => ?_) (fun hc1 => ?_)
    · replace h := (if_pos hc1).symm.trans h
      refine q_iload_n hx dX10_awake_37 1 rfl ?_
      cases h
      exact q_iret hx hr dX10_awake_38
    · replace h := (if_neg hc1).symm.trans h
      refine q_iload_n hx dX10_awake_14 1 rfl ?_
      refine q_aload_n hx dX10_awake_15 0 rfl ?_
      refine q_iload_n hx dX10_awake_16 2 rfl ?_
      refine q_iconst (v := 0) hx dX10_awake_17 (by decide) ?_
      refine q_bindE h (fun q2 hq2 h => ?_)
      refine q_callVi (As := [.int v2, .int 0]) (rest := [.int v1]) hx q_kR0 (c_X10_sv (q_Xl X) G x σ v2 0 hq2) q_ml_X10_111 q_mn_X10_sv q_mi_X10_sv q_se_X10_sv (by decide) rfl (Nat.le_of_ble_eq_true rfl) dX10_awake_18 (q_ne kd_292 (by decide)) (q_e10 kd_292) rfl rfl rfl ?_
      refine q_if_ne hx 28 dX10_awake_21 (by decide) (fun hc3 => ?_) (fun hc3 => ?_)
      · replace h := (if_neg hc3).symm.trans h
        refine q_iconst (v := 0) hx dX10_awake_28 (by decide) ?_
        refine q_iadd hx dX10_awake_29 ?_
        refine q_istore_n hx [(1, .int (v1 + 0)), (0, .ref (G.2.1 + 292)), (2, .int v2)] dX10_awake_30 (by decide) rfl ?_
        refine q_iinc hx [(2, .int (v2 + 1)), (1, .int (v1 + 0)), (0, .ref (G.2.1 + 292))] dX10_awake_31 2 rfl rfl (by decide) rfl ?_
        refine q_goto hx 4 dX10_awake_34 (by decide) ?_
        refine q_sub [2, 1, 0] rfl ?_
        exact ih (v1 + 0) (v2 + 1) h
      · replace h := (if_pos hc3).symm.trans h
        refine q_iconst (v := 1) hx dX10_awake_24 (by decide) ?_
        refine q_goto hx 29 dX10_awake_25 (by decide) ?_
        refine q_iadd hx dX10_awake_29 ?_
        refine q_istore_n hx [(1, .int (v1 + 1)), (0, .ref (G.2.1 + 292)), (2, .int v2)] dX10_awake_30 (by decide) rfl ?_
        refine q_iinc hx [(2, .int (v2 + 1)), (1, .int (v1 + 1)), (0, .ref (G.2.1 + 292))] dX10_awake_31 2 rfl rfl (by decide) rfl ?_
        refine q_goto hx 4 dX10_awake_34 (by decide) ?_
        refine q_sub [2, 1, 0] rfl ?_
        exact ih (v1 + 1) (v2 + 1) h
def f_X10_awake (σ : q_S) : Option (Int32) :=
  f_X10_awake_4 σ q_fu 0 0
set_option maxHeartbeats 4000000 in
set_option maxRecDepth 100000 in
theorem c_X10_awake (l : Launch) (G : q_G) (x : q_A) (σ : q_S)   {res : Int32} (h : f_X10_awake σ = some res) : q_Met l yX10_awake cX10_awake 3 (some .int) 2 G [.ref (G.2.1 + 292)] σ x (q_Qi G x res σ) := by
  refine q_of (by decide) (Nat.le_of_ble_eq_true rfl) (fun X hl0 hx hr => ?_)
  subst hl0
  have hx : q_Cx X G RX10 cX10_awake 3 2 := hx
  unfold f_X10_awake at h
  show q_Wq X G x 3 (q_MQ X G (q_Qi G x res σ)) 0 0 0 [(0, .ref (G.2.1 + 292))] [] σ
  refine q_iconst (v := 0) hx dX10_awake_0 (by decide) ?_
  refine q_istore_n hx [(1, .int 0), (0, .ref (G.2.1 + 292))] dX10_awake_1 (by decide) rfl ?_
  refine q_iconst (v := 0) hx dX10_awake_2 (by decide) ?_
  refine q_istore_n hx [(2, .int 0), (1, .int 0), (0, .ref (G.2.1 + 292))] dX10_awake_3 (by decide) rfl ?_
  refine q_sub [2, 1, 0] rfl ?_
  exact s_X10_awake_4 σ hx hr q_fu 0 0 h
-- X10_lit
def f_X10_lit_4 (σ : q_S) : Nat → Int32 → Int32 → Option (Int32)
  | 0, _, _ => none
  | n + 1, v1, v2 =>
    if (σ 293 1) ≤ v2 then (some v1) else (Option.bind (f_X10_isLit σ v2) (fun q2 => if q2 = 0 then (f_X10_lit_4 σ n (v1 + 0) (v2 + 1)) else (f_X10_lit_4 σ n (v1 + 1) (v2 + 1))))
set_option maxHeartbeats 4000000 in
set_option maxRecDepth 100000 in
theorem s_X10_lit_4 {X : q_X} {G : q_G} {x : q_A} (σ : q_S) (hx : q_Cx X G RX10 cX10_lit 3 3) (hr : (q_Xm X).sig.returnType = some .int) {res : Int32} : ∀ (n : Nat) (v1 : Int32) (v2 : Int32), f_X10_lit_4 σ n v1 v2 = some res → q_Wq X G x 3 (q_MQ X G (q_Qi G x res σ)) 0 0 4 [(0, .ref (G.2.1 + 292)), (1, .int v1), (2, .int v2)] [] σ := by
  intro n
  induction n with
  | zero => exact fun _ _ h => nomatch (show (none : Option (Int32)) = some res from h)
  | succ n ih =>
    intro v1 v2 h
    rw [f_X10_lit_4] at h
    refine q_iload_n hx dX10_lit_4 2 rfl ?_
    refine q_aload_n hx dX10_lit_5 0 rfl ?_
    refine q_get (v := .ref (G.2.1 + 293)) hx q_fl_X10_7 dX10_lit_6 (q_ne kd_292 (by decide)) (q_e10 kd_292) rfl ?_
    refine q_iconst (v := 1) hx dX10_lit_9 (by decide) ?_
    refine q_ialdK (N := 220) hx 1 dX10_lit_10 kd_293 (by decide) (by decide) (by decide) (by decide) ?_
    refine q_icmp_ge hx 36 dX10_lit_11 (by decide) (fun hc1 => ?_) (fun hc1 => ?_)
    · replace h := (if_pos hc1).symm.trans h
      refine q_iload_n hx dX10_lit_36 1 rfl ?_
      cases h
      exact q_iret hx hr dX10_lit_37
    · replace h := (if_neg hc1).symm.trans h
      refine q_iload_n hx dX10_lit_14 1 rfl ?_
      refine q_aload_n hx dX10_lit_15 0 rfl ?_
      refine q_iload_n hx dX10_lit_16 2 rfl ?_
      refine q_bindE h (fun q2 hq2 h => ?_)
      refine q_callVi (As := [.int v2]) (rest := [.int v1]) hx q_kR0 (c_X10_isLit (q_Xl X) G x σ v2 hq2) q_ml_X10_191 q_mn_X10_isLit q_mi_X10_isLit q_se_X10_isLit (by decide) rfl (Nat.le_of_ble_eq_true rfl) dX10_lit_17 (q_ne kd_292 (by decide)) (q_e10 kd_292) rfl rfl rfl ?_
      refine q_if_eq hx 27 dX10_lit_20 (by decide) (fun hc3 => ?_) (fun hc3 => ?_)
      · replace h := (if_pos hc3).symm.trans h
        refine q_iconst (v := 0) hx dX10_lit_27 (by decide) ?_
        refine q_iadd hx dX10_lit_28 ?_
        refine q_istore_n hx [(1, .int (v1 + 0)), (0, .ref (G.2.1 + 292)), (2, .int v2)] dX10_lit_29 (by decide) rfl ?_
        refine q_iinc hx [(2, .int (v2 + 1)), (1, .int (v1 + 0)), (0, .ref (G.2.1 + 292))] dX10_lit_30 2 rfl rfl (by decide) rfl ?_
        refine q_goto hx 4 dX10_lit_33 (by decide) ?_
        refine q_sub [2, 1, 0] rfl ?_
        exact ih (v1 + 0) (v2 + 1) h
      · replace h := (if_neg hc3).symm.trans h
        refine q_iconst (v := 1) hx dX10_lit_23 (by decide) ?_
        refine q_goto hx 28 dX10_lit_24 (by decide) ?_
        refine q_iadd hx dX10_lit_28 ?_
        refine q_istore_n hx [(1, .int (v1 + 1)), (0, .ref (G.2.1 + 292)), (2, .int v2)] dX10_lit_29 (by decide) rfl ?_
        refine q_iinc hx [(2, .int (v2 + 1)), (1, .int (v1 + 1)), (0, .ref (G.2.1 + 292))] dX10_lit_30 2 rfl rfl (by decide) rfl ?_
        refine q_goto hx 4 dX10_lit_33 (by decide) ?_
        refine q_sub [2, 1, 0] rfl ?_
        exact ih (v1 + 1) (v2 + 1) h
def f_X10_lit (σ : q_S) : Option (Int32) :=
  f_X10_lit_4 σ q_fu 0 0
set_option maxHeartbeats 4000000 in
set_option maxRecDepth 100000 in
theorem c_X10_lit (l : Launch) (G : q_G) (x : q_A) (σ : q_S)   {res : Int32} (h : f_X10_lit σ = some res) : q_Met l yX10_lit cX10_lit 3 (some .int) 3 G [.ref (G.2.1 + 292)] σ x (q_Qi G x res σ) := by
  refine q_of (by decide) (Nat.le_of_ble_eq_true rfl) (fun X hl0 hx hr => ?_)
  subst hl0
  have hx : q_Cx X G RX10 cX10_lit 3 3 := hx
  unfold f_X10_lit at h
  show q_Wq X G x 3 (q_MQ X G (q_Qi G x res σ)) 0 0 0 [(0, .ref (G.2.1 + 292))] [] σ
  refine q_iconst (v := 0) hx dX10_lit_0 (by decide) ?_
  refine q_istore_n hx [(1, .int 0), (0, .ref (G.2.1 + 292))] dX10_lit_1 (by decide) rfl ?_
  refine q_iconst (v := 0) hx dX10_lit_2 (by decide) ?_
  refine q_istore_n hx [(2, .int 0), (1, .int 0), (0, .ref (G.2.1 + 292))] dX10_lit_3 (by decide) rfl ?_
  refine q_sub [2, 1, 0] rfl ?_
  exact s_X10_lit_4 σ hx hr q_fu 0 0 h
-- X10_sumOf
def f_X10_sumOf_4 (σ : q_S) : Nat → Int32 → Int32 → Int32 → Option (Int32)
  | 0, _, _, _ => none
  | n + 1, v1, v2, v3 =>
    if (σ 293 0) ≤ v3 then (some v2) else (Option.bind (f_X10_sv σ v3 v1) (fun q2 => f_X10_sumOf_4 σ n v1 (v2 + q2) (v3 + 1)))
set_option maxHeartbeats 4000000 in
set_option maxRecDepth 100000 in
theorem s_X10_sumOf_4 {X : q_X} {G : q_G} {x : q_A} (σ : q_S) (hx : q_Cx X G RX10 cX10_sumOf 4 2) (hr : (q_Xm X).sig.returnType = some .int) {res : Int32} : ∀ (n : Nat) (v1 : Int32) (v2 : Int32) (v3 : Int32), f_X10_sumOf_4 σ n v1 v2 v3 = some res → q_Wq X G x 4 (q_MQ X G (q_Qi G x res σ)) 0 0 4 [(0, .ref (G.2.1 + 292)), (1, .int v1), (2, .int v2), (3, .int v3)] [] σ := by
  intro n
  induction n with
  | zero => exact fun _ _ _ h => nomatch (show (none : Option (Int32)) = some res from h)
  | succ n ih =>
    intro v1 v2 v3 h
    rw [f_X10_sumOf_4] at h
    refine q_iload_n hx dX10_sumOf_4 3 rfl ?_
    refine q_aload_n hx dX10_sumOf_5 0 rfl ?_
    refine q_get (v := .ref (G.2.1 + 293)) hx q_fl_X10_7 dX10_sumOf_6 (q_ne kd_292 (by decide)) (q_e10 kd_292) rfl ?_
    refine q_iconst (v := 0) hx dX10_sumOf_9 (by decide) ?_
    refine q_ialdK (N := 220) hx 0 dX10_sumOf_10 kd_293 (by decide) (by decide) (by decide) (by decide) ?_
    refine q_icmp_ge hx 29 dX10_sumOf_11 (by decide) (fun hc1 => ?_) (fun hc1 => ?_)
    · replace h := (if_pos hc1).symm.trans h
      refine q_iload_n hx dX10_sumOf_29 2 rfl ?_
      cases h
      exact q_iret hx hr dX10_sumOf_30
    · replace h := (if_neg hc1).symm.trans h
      refine q_iload_n hx dX10_sumOf_14 2 rfl ?_
      refine q_aload_n hx dX10_sumOf_15 0 rfl ?_
      refine q_iload_n hx dX10_sumOf_16 3 rfl ?_
      refine q_iload_n hx dX10_sumOf_17 1 rfl ?_
      refine q_bindE h (fun q2 hq2 h => ?_)
      refine q_callVi (As := [.int v3, .int v1]) (rest := [.int v2]) hx q_kR0 (c_X10_sv (q_Xl X) G x σ v3 v1 hq2) q_ml_X10_111 q_mn_X10_sv q_mi_X10_sv q_se_X10_sv (by decide) rfl (Nat.le_of_ble_eq_true rfl) dX10_sumOf_18 (q_ne kd_292 (by decide)) (q_e10 kd_292) rfl rfl rfl ?_
      refine q_iadd hx dX10_sumOf_21 ?_
      refine q_istore_n hx [(2, .int (v2 + q2)), (0, .ref (G.2.1 + 292)), (1, .int v1), (3, .int v3)] dX10_sumOf_22 (by decide) rfl ?_
      refine q_iinc hx [(3, .int (v3 + 1)), (2, .int (v2 + q2)), (0, .ref (G.2.1 + 292)), (1, .int v1)] dX10_sumOf_23 3 rfl rfl (by decide) rfl ?_
      refine q_goto hx 4 dX10_sumOf_26 (by decide) ?_
      refine q_sub [2, 3, 1, 0] rfl ?_
      exact ih v1 (v2 + q2) (v3 + 1) h
def f_X10_sumOf (σ : q_S) (a1 : Int32) : Option (Int32) :=
  f_X10_sumOf_4 σ q_fu a1 0 0
set_option maxHeartbeats 4000000 in
set_option maxRecDepth 100000 in
theorem c_X10_sumOf (l : Launch) (G : q_G) (x : q_A) (σ : q_S) (a1 : Int32)  {res : Int32} (h : f_X10_sumOf σ a1 = some res) : q_Met l yX10_sumOf cX10_sumOf 4 (some .int) 2 G [.ref (G.2.1 + 292), .int a1] σ x (q_Qi G x res σ) := by
  refine q_of (by decide) (Nat.le_of_ble_eq_true rfl) (fun X hl0 hx hr => ?_)
  subst hl0
  have hx : q_Cx X G RX10 cX10_sumOf 4 2 := hx
  unfold f_X10_sumOf at h
  show q_Wq X G x 4 (q_MQ X G (q_Qi G x res σ)) 0 0 0 [(0, .ref (G.2.1 + 292)), (1, .int a1)] [] σ
  refine q_iconst (v := 0) hx dX10_sumOf_0 (by decide) ?_
  refine q_istore_n hx [(2, .int 0), (0, .ref (G.2.1 + 292)), (1, .int a1)] dX10_sumOf_1 (by decide) rfl ?_
  refine q_iconst (v := 0) hx dX10_sumOf_2 (by decide) ?_
  refine q_istore_n hx [(3, .int 0), (2, .int 0), (0, .ref (G.2.1 + 292)), (1, .int a1)] dX10_sumOf_3 (by decide) rfl ?_
  refine q_sub [2, 3, 1, 0] rfl ?_
  exact s_X10_sumOf_4 σ hx hr q_fu a1 0 0 h
-- X10_owned
def f_X10_owned (σ : q_S) : Option (Int32) :=
  Option.bind (f_X10_cellsIn σ ((-1)) 0) (fun q1 => some (96 - q1))
set_option maxHeartbeats 4000000 in
set_option maxRecDepth 100000 in
theorem c_X10_owned (l : Launch) (G : q_G) (x : q_A) (σ : q_S)   {res : Int32} (h : f_X10_owned σ = some res) : q_Met l yX10_owned cX10_owned 1 (some .int) 6 G [.ref (G.2.1 + 292)] σ x (q_Qi G x res σ) := by
  refine q_of (by decide) (Nat.le_of_ble_eq_true rfl) (fun X hl0 hx hr => ?_)
  subst hl0
  have hx : q_Cx X G RX10 cX10_owned 1 6 := hx
  unfold f_X10_owned at h
  show q_Wq X G x 1 (q_MQ X G (q_Qi G x res σ)) 0 0 0 [(0, .ref (G.2.1 + 292))] [] σ
  refine q_bipush (v := 96) hx dX10_owned_0 (by decide) ?_
  refine q_aload_n hx dX10_owned_2 0 rfl ?_
  refine q_iconst (v := (-1)) hx dX10_owned_3 (by decide) ?_
  refine q_iconst (v := 0) hx dX10_owned_4 (by decide) ?_
  refine q_bindE h (fun q1 hq1 h => ?_)
  refine q_callVi (As := [.int ((-1)), .int 0]) (rest := [.int 96]) hx q_kR0 (c_X10_cellsIn (q_Xl X) G x σ ((-1)) 0 hq1) q_ml_X10_279 q_mn_X10_cellsIn q_mi_X10_cellsIn q_se_X10_cellsIn (by decide) rfl (Nat.le_of_ble_eq_true rfl) dX10_owned_5 (q_ne kd_292 (by decide)) (q_e10 kd_292) rfl rfl rfl ?_
  refine q_isub hx dX10_owned_8 ?_
  cases h
  exact q_iret hx hr dX10_owned_9
-- X10_account
def f_X10_account (σ : q_S) (a1 : Int32) : Option (Int32 × q_S) :=
  if a1 = 0 then (some (((q_up σ 292 4 0) 293 0, q_up σ 292 4 0))) else if a1 = 1 then (Option.bind (f_X10_awake (q_up σ 292 4 0)) (fun q3 => some ((q3, q_up σ 292 4 0)))) else if a1 = 2 then (some (((q_up σ 292 4 0) 293 1, q_up σ 292 4 0))) else if a1 = 3 then (Option.bind (f_X10_lit (q_up σ 292 4 0)) (fun q6 => some ((q6, q_up σ 292 4 0)))) else if a1 = 4 then (Option.bind (f_X10_plots (q_up σ 292 4 0) 1) (fun q8 => some ((q8, q_up σ 292 4 0)))) else if a1 = 5 then (Option.bind (f_X10_plots (q_up σ 292 4 0) 2) (fun q10 => some ((q10, q_up σ 292 4 0)))) else if a1 = 6 then (Option.bind (f_X10_sumOf (q_up σ 292 4 0) 4) (fun q12 => some ((q12, q_up σ 292 4 0)))) else if a1 = 7 then (Option.bind (f_X10_owned (q_up σ 292 4 0)) (fun q14 => some ((q14, q_up σ 292 4 0)))) else if a1 = 8 then (some (((q_up σ 292 4 0) 293 2, q_up σ 292 4 0))) else if a1 = 9 then (some (((q_up σ 292 4 0) 293 3, q_up σ 292 4 0))) else if a1 = 10 then (some (((q_up σ 292 4 0) 292 22, q_up σ 292 4 0))) else if a1 = 11 then (some (((q_up σ 292 4 0) 292 5, q_up σ 292 4 0))) else some (((f_X10_no (q_up σ 292 4 0) 1).1, (f_X10_no (q_up σ 292 4 0) 1).2))
set_option maxHeartbeats 4000000 in
set_option maxRecDepth 100000 in
theorem c_X10_account (l : Launch) (G : q_G) (x : q_A) (σ : q_S) (a1 : Int32)  {res : Int32 × q_S} (h : f_X10_account σ a1 = some res) : q_Met l yX10_account cX10_account 2 (some .int) 7 G [.ref (G.2.1 + 292), .int a1] σ x (q_Qi G x res.1 res.2) := by
  refine q_of (by decide) (Nat.le_of_ble_eq_true rfl) (fun X hl0 hx hr => ?_)
  subst hl0
  have hx : q_Cx X G RX10 cX10_account 2 7 := hx
  unfold f_X10_account at h
  show q_Wq X G x 2 (q_MQ X G (q_Qi G x res.1 res.2)) 0 0 0 [(0, .ref (G.2.1 + 292)), (1, .int a1)] [] σ
  refine q_aload_n hx dX10_account_0 0 rfl ?_
  refine q_iconst (v := 0) hx dX10_account_1 (by decide) ?_
  refine q_put (v := 0) hx q_fl_X10_22 q_fp_10_4 dX10_account_2 (q_ne kd_292 (by decide)) (q_e10 kd_292) (by rw [q_l10]; decide) rfl rfl (by rw [q_e10 kd_292, q_s10_4]) ?_
  refine q_iload_n hx dX10_account_5 1 rfl ?_
  by_cases hc1 : a1 = 0
  · replace h := (if_pos hc1).symm.trans h
    refine q_tin hx 68 dX10_account_6 (by rw [hc1] <;> decide) (by rw [hc1] <;> decide) (by rw [hc1] <;> rfl) (by decide) ?_
    refine q_aload_n hx dX10_account_68 0 rfl ?_
    refine q_get (v := .ref (G.2.1 + 293)) hx q_fl_X10_7 dX10_account_69 (q_ne kd_292 (by decide)) (q_e10 kd_292) rfl ?_
    refine q_iconst (v := 0) hx dX10_account_72 (by decide) ?_
    refine q_ialdK (N := 220) hx 0 dX10_account_73 kd_293 (by decide) (by decide) (by decide) (by decide) ?_
    cases h
    exact q_iret hx hr dX10_account_74
  replace h := (if_neg hc1).symm.trans h
  by_cases hc2 : a1 = 1
  · replace h := (if_pos hc2).symm.trans h
    refine q_tin hx 75 dX10_account_6 (by rw [hc2] <;> decide) (by rw [hc2] <;> decide) (by rw [hc2] <;> rfl) (by decide) ?_
    refine q_aload_n hx dX10_account_75 0 rfl ?_
    refine q_bindE h (fun q3 hq3 h => ?_)
    refine q_callVi (As := []) (rest := []) hx q_kR0 (c_X10_awake (q_Xl X) G x (q_up σ 292 4 0)  hq3) q_ml_X10_343 q_mn_X10_awake q_mi_X10_awake q_se_X10_awake (by decide) rfl (Nat.le_of_ble_eq_true rfl) dX10_account_76 (q_ne kd_292 (by decide)) (q_e10 kd_292) rfl rfl rfl ?_
    cases h
    exact q_iret hx hr dX10_account_79
  replace h := (if_neg hc2).symm.trans h
  by_cases hc4 : a1 = 2
  · replace h := (if_pos hc4).symm.trans h
    refine q_tin hx 80 dX10_account_6 (by rw [hc4] <;> decide) (by rw [hc4] <;> decide) (by rw [hc4] <;> rfl) (by decide) ?_
    refine q_aload_n hx dX10_account_80 0 rfl ?_
    refine q_get (v := .ref (G.2.1 + 293)) hx q_fl_X10_7 dX10_account_81 (q_ne kd_292 (by decide)) (q_e10 kd_292) rfl ?_
    refine q_iconst (v := 1) hx dX10_account_84 (by decide) ?_
    refine q_ialdK (N := 220) hx 1 dX10_account_85 kd_293 (by decide) (by decide) (by decide) (by decide) ?_
    cases h
    exact q_iret hx hr dX10_account_86
  replace h := (if_neg hc4).symm.trans h
  by_cases hc5 : a1 = 3
  · replace h := (if_pos hc5).symm.trans h
    refine q_tin hx 87 dX10_account_6 (by rw [hc5] <;> decide) (by rw [hc5] <;> decide) (by rw [hc5] <;> rfl) (by decide) ?_
    refine q_aload_n hx dX10_account_87 0 rfl ?_
    refine q_bindE h (fun q6 hq6 h => ?_)
    refine q_callVi (As := []) (rest := []) hx q_kR0 (c_X10_lit (q_Xl X) G x (q_up σ 292 4 0)  hq6) q_ml_X10_346 q_mn_X10_lit q_mi_X10_lit q_se_X10_lit (by decide) rfl (Nat.le_of_ble_eq_true rfl) dX10_account_88 (q_ne kd_292 (by decide)) (q_e10 kd_292) rfl rfl rfl ?_
    cases h
    exact q_iret hx hr dX10_account_91
  replace h := (if_neg hc5).symm.trans h
  by_cases hc7 : a1 = 4
  · replace h := (if_pos hc7).symm.trans h
    refine q_tin hx 92 dX10_account_6 (by rw [hc7] <;> decide) (by rw [hc7] <;> decide) (by rw [hc7] <;> rfl) (by decide) ?_
    refine q_aload_n hx dX10_account_92 0 rfl ?_
    refine q_iconst (v := 1) hx dX10_account_93 (by decide) ?_
    refine q_bindE h (fun q8 hq8 h => ?_)
    refine q_callVi (As := [.int 1]) (rest := []) hx q_kR0 (c_X10_plots (q_Xl X) G x (q_up σ 292 4 0) 1 hq8) q_ml_X10_163 q_mn_X10_plots q_mi_X10_plots q_se_X10_plots (by decide) rfl (Nat.le_of_ble_eq_true rfl) dX10_account_94 (q_ne kd_292 (by decide)) (q_e10 kd_292) rfl rfl rfl ?_
    cases h
    exact q_iret hx hr dX10_account_97
  replace h := (if_neg hc7).symm.trans h
  by_cases hc9 : a1 = 5
  · replace h := (if_pos hc9).symm.trans h
    refine q_tin hx 98 dX10_account_6 (by rw [hc9] <;> decide) (by rw [hc9] <;> decide) (by rw [hc9] <;> rfl) (by decide) ?_
    refine q_aload_n hx dX10_account_98 0 rfl ?_
    refine q_iconst (v := 2) hx dX10_account_99 (by decide) ?_
    refine q_bindE h (fun q10 hq10 h => ?_)
    refine q_callVi (As := [.int 2]) (rest := []) hx q_kR0 (c_X10_plots (q_Xl X) G x (q_up σ 292 4 0) 2 hq10) q_ml_X10_163 q_mn_X10_plots q_mi_X10_plots q_se_X10_plots (by decide) rfl (Nat.le_of_ble_eq_true rfl) dX10_account_100 (q_ne kd_292 (by decide)) (q_e10 kd_292) rfl rfl rfl ?_
    cases h
    exact q_iret hx hr dX10_account_103
  replace h := (if_neg hc9).symm.trans h
  by_cases hc11 : a1 = 6
  · replace h := (if_pos hc11).symm.trans h
    refine q_tin hx 104 dX10_account_6 (by rw [hc11] <;> decide) (by rw [hc11] <;> decide) (by rw [hc11] <;> rfl) (by decide) ?_
    refine q_aload_n hx dX10_account_104 0 rfl ?_
    refine q_iconst (v := 4) hx dX10_account_105 (by decide) ?_
    refine q_bindE h (fun q12 hq12 h => ?_)
    refine q_callVi (As := [.int 4]) (rest := []) hx q_kR0 (c_X10_sumOf (q_Xl X) G x (q_up σ 292 4 0) 4 hq12) q_ml_X10_349 q_mn_X10_sumOf q_mi_X10_sumOf q_se_X10_sumOf (by decide) rfl (Nat.le_of_ble_eq_true rfl) dX10_account_106 (q_ne kd_292 (by decide)) (q_e10 kd_292) rfl rfl rfl ?_
    cases h
    exact q_iret hx hr dX10_account_109
  replace h := (if_neg hc11).symm.trans h
  by_cases hc13 : a1 = 7
  · replace h := (if_pos hc13).symm.trans h
    refine q_tin hx 110 dX10_account_6 (by rw [hc13] <;> decide) (by rw [hc13] <;> decide) (by rw [hc13] <;> rfl) (by decide) ?_
    refine q_aload_n hx dX10_account_110 0 rfl ?_
    refine q_bindE h (fun q14 hq14 h => ?_)
    refine q_callVi (As := []) (rest := []) hx q_kR0 (c_X10_owned (q_Xl X) G x (q_up σ 292 4 0)  hq14) q_ml_X10_352 q_mn_X10_owned q_mi_X10_owned q_se_X10_owned (by decide) rfl (Nat.le_of_ble_eq_true rfl) dX10_account_111 (q_ne kd_292 (by decide)) (q_e10 kd_292) rfl rfl rfl ?_
    cases h
    exact q_iret hx hr dX10_account_114
  replace h := (if_neg hc13).symm.trans h
  by_cases hc15 : a1 = 8
  · replace h := (if_pos hc15).symm.trans h
    refine q_tin hx 115 dX10_account_6 (by rw [hc15] <;> decide) (by rw [hc15] <;> decide) (by rw [hc15] <;> rfl) (by decide) ?_
    refine q_aload_n hx dX10_account_115 0 rfl ?_
    refine q_get (v := .ref (G.2.1 + 293)) hx q_fl_X10_7 dX10_account_116 (q_ne kd_292 (by decide)) (q_e10 kd_292) rfl ?_
    refine q_iconst (v := 2) hx dX10_account_119 (by decide) ?_
    refine q_ialdK (N := 220) hx 2 dX10_account_120 kd_293 (by decide) (by decide) (by decide) (by decide) ?_
    cases h
    exact q_iret hx hr dX10_account_121
  replace h := (if_neg hc15).symm.trans h
  by_cases hc16 : a1 = 9
  · replace h := (if_pos hc16).symm.trans h
    refine q_tin hx 122 dX10_account_6 (by rw [hc16] <;> decide) (by rw [hc16] <;> decide) (by rw [hc16] <;> rfl) (by decide) ?_
    refine q_aload_n hx dX10_account_122 0 rfl ?_
    refine q_get (v := .ref (G.2.1 + 293)) hx q_fl_X10_7 dX10_account_123 (q_ne kd_292 (by decide)) (q_e10 kd_292) rfl ?_
    refine q_iconst (v := 3) hx dX10_account_126 (by decide) ?_
    refine q_ialdK (N := 220) hx 3 dX10_account_127 kd_293 (by decide) (by decide) (by decide) (by decide) ?_
    cases h
    exact q_iret hx hr dX10_account_128
  replace h := (if_neg hc16).symm.trans h
  by_cases hc17 : a1 = 10
  · replace h := (if_pos hc17).symm.trans h
    refine q_tin hx 129 dX10_account_6 (by rw [hc17] <;> decide) (by rw [hc17] <;> decide) (by rw [hc17] <;> rfl) (by decide) ?_
    refine q_aload_n hx dX10_account_129 0 rfl ?_
    refine q_get (v := .int ((q_up σ 292 4 0) 292 22)) hx q_fl_X10_79 dX10_account_130 (q_ne kd_292 (by decide)) (q_e10 kd_292) rfl ?_
    cases h
    exact q_iret hx hr dX10_account_133
  replace h := (if_neg hc17).symm.trans h
  by_cases hc18 : a1 = 11
  · replace h := (if_pos hc18).symm.trans h
    refine q_tin hx 134 dX10_account_6 (by rw [hc18] <;> decide) (by rw [hc18] <;> decide) (by rw [hc18] <;> rfl) (by decide) ?_
    refine q_aload_n hx dX10_account_134 0 rfl ?_
    refine q_get (v := .int ((q_up σ 292 4 0) 292 5)) hx q_fl_X10_26 dX10_account_135 (q_ne kd_292 (by decide)) (q_e10 kd_292) rfl ?_
    cases h
    exact q_iret hx hr dX10_account_138
  replace h := (if_neg hc18).symm.trans h
  have hc1T := lv_neT (k := 0) (a := 0) hc1 (by decide)
  have hc2T := lv_neT (k := 1) (a := 1) hc2 (by decide)
  have hc4T := lv_neT (k := 2) (a := 2) hc4 (by decide)
  have hc5T := lv_neT (k := 3) (a := 3) hc5 (by decide)
  have hc7T := lv_neT (k := 4) (a := 4) hc7 (by decide)
  have hc9T := lv_neT (k := 5) (a := 5) hc9 (by decide)
  have hc11T := lv_neT (k := 6) (a := 6) hc11 (by decide)
  have hc13T := lv_neT (k := 7) (a := 7) hc13 (by decide)
  have hc15T := lv_neT (k := 8) (a := 8) hc15 (by decide)
  have hc16T := lv_neT (k := 9) (a := 9) hc16 (by decide)
  have hc17T := lv_neT (k := 10) (a := 10) hc17 (by decide)
  have hc18T := lv_neT (k := 11) (a := 11) hc18 (by decide)
  refine q_tout hx 139 dX10_account_6 (by omega) (by decide) ?_
  refine q_aload_n hx dX10_account_139 0 rfl ?_
  refine q_iconst (v := 1) hx dX10_account_140 (by decide) ?_
  refine q_callVi (As := [.int 1]) (rest := []) hx q_kR0 (c_X10_no (q_Xl X) G x (q_up σ 292 4 0) 1) q_ml_X10_103 q_mn_X10_no q_mi_X10_no q_se_X10_no (by decide) rfl (Nat.le_of_ble_eq_true rfl) dX10_account_141 (q_ne kd_292 (by decide)) (q_e10 kd_292) rfl rfl rfl ?_
  cases h
  exact q_iret hx hr dX10_account_144
-- X10_undo
def f_X10_undo (σ : q_S) : Option (Int32 × q_S) :=
  if ((q_up σ 292 4 0) 292 5) = 0 then (some (((f_X10_no (q_up σ 292 4 0) 1).1, (f_X10_no (q_up σ 292 4 0) 1).2))) else (Option.bind (f_X10_copies (q_up (q_up σ 292 4 0) 292 5 (((q_up σ 292 4 0) 292 5) - 1)) 296 1760 (220 * ((q_up (q_up σ 292 4 0) 292 5 (((q_up σ 292 4 0) 292 5) - 1)) 292 5)) 293 220 0) (fun q2 => some ((q2 292 5, q2))))
set_option maxHeartbeats 4000000 in
set_option maxRecDepth 100000 in
theorem c_X10_undo (l : Launch) (G : q_G) (x : q_A) (σ : q_S)   {res : Int32 × q_S} (h : f_X10_undo σ = some res) : q_Met l yX10_undo cX10_undo 1 (some .int) 2 G [.ref (G.2.1 + 292)] σ x (q_Qi G x res.1 res.2) := by
  refine q_of (by decide) (Nat.le_of_ble_eq_true rfl) (fun X hl0 hx hr => ?_)
  subst hl0
  have hx : q_Cx X G RX10 cX10_undo 1 2 := hx
  unfold f_X10_undo at h
  show q_Wq X G x 1 (q_MQ X G (q_Qi G x res.1 res.2)) 0 0 0 [(0, .ref (G.2.1 + 292))] [] σ
  refine q_aload_n hx dX10_undo_0 0 rfl ?_
  refine q_iconst (v := 0) hx dX10_undo_1 (by decide) ?_
  refine q_put (v := 0) hx q_fl_X10_22 q_fp_10_4 dX10_undo_2 (q_ne kd_292 (by decide)) (q_e10 kd_292) (by rw [q_l10]; decide) rfl rfl (by rw [q_e10 kd_292, q_s10_4]) ?_
  refine q_aload_n hx dX10_undo_5 0 rfl ?_
  refine q_get (v := .int ((q_up σ 292 4 0) 292 5)) hx q_fl_X10_26 dX10_undo_6 (q_ne kd_292 (by decide)) (q_e10 kd_292) rfl ?_
  refine q_if_ne hx 18 dX10_undo_9 (by decide) (fun hc1 => ?_) (fun hc1 => ?_)
  · replace h := (if_neg hc1).symm.trans h
    refine q_aload_n hx dX10_undo_18 0 rfl ?_
    refine q_dup hx dX10_undo_19 rfl ?_
    refine q_get (v := .int ((q_up σ 292 4 0) 292 5)) hx q_fl_X10_26 dX10_undo_20 (q_ne kd_292 (by decide)) (q_e10 kd_292) rfl ?_
    refine q_iconst (v := 1) hx dX10_undo_23 (by decide) ?_
    refine q_isub hx dX10_undo_24 ?_
    refine q_put (v := ((q_up σ 292 4 0) 292 5) - 1) hx q_fl_X10_26 q_fp_10_5 dX10_undo_25 (q_ne kd_292 (by decide)) (q_e10 kd_292) (by rw [q_l10]; decide) rfl rfl (by rw [q_e10 kd_292, q_s10_5]) ?_
    refine q_aload_n hx dX10_undo_28 0 rfl ?_
    refine q_get (v := .ref (G.2.1 + 296)) hx q_fl_X10_19 dX10_undo_29 (q_ne kd_292 (by decide)) (q_e10 kd_292) rfl ?_
    refine q_sipush (v := 220) hx dX10_undo_32 (by decide) ?_
    refine q_aload_n hx dX10_undo_35 0 rfl ?_
    refine q_get (v := .int ((q_up (q_up σ 292 4 0) 292 5 (((q_up σ 292 4 0) 292 5) - 1)) 292 5)) hx q_fl_X10_26 dX10_undo_36 (q_ne kd_292 (by decide)) (q_e10 kd_292) rfl ?_
    refine q_imul hx dX10_undo_39 ?_
    refine q_aload_n hx dX10_undo_40 0 rfl ?_
    refine q_get (v := .ref (G.2.1 + 293)) hx q_fl_X10_7 dX10_undo_41 (q_ne kd_292 (by decide)) (q_e10 kd_292) rfl ?_
    refine q_iconst (v := 0) hx dX10_undo_44 (by decide) ?_
    refine q_bindE h (fun q2 hq2 h => ?_)
    refine q_callSv (As := [.ref (G.2.1 + 296), .int (220 * ((q_up (q_up σ 292 4 0) 292 5 (((q_up σ 292 4 0) 292 5) - 1)) 292 5)), .ref (G.2.1 + 293), .int 0]) (rest := []) hx q_kR0 (c_X10_copies (q_Xl X) G x (q_up (q_up σ 292 4 0) 292 5 (((q_up σ 292 4 0) 292 5) - 1)) 296 1760 (220 * ((q_up (q_up σ 292 4 0) 292 5 (((q_up σ 292 4 0) 292 5) - 1)) 292 5)) 293 220 0 kd_296 (by decide) kd_293 (by decide) hq2) q_ml_X10_107 q_mn_X10_copies q_ms_X10_copies (by decide) rfl (Nat.le_of_ble_eq_true rfl) dX10_undo_45 rfl ?_
    refine q_aload_n hx dX10_undo_48 0 rfl ?_
    refine q_get (v := .int (q2 292 5)) hx q_fl_X10_26 dX10_undo_49 (q_ne kd_292 (by decide)) (q_e10 kd_292) rfl ?_
    cases h
    exact q_iret hx hr dX10_undo_52
  · replace h := (if_pos hc1).symm.trans h
    refine q_aload_n hx dX10_undo_12 0 rfl ?_
    refine q_iconst (v := 1) hx dX10_undo_13 (by decide) ?_
    refine q_callVi (As := [.int 1]) (rest := []) hx q_kR0 (c_X10_no (q_Xl X) G x (q_up σ 292 4 0) 1) q_ml_X10_103 q_mn_X10_no q_mi_X10_no q_se_X10_no (by decide) rfl (Nat.le_of_ble_eq_true rfl) dX10_undo_14 (q_ne kd_292 (by decide)) (q_e10 kd_292) rfl rfl rfl ?_
    cases h
    exact q_iret hx hr dX10_undo_17
-- X10_save
def f_X10_save (σ : q_S) : Option (Int32 × q_S) :=
  Option.bind (f_X10_copies (q_up σ 292 4 0) 293 220 0 295 220 0) (fun q1 => some (((q_up q1 292 13 1) 293 0, q_up q1 292 13 1)))
set_option maxHeartbeats 4000000 in
set_option maxRecDepth 100000 in
theorem c_X10_save (l : Launch) (G : q_G) (x : q_A) (σ : q_S)   {res : Int32 × q_S} (h : f_X10_save σ = some res) : q_Met l yX10_save cX10_save 1 (some .int) 2 G [.ref (G.2.1 + 292)] σ x (q_Qi G x res.1 res.2) := by
  refine q_of (by decide) (Nat.le_of_ble_eq_true rfl) (fun X hl0 hx hr => ?_)
  subst hl0
  have hx : q_Cx X G RX10 cX10_save 1 2 := hx
  unfold f_X10_save at h
  show q_Wq X G x 1 (q_MQ X G (q_Qi G x res.1 res.2)) 0 0 0 [(0, .ref (G.2.1 + 292))] [] σ
  refine q_aload_n hx dX10_save_0 0 rfl ?_
  refine q_iconst (v := 0) hx dX10_save_1 (by decide) ?_
  refine q_put (v := 0) hx q_fl_X10_22 q_fp_10_4 dX10_save_2 (q_ne kd_292 (by decide)) (q_e10 kd_292) (by rw [q_l10]; decide) rfl rfl (by rw [q_e10 kd_292, q_s10_4]) ?_
  refine q_aload_n hx dX10_save_5 0 rfl ?_
  refine q_get (v := .ref (G.2.1 + 293)) hx q_fl_X10_7 dX10_save_6 (q_ne kd_292 (by decide)) (q_e10 kd_292) rfl ?_
  refine q_iconst (v := 0) hx dX10_save_9 (by decide) ?_
  refine q_aload_n hx dX10_save_10 0 rfl ?_
  refine q_get (v := .ref (G.2.1 + 295)) hx q_fl_X10_16 dX10_save_11 (q_ne kd_292 (by decide)) (q_e10 kd_292) rfl ?_
  refine q_iconst (v := 0) hx dX10_save_14 (by decide) ?_
  refine q_bindE h (fun q1 hq1 h => ?_)
  refine q_callSv (As := [.ref (G.2.1 + 293), .int 0, .ref (G.2.1 + 295), .int 0]) (rest := []) hx q_kR0 (c_X10_copies (q_Xl X) G x (q_up σ 292 4 0) 293 220 0 295 220 0 kd_293 (by decide) kd_295 (by decide) hq1) q_ml_X10_107 q_mn_X10_copies q_ms_X10_copies (by decide) rfl (Nat.le_of_ble_eq_true rfl) dX10_save_15 rfl ?_
  refine q_aload_n hx dX10_save_18 0 rfl ?_
  refine q_iconst (v := 1) hx dX10_save_19 (by decide) ?_
  refine q_put (v := 1) hx q_fl_X10_50 q_fp_10_13 dX10_save_20 (q_ne kd_292 (by decide)) (q_e10 kd_292) (by rw [q_l10]; decide) rfl rfl (by rw [q_e10 kd_292, q_s10_13]) ?_
  refine q_aload_n hx dX10_save_23 0 rfl ?_
  refine q_get (v := .ref (G.2.1 + 293)) hx q_fl_X10_7 dX10_save_24 (q_ne kd_292 (by decide)) (q_e10 kd_292) rfl ?_
  refine q_iconst (v := 0) hx dX10_save_27 (by decide) ?_
  refine q_ialdK (N := 220) hx 0 dX10_save_28 kd_293 (by decide) (by decide) (by decide) (by decide) ?_
  cases h
  exact q_iret hx hr dX10_save_29
-- X10_restore
def f_X10_restore (σ : q_S) : Option (Int32 × q_S) :=
  if ((q_up σ 292 4 0) 292 13) = 0 then (some (((f_X10_no (q_up σ 292 4 0) 1).1, (f_X10_no (q_up σ 292 4 0) 1).2))) else (Option.bind (f_X10_copies (q_up σ 292 4 0) 295 220 0 293 220 0) (fun q2 => some (((q_up q2 292 5 0) 293 0, q_up q2 292 5 0))))
set_option maxHeartbeats 4000000 in
set_option maxRecDepth 100000 in
theorem c_X10_restore (l : Launch) (G : q_G) (x : q_A) (σ : q_S)   {res : Int32 × q_S} (h : f_X10_restore σ = some res) : q_Met l yX10_restore cX10_restore 1 (some .int) 2 G [.ref (G.2.1 + 292)] σ x (q_Qi G x res.1 res.2) := by
  refine q_of (by decide) (Nat.le_of_ble_eq_true rfl) (fun X hl0 hx hr => ?_)
  subst hl0
  have hx : q_Cx X G RX10 cX10_restore 1 2 := hx
  unfold f_X10_restore at h
  show q_Wq X G x 1 (q_MQ X G (q_Qi G x res.1 res.2)) 0 0 0 [(0, .ref (G.2.1 + 292))] [] σ
  refine q_aload_n hx dX10_restore_0 0 rfl ?_
  refine q_iconst (v := 0) hx dX10_restore_1 (by decide) ?_
  refine q_put (v := 0) hx q_fl_X10_22 q_fp_10_4 dX10_restore_2 (q_ne kd_292 (by decide)) (q_e10 kd_292) (by rw [q_l10]; decide) rfl rfl (by rw [q_e10 kd_292, q_s10_4]) ?_
  refine q_aload_n hx dX10_restore_5 0 rfl ?_
  refine q_get (v := .int ((q_up σ 292 4 0) 292 13)) hx q_fl_X10_50 dX10_restore_6 (q_ne kd_292 (by decide)) (q_e10 kd_292) rfl ?_
  refine q_if_ne hx 18 dX10_restore_9 (by decide) (fun hc1 => ?_) (fun hc1 => ?_)
  · replace h := (if_neg hc1).symm.trans h
    refine q_aload_n hx dX10_restore_18 0 rfl ?_
    refine q_get (v := .ref (G.2.1 + 295)) hx q_fl_X10_16 dX10_restore_19 (q_ne kd_292 (by decide)) (q_e10 kd_292) rfl ?_
    refine q_iconst (v := 0) hx dX10_restore_22 (by decide) ?_
    refine q_aload_n hx dX10_restore_23 0 rfl ?_
    refine q_get (v := .ref (G.2.1 + 293)) hx q_fl_X10_7 dX10_restore_24 (q_ne kd_292 (by decide)) (q_e10 kd_292) rfl ?_
    refine q_iconst (v := 0) hx dX10_restore_27 (by decide) ?_
    refine q_bindE h (fun q2 hq2 h => ?_)
    refine q_callSv (As := [.ref (G.2.1 + 295), .int 0, .ref (G.2.1 + 293), .int 0]) (rest := []) hx q_kR0 (c_X10_copies (q_Xl X) G x (q_up σ 292 4 0) 295 220 0 293 220 0 kd_295 (by decide) kd_293 (by decide) hq2) q_ml_X10_107 q_mn_X10_copies q_ms_X10_copies (by decide) rfl (Nat.le_of_ble_eq_true rfl) dX10_restore_28 rfl ?_
    refine q_aload_n hx dX10_restore_31 0 rfl ?_
    refine q_iconst (v := 0) hx dX10_restore_32 (by decide) ?_
    refine q_put (v := 0) hx q_fl_X10_26 q_fp_10_5 dX10_restore_33 (q_ne kd_292 (by decide)) (q_e10 kd_292) (by rw [q_l10]; decide) rfl rfl (by rw [q_e10 kd_292, q_s10_5]) ?_
    refine q_aload_n hx dX10_restore_36 0 rfl ?_
    refine q_get (v := .ref (G.2.1 + 293)) hx q_fl_X10_7 dX10_restore_37 (q_ne kd_292 (by decide)) (q_e10 kd_292) rfl ?_
    refine q_iconst (v := 0) hx dX10_restore_40 (by decide) ?_
    refine q_ialdK (N := 220) hx 0 dX10_restore_41 kd_293 (by decide) (by decide) (by decide) (by decide) ?_
    cases h
    exact q_iret hx hr dX10_restore_42
  · replace h := (if_pos hc1).symm.trans h
    refine q_aload_n hx dX10_restore_12 0 rfl ?_
    refine q_iconst (v := 1) hx dX10_restore_13 (by decide) ?_
    refine q_callVi (As := [.int 1]) (rest := []) hx q_kR0 (c_X10_no (q_Xl X) G x (q_up σ 292 4 0) 1) q_ml_X10_103 q_mn_X10_no q_mi_X10_no q_se_X10_no (by decide) rfl (Nat.le_of_ble_eq_true rfl) dX10_restore_14 (q_ne kd_292 (by decide)) (q_e10 kd_292) rfl rfl rfl ?_
    cases h
    exact q_iret hx hr dX10_restore_17
