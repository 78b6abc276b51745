theorem q_dc0 {a : UInt64} (h : q_n64 a = true) : Op.cmpValue (FP.dcmp a a) .l = 0 := by
  have h1 : a &&& 0x7fffffffffffffff ≤ 0x7ff0000000000000 := q_n64.v h
  have h2 : FP.dIsNaN a = false := by
    refine Bool.eq_false_iff.mpr (fun hq => ?_)
    rw [FP.Core.isNaN_bits] at hq
    have h3 := UInt64.le_iff_toNat_le.mp h1
    rw [FP.Core.mask_toNat] at h3
    have h4 : (0x7ff0000000000000 : UInt64).toNat = 9218868437227405312 := rfl
    omega
  rw [show FP.dcmp a a = some .eq from FP.Core.dcmp_refl h2]
  rfl
set_option maxHeartbeats 4000000 in
set_option maxRecDepth 100000 in
theorem w_case_0 {X : q_X} {G : q_G} {x : q_A} {Q : State → Prop} {k n b L i : Nat} {xs : Nat → Int32} {σ τ υ : q_S} {e : Nat} {v w : Int32} (hx : q_Cx X G RL cL_law 10 20) (hNc : q_NcX X) (hs : q_Sc X G b L xs) (hkR : q_kR X (k + 1) (n + 6)) (hfl : (q_Xl X).stackTraces = false) (hiL : i + 4 ≤ L) (hL : L ≤ 2048) (h1 : f_X9_sleeper σ (xs (i + 1)) = some (e, v, τ)) (he : e = 0 ∨ e = 2 ∨ e = 3) (h2 : f_X10_sleeper τ (xs (i + 1)) = some (w, υ)) (h3 : f_X10_thrown υ = q_cd [2, 3] e) (h4 : e = 0 → v = w) (kk : ∀ x : q_A, q_Wq X G x 10 Q (k + 1) (n + 6) 2353 [(0, .ref b), (1, .ref (G.2.1 + 0)), (2, .ref (G.2.1 + 292)), (3, .ref (G.2.1 + 303)), (4, .ref (G.2.1 + 304)), (5, .int (Int32.ofNat i))] [] υ) : q_Wq X G x 10 Q k n 204 [(0, .ref b), (1, .ref (G.2.1 + 0)), (2, .ref (G.2.1 + 292)), (3, .ref (G.2.1 + 303)), (4, .ref (G.2.1 + 304)), (5, .int (Int32.ofNat i))] [] σ := by
  refine q_aload_n hx dL_law_204 1 rfl ?_
  refine q_aload_n hx dL_law_205 0 rfl ?_
  refine q_iload hx dL_law_206 5 rfl ?_
  refine q_iconst (v := 1) hx dL_law_208 (by decide) ?_
  refine q_iadd hx dL_law_209 ?_
  refine q_sld (j := i + 1) hx hs (q_ixc (c := 1) (by omega)).1 (q_ixc (c := 1) (by omega)).2 (by omega) dL_law_210 ?_
  refine q_aload_n hx dL_law_211 3 rfl ?_
  refine q_callW (np := 3) (As := [.ref (G.2.1 + 0), .int (xs (i + 1)), .ref (G.2.1 + 303)]) (rest := []) hx hNc hkR (c_L_sleeper (q_Xl X) G x σ (xs (i + 1)) h1 he hfl) q_lml_134 q_lcw_sleeper q_lin (by decide) (by decide) (by decide) q_lst_sleeper (by decide) rfl (Nat.le_of_ble_eq_true rfl) dL_law_212 rfl ?_
  refine q_istore hx [(6, .int (q_cd [2, 3] e)), (0, .ref b), (1, .ref (G.2.1 + 0)), (2, .ref (G.2.1 + 292)), (3, .ref (G.2.1 + 303)), (4, .ref (G.2.1 + 304)), (5, .int (Int32.ofNat i))] dL_law_215 (by decide) rfl ?_
  refine q_aload_n hx dL_law_217 3 rfl ?_
  refine q_aload_n hx dL_law_218 1 rfl ?_
  refine q_iload hx dL_law_219 6 rfl ?_
  refine q_iconst (v := 1) hx dL_law_221 (by decide) ?_
  refine q_iadd hx dL_law_222 ?_
  refine q_sld (j := i + 1) hx hs (q_ixc (c := 1) (by omega)).1 (q_ixc (c := 1) (by omega)).2 (by omega) dL_law_223 ?_
  refine q_callVi (As := [.int (xs (i + 1))]) (rest := []) hx (q_kR_le hkR (by omega) (by omega)) (c_X10_sleeper (q_Xl X) G (if e = 0 then (v.toInt64, x.2) else x) τ ((xs (i + 1))) h2) q_lmv_139 q_mn_X10_sleeper q_mi_X10_sleeper q_se_X10_sleeper (by decide) rfl (Nat.le_of_ble_eq_true rfl) dL_law_224 (q_ne kd_292 (by decide)) (q_e10 kd_292) rfl rfl rfl ?_
  refine q_istore hx [(7, .int w), (6, .int (q_cd [2, 3] e)), (0, .ref b), (1, .ref (G.2.1 + 0)), (2, .ref (G.2.1 + 292)), (3, .ref (G.2.1 + 303)), (4, .ref (G.2.1 + 304)), (5, .int (Int32.ofNat i))] dL_law_227 (by decide) rfl ?_
  refine q_aload_n hx dL_law_229 4 rfl ?_
  refine q_callVi (As := []) (rest := []) hx (q_kR_le hkR (by omega) (by omega)) (c_X10_thrown (q_Xl X) G (if e = 0 then (v.toInt64, x.2) else x) υ) q_lmv_140 q_mn_X10_thrown q_mi_X10_thrown q_se_X10_thrown (by decide) rfl (Nat.le_of_ble_eq_true rfl) dL_law_230 (q_ne kd_292 (by decide)) (q_e10 kd_292) rfl rfl rfl ?_
  refine q_iload hx dL_law_233 1 rfl ?_
  refine q_icmp_eq hx 240 dL_law_235 (by decide) (fun _ => ?_) (fun hn => absurd h3 hn)
  refine q_iload hx dL_law_240 1 rfl ?_
  have hz : q_cd [2, 3] e = 0 → e = 0 := by
    rcases he with rfl | rfl | rfl <;> intro hq <;> first | rfl | exact absurd hq (by decide)
  refine q_if_ne hx 257 dL_law_242 (by decide) (fun _ => ?_) (fun he0 => ?_)
  · skip
    refine q_goto hx 2353 dL_law_257 (by decide) ?_
    refine q_sub [2, 3, 4, 5, 6, 7] rfl ?_
    exact kk _
  replace he0 := hz he0
  refine q_aload_n hx dL_law_245 5 rfl ?_
  refine q_iconst (v := 0) hx dL_law_246 (by decide) ?_
  refine q_lald hx dL_law_247 ?_
  refine q_iload hx dL_law_248 0 rfl ?_
  refine q_i2l hx dL_law_250 ?_
  refine q_lcmp hx dL_law_251 ?_
  refine q_if_eq hx 257 dL_law_252 (by decide) (fun _ => ?_) (fun hn => absurd (q_cmp0 (by rw [if_pos he0, h4 he0])) hn)
  refine q_goto hx 2353 dL_law_257 (by decide) ?_
  refine q_sub [2, 3, 4, 5, 6, 7] rfl ?_
  exact kk _
set_option maxHeartbeats 4000000 in
set_option maxRecDepth 100000 in
theorem w_case_1 {X : q_X} {G : q_G} {x : q_A} {Q : State → Prop} {k n b L i : Nat} {xs : Nat → Int32} {σ τ υ : q_S} {e : Nat} {v w : Int32} (hx : q_Cx X G RL cL_law 10 20) (hNc : q_NcX X) (hs : q_Sc X G b L xs) (hkR : q_kR X (k + 1) (n + 6)) (hfl : (q_Xl X).stackTraces = false) (hiL : i + 4 ≤ L) (hL : L ≤ 2048) (h1 : f_X9_peg σ (xs (i + 1)) (xs (i + 2)) (xs (i + 3)) = some (e, v, τ)) (he : e = 0 ∨ e = 1 ∨ e = 2 ∨ e = 3) (h2 : f_X10_peg τ (xs (i + 1)) (xs (i + 2)) (xs (i + 3)) = some (w, υ)) (h3 : f_X10_thrown υ = q_cd [1, 2, 3] e) (h4 : e = 0 → v = w) (kk : ∀ x : q_A, q_Wq X G x 10 Q (k + 1) (n + 6) 2353 [(0, .ref b), (1, .ref (G.2.1 + 0)), (2, .ref (G.2.1 + 292)), (3, .ref (G.2.1 + 303)), (4, .ref (G.2.1 + 304)), (5, .int (Int32.ofNat i))] [] υ) : q_Wq X G x 10 Q k n 260 [(0, .ref b), (1, .ref (G.2.1 + 0)), (2, .ref (G.2.1 + 292)), (3, .ref (G.2.1 + 303)), (4, .ref (G.2.1 + 304)), (5, .int (Int32.ofNat i))] [] σ := by
  refine q_aload_n hx dL_law_260 1 rfl ?_
  refine q_aload_n hx dL_law_261 0 rfl ?_
  refine q_iload hx dL_law_262 5 rfl ?_
  refine q_iconst (v := 1) hx dL_law_264 (by decide) ?_
  refine q_iadd hx dL_law_265 ?_
  refine q_sld (j := i + 1) hx hs (q_ixc (c := 1) (by omega)).1 (q_ixc (c := 1) (by omega)).2 (by omega) dL_law_266 ?_
  refine q_aload_n hx dL_law_267 0 rfl ?_
  refine q_iload hx dL_law_268 5 rfl ?_
  refine q_iconst (v := 2) hx dL_law_270 (by decide) ?_
  refine q_iadd hx dL_law_271 ?_
  refine q_sld (j := i + 2) hx hs (q_ixc (c := 2) (by omega)).1 (q_ixc (c := 2) (by omega)).2 (by omega) dL_law_272 ?_
  refine q_aload_n hx dL_law_273 0 rfl ?_
  refine q_iload hx dL_law_274 5 rfl ?_
  refine q_iconst (v := 3) hx dL_law_276 (by decide) ?_
  refine q_iadd hx dL_law_277 ?_
  refine q_sld (j := i + 3) hx hs (q_ixc (c := 3) (by omega)).1 (q_ixc (c := 3) (by omega)).2 (by omega) dL_law_278 ?_
  refine q_aload_n hx dL_law_279 3 rfl ?_
  refine q_callW (np := 5) (As := [.ref (G.2.1 + 0), .int (xs (i + 1)), .int (xs (i + 2)), .int (xs (i + 3)), .ref (G.2.1 + 303)]) (rest := []) hx hNc hkR (c_L_peg (q_Xl X) G x σ (xs (i + 1)) (xs (i + 2)) (xs (i + 3)) h1 he hfl) q_lml_143 q_lcw_peg q_lin (by decide) (by decide) (by decide) q_lst_peg (by decide) rfl (Nat.le_of_ble_eq_true rfl) dL_law_280 rfl ?_
  refine q_istore hx [(6, .int (q_cd [1, 2, 3] e)), (0, .ref b), (1, .ref (G.2.1 + 0)), (2, .ref (G.2.1 + 292)), (3, .ref (G.2.1 + 303)), (4, .ref (G.2.1 + 304)), (5, .int (Int32.ofNat i))] dL_law_283 (by decide) rfl ?_
  refine q_aload_n hx dL_law_285 3 rfl ?_
  refine q_aload_n hx dL_law_286 1 rfl ?_
  refine q_iload hx dL_law_287 6 rfl ?_
  refine q_iconst (v := 1) hx dL_law_289 (by decide) ?_
  refine q_iadd hx dL_law_290 ?_
  refine q_sld (j := i + 1) hx hs (q_ixc (c := 1) (by omega)).1 (q_ixc (c := 1) (by omega)).2 (by omega) dL_law_291 ?_
  refine q_aload_n hx dL_law_292 1 rfl ?_
  refine q_iload hx dL_law_293 6 rfl ?_
  refine q_iconst (v := 2) hx dL_law_295 (by decide) ?_
  refine q_iadd hx dL_law_296 ?_
  refine q_sld (j := i + 2) hx hs (q_ixc (c := 2) (by omega)).1 (q_ixc (c := 2) (by omega)).2 (by omega) dL_law_297 ?_
  refine q_aload_n hx dL_law_298 1 rfl ?_
  refine q_iload hx dL_law_299 6 rfl ?_
  refine q_iconst (v := 3) hx dL_law_301 (by decide) ?_
  refine q_iadd hx dL_law_302 ?_
  refine q_sld (j := i + 3) hx hs (q_ixc (c := 3) (by omega)).1 (q_ixc (c := 3) (by omega)).2 (by omega) dL_law_303 ?_
  refine q_callVi (As := [.int (xs (i + 1)), .int (xs (i + 2)), .int (xs (i + 3))]) (rest := []) hx (q_kR_le hkR (by omega) (by omega)) (c_X10_peg (q_Xl X) G (if e = 0 then (v.toInt64, x.2) else x) τ ((xs (i + 1))) ((xs (i + 2))) ((xs (i + 3))) h2) q_lmv_146 q_mn_X10_peg q_mi_X10_peg q_se_X10_peg (by decide) rfl (Nat.le_of_ble_eq_true rfl) dL_law_304 (q_ne kd_292 (by decide)) (q_e10 kd_292) rfl rfl rfl ?_
  refine q_istore hx [(7, .int w), (6, .int (q_cd [1, 2, 3] e)), (0, .ref b), (1, .ref (G.2.1 + 0)), (2, .ref (G.2.1 + 292)), (3, .ref (G.2.1 + 303)), (4, .ref (G.2.1 + 304)), (5, .int (Int32.ofNat i))] dL_law_307 (by decide) rfl ?_
  refine q_aload_n hx dL_law_309 4 rfl ?_
  refine q_callVi (As := []) (rest := []) hx (q_kR_le hkR (by omega) (by omega)) (c_X10_thrown (q_Xl X) G (if e = 0 then (v.toInt64, x.2) else x) υ) q_lmv_140 q_mn_X10_thrown q_mi_X10_thrown q_se_X10_thrown (by decide) rfl (Nat.le_of_ble_eq_true rfl) dL_law_310 (q_ne kd_292 (by decide)) (q_e10 kd_292) rfl rfl rfl ?_
  refine q_iload hx dL_law_313 1 rfl ?_
  refine q_icmp_eq hx 320 dL_law_315 (by decide) (fun _ => ?_) (fun hn => absurd h3 hn)
  refine q_iload hx dL_law_320 1 rfl ?_
  have hz : q_cd [1, 2, 3] e = 0 → e = 0 := by
    rcases he with rfl | rfl | rfl | rfl <;> intro hq <;> first | rfl | exact absurd hq (by decide)
  refine q_if_ne hx 337 dL_law_322 (by decide) (fun _ => ?_) (fun he0 => ?_)
  · skip
    refine q_goto hx 2353 dL_law_337 (by decide) ?_
    refine q_sub [2, 3, 4, 5, 6, 7] rfl ?_
    exact kk _
  replace he0 := hz he0
  refine q_aload_n hx dL_law_325 5 rfl ?_
  refine q_iconst (v := 0) hx dL_law_326 (by decide) ?_
  refine q_lald hx dL_law_327 ?_
  refine q_iload hx dL_law_328 0 rfl ?_
  refine q_i2l hx dL_law_330 ?_
  refine q_lcmp hx dL_law_331 ?_
  refine q_if_eq hx 337 dL_law_332 (by decide) (fun _ => ?_) (fun hn => absurd (q_cmp0 (by rw [if_pos he0, h4 he0])) hn)
  refine q_goto hx 2353 dL_law_337 (by decide) ?_
  refine q_sub [2, 3, 4, 5, 6, 7] rfl ?_
  exact kk _
set_option maxHeartbeats 4000000 in
set_option maxRecDepth 100000 in
theorem w_case_2 {X : q_X} {G : q_G} {x : q_A} {Q : State → Prop} {k n b L i : Nat} {xs : Nat → Int32} {σ τ υ : q_S} {e : Nat} {v w : Int32} (hx : q_Cx X G RL cL_law 10 20) (hNc : q_NcX X) (hs : q_Sc X G b L xs) (hkR : q_kR X (k + 1) (n + 6)) (hfl : (q_Xl X).stackTraces = false) (hiL : i + 4 ≤ L) (hL : L ≤ 2048) (h1 : f_X9_plot σ (xs (i + 1)) (xs (i + 2)) (xs (i + 3)) = some (e, v, τ)) (he : e = 0 ∨ e = 1 ∨ e = 3) (h2 : f_X10_plot τ (xs (i + 1)) (xs (i + 2)) (xs (i + 3)) = some (w, υ)) (h3 : f_X10_thrown υ = q_cd [1, 3] e) (h4 : e = 0 → v = w) (kk : ∀ x : q_A, q_Wq X G x 10 Q (k + 1) (n + 6) 2353 [(0, .ref b), (1, .ref (G.2.1 + 0)), (2, .ref (G.2.1 + 292)), (3, .ref (G.2.1 + 303)), (4, .ref (G.2.1 + 304)), (5, .int (Int32.ofNat i))] [] υ) : q_Wq X G x 10 Q k n 340 [(0, .ref b), (1, .ref (G.2.1 + 0)), (2, .ref (G.2.1 + 292)), (3, .ref (G.2.1 + 303)), (4, .ref (G.2.1 + 304)), (5, .int (Int32.ofNat i))] [] σ := by
  refine q_aload_n hx dL_law_340 1 rfl ?_
  refine q_aload_n hx dL_law_341 0 rfl ?_
  refine q_iload hx dL_law_342 5 rfl ?_
  refine q_iconst (v := 1) hx dL_law_344 (by decide) ?_
  refine q_iadd hx dL_law_345 ?_
  refine q_sld (j := i + 1) hx hs (q_ixc (c := 1) (by omega)).1 (q_ixc (c := 1) (by omega)).2 (by omega) dL_law_346 ?_
  refine q_aload_n hx dL_law_347 0 rfl ?_
  refine q_iload hx dL_law_348 5 rfl ?_
  refine q_iconst (v := 2) hx dL_law_350 (by decide) ?_
  refine q_iadd hx dL_law_351 ?_
  refine q_sld (j := i + 2) hx hs (q_ixc (c := 2) (by omega)).1 (q_ixc (c := 2) (by omega)).2 (by omega) dL_law_352 ?_
  refine q_aload_n hx dL_law_353 0 rfl ?_
  refine q_iload hx dL_law_354 5 rfl ?_
  refine q_iconst (v := 3) hx dL_law_356 (by decide) ?_
  refine q_iadd hx dL_law_357 ?_
  refine q_sld (j := i + 3) hx hs (q_ixc (c := 3) (by omega)).1 (q_ixc (c := 3) (by omega)).2 (by omega) dL_law_358 ?_
  refine q_aload_n hx dL_law_359 3 rfl ?_
  refine q_callW (np := 5) (As := [.ref (G.2.1 + 0), .int (xs (i + 1)), .int (xs (i + 2)), .int (xs (i + 3)), .ref (G.2.1 + 303)]) (rest := []) hx hNc hkR (c_L_plot (q_Xl X) G x σ (xs (i + 1)) (xs (i + 2)) (xs (i + 3)) h1 he hfl) q_lml_147 q_lcw_plot q_lin (by decide) (by decide) (by decide) q_lst_plot (by decide) rfl (Nat.le_of_ble_eq_true rfl) dL_law_360 rfl ?_
  refine q_istore hx [(6, .int (q_cd [1, 3] e)), (0, .ref b), (1, .ref (G.2.1 + 0)), (2, .ref (G.2.1 + 292)), (3, .ref (G.2.1 + 303)), (4, .ref (G.2.1 + 304)), (5, .int (Int32.ofNat i))] dL_law_363 (by decide) rfl ?_
  refine q_aload_n hx dL_law_365 3 rfl ?_
  refine q_aload_n hx dL_law_366 1 rfl ?_
  refine q_iload hx dL_law_367 6 rfl ?_
  refine q_iconst (v := 1) hx dL_law_369 (by decide) ?_
  refine q_iadd hx dL_law_370 ?_
  refine q_sld (j := i + 1) hx hs (q_ixc (c := 1) (by omega)).1 (q_ixc (c := 1) (by omega)).2 (by omega) dL_law_371 ?_
  refine q_aload_n hx dL_law_372 1 rfl ?_
  refine q_iload hx dL_law_373 6 rfl ?_
  refine q_iconst (v := 2) hx dL_law_375 (by decide) ?_
  refine q_iadd hx dL_law_376 ?_
  refine q_sld (j := i + 2) hx hs (q_ixc (c := 2) (by omega)).1 (q_ixc (c := 2) (by omega)).2 (by omega) dL_law_377 ?_
  refine q_aload_n hx dL_law_378 1 rfl ?_
  refine q_iload hx dL_law_379 6 rfl ?_
  refine q_iconst (v := 3) hx dL_law_381 (by decide) ?_
  refine q_iadd hx dL_law_382 ?_
  refine q_sld (j := i + 3) hx hs (q_ixc (c := 3) (by omega)).1 (q_ixc (c := 3) (by omega)).2 (by omega) dL_law_383 ?_
  refine q_callVi (As := [.int (xs (i + 1)), .int (xs (i + 2)), .int (xs (i + 3))]) (rest := []) hx (q_kR_le hkR (by omega) (by omega)) (c_X10_plot (q_Xl X) G (if e = 0 then (v.toInt64, x.2) else x) τ ((xs (i + 1))) ((xs (i + 2))) ((xs (i + 3))) h2) q_lmv_149 q_mn_X10_plot q_mi_X10_plot q_se_X10_plot (by decide) rfl (Nat.le_of_ble_eq_true rfl) dL_law_384 (q_ne kd_292 (by decide)) (q_e10 kd_292) rfl rfl rfl ?_
  refine q_istore hx [(7, .int w), (6, .int (q_cd [1, 3] e)), (0, .ref b), (1, .ref (G.2.1 + 0)), (2, .ref (G.2.1 + 292)), (3, .ref (G.2.1 + 303)), (4, .ref (G.2.1 + 304)), (5, .int (Int32.ofNat i))] dL_law_387 (by decide) rfl ?_
  refine q_aload_n hx dL_law_389 4 rfl ?_
  refine q_callVi (As := []) (rest := []) hx (q_kR_le hkR (by omega) (by omega)) (c_X10_thrown (q_Xl X) G (if e = 0 then (v.toInt64, x.2) else x) υ) q_lmv_140 q_mn_X10_thrown q_mi_X10_thrown q_se_X10_thrown (by decide) rfl (Nat.le_of_ble_eq_true rfl) dL_law_390 (q_ne kd_292 (by decide)) (q_e10 kd_292) rfl rfl rfl ?_
  refine q_iload hx dL_law_393 1 rfl ?_
  refine q_icmp_eq hx 400 dL_law_395 (by decide) (fun _ => ?_) (fun hn => absurd h3 hn)
  refine q_iload hx dL_law_400 1 rfl ?_
  have hz : q_cd [1, 3] e = 0 → e = 0 := by
    rcases he with rfl | rfl | rfl <;> intro hq <;> first | rfl | exact absurd hq (by decide)
  refine q_if_ne hx 417 dL_law_402 (by decide) (fun _ => ?_) (fun he0 => ?_)
  · skip
    refine q_goto hx 2353 dL_law_417 (by decide) ?_
    refine q_sub [2, 3, 4, 5, 6, 7] rfl ?_
    exact kk _
  replace he0 := hz he0
  refine q_aload_n hx dL_law_405 5 rfl ?_
  refine q_iconst (v := 0) hx dL_law_406 (by decide) ?_
  refine q_lald hx dL_law_407 ?_
  refine q_iload hx dL_law_408 0 rfl ?_
  refine q_i2l hx dL_law_410 ?_
  refine q_lcmp hx dL_law_411 ?_
  refine q_if_eq hx 417 dL_law_412 (by decide) (fun _ => ?_) (fun hn => absurd (q_cmp0 (by rw [if_pos he0, h4 he0])) hn)
  refine q_goto hx 2353 dL_law_417 (by decide) ?_
  refine q_sub [2, 3, 4, 5, 6, 7] rfl ?_
  exact kk _
set_option maxHeartbeats 4000000 in
set_option maxRecDepth 100000 in
theorem w_case_3 {X : q_X} {G : q_G} {x : q_A} {Q : State → Prop} {k n b L i : Nat} {xs : Nat → Int32} {σ τ υ : q_S} {e : Nat} {v w : Int32} (hx : q_Cx X G RL cL_law 10 20) (hNc : q_NcX X) (hs : q_Sc X G b L xs) (hkR : q_kR X (k + 1) (n + 6)) (hfl : (q_Xl X).stackTraces = false) (hiL : i + 4 ≤ L) (hL : L ≤ 2048) (h1 : f_X9_chain σ (xs (i + 1)) (((xs (i + 2)).toUInt32 % 65536).toInt32) (xs (i + 3)) = some (e, v, τ)) (he : e = 0 ∨ e = 1 ∨ e = 2 ∨ e = 3) (h2 : f_X10_chain τ (xs (i + 1)) (((xs (i + 2)).toUInt32 % 65536).toInt32) (xs (i + 3)) = some (w, υ)) (h3 : f_X10_thrown υ = q_cd [1, 2, 3] e) (h4 : e = 0 → v = w) (kk : ∀ x : q_A, q_Wq X G x 10 Q (k + 1) (n + 6) 2353 [(0, .ref b), (1, .ref (G.2.1 + 0)), (2, .ref (G.2.1 + 292)), (3, .ref (G.2.1 + 303)), (4, .ref (G.2.1 + 304)), (5, .int (Int32.ofNat i))] [] υ) : q_Wq X G x 10 Q k n 420 [(0, .ref b), (1, .ref (G.2.1 + 0)), (2, .ref (G.2.1 + 292)), (3, .ref (G.2.1 + 303)), (4, .ref (G.2.1 + 304)), (5, .int (Int32.ofNat i))] [] σ := by
  refine q_aload_n hx dL_law_420 1 rfl ?_
  refine q_aload_n hx dL_law_421 0 rfl ?_
  refine q_iload hx dL_law_422 5 rfl ?_
  refine q_iconst (v := 1) hx dL_law_424 (by decide) ?_
  refine q_iadd hx dL_law_425 ?_
  refine q_sld (j := i + 1) hx hs (q_ixc (c := 1) (by omega)).1 (q_ixc (c := 1) (by omega)).2 (by omega) dL_law_426 ?_
  refine q_aload_n hx dL_law_427 0 rfl ?_
  refine q_iload hx dL_law_428 5 rfl ?_
  refine q_iconst (v := 2) hx dL_law_430 (by decide) ?_
  refine q_iadd hx dL_law_431 ?_
  refine q_sld (j := i + 2) hx hs (q_ixc (c := 2) (by omega)).1 (q_ixc (c := 2) (by omega)).2 (by omega) dL_law_432 ?_
  refine q_i2c hx dL_law_433 ?_
  refine q_aload_n hx dL_law_434 0 rfl ?_
  refine q_iload hx dL_law_435 5 rfl ?_
  refine q_iconst (v := 3) hx dL_law_437 (by decide) ?_
  refine q_iadd hx dL_law_438 ?_
  refine q_sld (j := i + 3) hx hs (q_ixc (c := 3) (by omega)).1 (q_ixc (c := 3) (by omega)).2 (by omega) dL_law_439 ?_
  refine q_aload_n hx dL_law_440 3 rfl ?_
  refine q_callW (np := 5) (As := [.ref (G.2.1 + 0), .int (xs (i + 1)), .int ((xs (i + 2)).toUInt32 % 65536).toInt32, .int (xs (i + 3)), .ref (G.2.1 + 303)]) (rest := []) hx hNc hkR (c_L_chain (q_Xl X) G x σ (xs (i + 1)) (((xs (i + 2)).toUInt32 % 65536).toInt32) (xs (i + 3)) h1 he hfl) q_lml_150 q_lcw_chain q_lin (by decide) (by decide) (by decide) q_lst_chain (by decide) rfl (Nat.le_of_ble_eq_true rfl) dL_law_441 rfl ?_
  refine q_istore hx [(6, .int (q_cd [1, 2, 3] e)), (0, .ref b), (1, .ref (G.2.1 + 0)), (2, .ref (G.2.1 + 292)), (3, .ref (G.2.1 + 303)), (4, .ref (G.2.1 + 304)), (5, .int (Int32.ofNat i))] dL_law_444 (by decide) rfl ?_
  refine q_aload_n hx dL_law_446 3 rfl ?_
  refine q_aload_n hx dL_law_447 1 rfl ?_
  refine q_iload hx dL_law_448 6 rfl ?_
  refine q_iconst (v := 1) hx dL_law_450 (by decide) ?_
  refine q_iadd hx dL_law_451 ?_
  refine q_sld (j := i + 1) hx hs (q_ixc (c := 1) (by omega)).1 (q_ixc (c := 1) (by omega)).2 (by omega) dL_law_452 ?_
  refine q_aload_n hx dL_law_453 1 rfl ?_
  refine q_iload hx dL_law_454 6 rfl ?_
  refine q_iconst (v := 2) hx dL_law_456 (by decide) ?_
  refine q_iadd hx dL_law_457 ?_
  refine q_sld (j := i + 2) hx hs (q_ixc (c := 2) (by omega)).1 (q_ixc (c := 2) (by omega)).2 (by omega) dL_law_458 ?_
  refine q_i2c hx dL_law_459 ?_
  refine q_aload_n hx dL_law_460 1 rfl ?_
  refine q_iload hx dL_law_461 6 rfl ?_
  refine q_iconst (v := 3) hx dL_law_463 (by decide) ?_
  refine q_iadd hx dL_law_464 ?_
  refine q_sld (j := i + 3) hx hs (q_ixc (c := 3) (by omega)).1 (q_ixc (c := 3) (by omega)).2 (by omega) dL_law_465 ?_
  refine q_callVi (As := [.int (xs (i + 1)), .int ((xs (i + 2)).toUInt32 % 65536).toInt32, .int (xs (i + 3))]) (rest := []) hx (q_kR_le hkR (by omega) (by omega)) (c_X10_chain (q_Xl X) G (if e = 0 then (v.toInt64, x.2) else x) τ ((xs (i + 1))) (((xs (i + 2)).toUInt32 % 65536).toInt32) ((xs (i + 3))) h2) q_lmv_153 q_mn_X10_chain q_mi_X10_chain q_se_X10_chain (by decide) rfl (Nat.le_of_ble_eq_true rfl) dL_law_466 (q_ne kd_292 (by decide)) (q_e10 kd_292) rfl rfl rfl ?_
  refine q_istore hx [(7, .int w), (6, .int (q_cd [1, 2, 3] e)), (0, .ref b), (1, .ref (G.2.1 + 0)), (2, .ref (G.2.1 + 292)), (3, .ref (G.2.1 + 303)), (4, .ref (G.2.1 + 304)), (5, .int (Int32.ofNat i))] dL_law_469 (by decide) rfl ?_
  refine q_aload_n hx dL_law_471 4 rfl ?_
  refine q_callVi (As := []) (rest := []) hx (q_kR_le hkR (by omega) (by omega)) (c_X10_thrown (q_Xl X) G (if e = 0 then (v.toInt64, x.2) else x) υ) q_lmv_140 q_mn_X10_thrown q_mi_X10_thrown q_se_X10_thrown (by decide) rfl (Nat.le_of_ble_eq_true rfl) dL_law_472 (q_ne kd_292 (by decide)) (q_e10 kd_292) rfl rfl rfl ?_
  refine q_iload hx dL_law_475 1 rfl ?_
  refine q_icmp_eq hx 482 dL_law_477 (by decide) (fun _ => ?_) (fun hn => absurd h3 hn)
  refine q_iload hx dL_law_482 1 rfl ?_
  have hz : q_cd [1, 2, 3] e = 0 → e = 0 := by
    rcases he with rfl | rfl | rfl | rfl <;> intro hq <;> first | rfl | exact absurd hq (by decide)
  refine q_if_ne hx 499 dL_law_484 (by decide) (fun _ => ?_) (fun he0 => ?_)
  · skip
    refine q_goto hx 2353 dL_law_499 (by decide) ?_
    refine q_sub [2, 3, 4, 5, 6, 7] rfl ?_
    exact kk _
  replace he0 := hz he0
  refine q_aload_n hx dL_law_487 5 rfl ?_
  refine q_iconst (v := 0) hx dL_law_488 (by decide) ?_
  refine q_lald hx dL_law_489 ?_
  refine q_iload hx dL_law_490 0 rfl ?_
  refine q_i2l hx dL_law_492 ?_
  refine q_lcmp hx dL_law_493 ?_
  refine q_if_eq hx 499 dL_law_494 (by decide) (fun _ => ?_) (fun hn => absurd (q_cmp0 (by rw [if_pos he0, h4 he0])) hn)
  refine q_goto hx 2353 dL_law_499 (by decide) ?_
  refine q_sub [2, 3, 4, 5, 6, 7] rfl ?_
  exact kk _
set_option maxHeartbeats 4000000 in
set_option maxRecDepth 100000 in
theorem w_case_4 {X : q_X} {G : q_G} {x : q_A} {Q : State → Prop} {k n b L i : Nat} {xs : Nat → Int32} {σ τ υ : q_S} {e : Nat} {v w : Int32} (hx : q_Cx X G RL cL_law 10 20) (hNc : q_NcX X) (hs : q_Sc X G b L xs) (hkR : q_kR X (k + 1) (n + 6)) (hfl : (q_Xl X).stackTraces = false) (hiL : i + 4 ≤ L) (hL : L ≤ 2048) (h1 : f_X9_bend σ (xs (i + 1)) (xs (i + 2)) (xs (i + 3)) = some (e, v, τ)) (he : e = 0 ∨ e = 1 ∨ e = 2 ∨ e = 3) (h2 : f_X10_bend τ (xs (i + 1)) (xs (i + 2)) (xs (i + 3)) = some (w, υ)) (h3 : f_X10_thrown υ = q_cd [1, 2, 3] e) (h4 : e = 0 → v = w) (kk : ∀ x : q_A, q_Wq X G x 10 Q (k + 1) (n + 6) 2353 [(0, .ref b), (1, .ref (G.2.1 + 0)), (2, .ref (G.2.1 + 292)), (3, .ref (G.2.1 + 303)), (4, .ref (G.2.1 + 304)), (5, .int (Int32.ofNat i))] [] υ) : q_Wq X G x 10 Q k n 502 [(0, .ref b), (1, .ref (G.2.1 + 0)), (2, .ref (G.2.1 + 292)), (3, .ref (G.2.1 + 303)), (4, .ref (G.2.1 + 304)), (5, .int (Int32.ofNat i))] [] σ := by
  refine q_aload_n hx dL_law_502 1 rfl ?_
  refine q_aload_n hx dL_law_503 0 rfl ?_
  refine q_iload hx dL_law_504 5 rfl ?_
  refine q_iconst (v := 1) hx dL_law_506 (by decide) ?_
  refine q_iadd hx dL_law_507 ?_
  refine q_sld (j := i + 1) hx hs (q_ixc (c := 1) (by omega)).1 (q_ixc (c := 1) (by omega)).2 (by omega) dL_law_508 ?_
  refine q_aload_n hx dL_law_509 0 rfl ?_
  refine q_iload hx dL_law_510 5 rfl ?_
  refine q_iconst (v := 2) hx dL_law_512 (by decide) ?_
  refine q_iadd hx dL_law_513 ?_
  refine q_sld (j := i + 2) hx hs (q_ixc (c := 2) (by omega)).1 (q_ixc (c := 2) (by omega)).2 (by omega) dL_law_514 ?_
  refine q_aload_n hx dL_law_515 0 rfl ?_
  refine q_iload hx dL_law_516 5 rfl ?_
  refine q_iconst (v := 3) hx dL_law_518 (by decide) ?_
  refine q_iadd hx dL_law_519 ?_
  refine q_sld (j := i + 3) hx hs (q_ixc (c := 3) (by omega)).1 (q_ixc (c := 3) (by omega)).2 (by omega) dL_law_520 ?_
  refine q_aload_n hx dL_law_521 3 rfl ?_
  refine q_callW (np := 5) (As := [.ref (G.2.1 + 0), .int (xs (i + 1)), .int (xs (i + 2)), .int (xs (i + 3)), .ref (G.2.1 + 303)]) (rest := []) hx hNc hkR (c_L_bend (q_Xl X) G x σ (xs (i + 1)) (xs (i + 2)) (xs (i + 3)) h1 he hfl) q_lml_154 q_lcw_bend q_lin (by decide) (by decide) (by decide) q_lst_bend (by decide) rfl (Nat.le_of_ble_eq_true rfl) dL_law_522 rfl ?_
  refine q_istore hx [(6, .int (q_cd [1, 2, 3] e)), (0, .ref b), (1, .ref (G.2.1 + 0)), (2, .ref (G.2.1 + 292)), (3, .ref (G.2.1 + 303)), (4, .ref (G.2.1 + 304)), (5, .int (Int32.ofNat i))] dL_law_525 (by decide) rfl ?_
  refine q_aload_n hx dL_law_527 3 rfl ?_
  refine q_aload_n hx dL_law_528 1 rfl ?_
  refine q_iload hx dL_law_529 6 rfl ?_
  refine q_iconst (v := 1) hx dL_law_531 (by decide) ?_
  refine q_iadd hx dL_law_532 ?_
  refine q_sld (j := i + 1) hx hs (q_ixc (c := 1) (by omega)).1 (q_ixc (c := 1) (by omega)).2 (by omega) dL_law_533 ?_
  refine q_aload_n hx dL_law_534 1 rfl ?_
  refine q_iload hx dL_law_535 6 rfl ?_
  refine q_iconst (v := 2) hx dL_law_537 (by decide) ?_
  refine q_iadd hx dL_law_538 ?_
  refine q_sld (j := i + 2) hx hs (q_ixc (c := 2) (by omega)).1 (q_ixc (c := 2) (by omega)).2 (by omega) dL_law_539 ?_
  refine q_aload_n hx dL_law_540 1 rfl ?_
  refine q_iload hx dL_law_541 6 rfl ?_
  refine q_iconst (v := 3) hx dL_law_543 (by decide) ?_
  refine q_iadd hx dL_law_544 ?_
  refine q_sld (j := i + 3) hx hs (q_ixc (c := 3) (by omega)).1 (q_ixc (c := 3) (by omega)).2 (by omega) dL_law_545 ?_
  refine q_callVi (As := [.int (xs (i + 1)), .int (xs (i + 2)), .int (xs (i + 3))]) (rest := []) hx (q_kR_le hkR (by omega) (by omega)) (c_X10_bend (q_Xl X) G (if e = 0 then (v.toInt64, x.2) else x) τ ((xs (i + 1))) ((xs (i + 2))) ((xs (i + 3))) h2) q_lmv_156 q_mn_X10_bend q_mi_X10_bend q_se_X10_bend (by decide) rfl (Nat.le_of_ble_eq_true rfl) dL_law_546 (q_ne kd_292 (by decide)) (q_e10 kd_292) rfl rfl rfl ?_
  refine q_istore hx [(7, .int w), (6, .int (q_cd [1, 2, 3] e)), (0, .ref b), (1, .ref (G.2.1 + 0)), (2, .ref (G.2.1 + 292)), (3, .ref (G.2.1 + 303)), (4, .ref (G.2.1 + 304)), (5, .int (Int32.ofNat i))] dL_law_549 (by decide) rfl ?_
  refine q_aload_n hx dL_law_551 4 rfl ?_
  refine q_callVi (As := []) (rest := []) hx (q_kR_le hkR (by omega) (by omega)) (c_X10_thrown (q_Xl X) G (if e = 0 then (v.toInt64, x.2) else x) υ) q_lmv_140 q_mn_X10_thrown q_mi_X10_thrown q_se_X10_thrown (by decide) rfl (Nat.le_of_ble_eq_true rfl) dL_law_552 (q_ne kd_292 (by decide)) (q_e10 kd_292) rfl rfl rfl ?_
  refine q_iload hx dL_law_555 1 rfl ?_
  refine q_icmp_eq hx 562 dL_law_557 (by decide) (fun _ => ?_) (fun hn => absurd h3 hn)
  refine q_iload hx dL_law_562 1 rfl ?_
  have hz : q_cd [1, 2, 3] e = 0 → e = 0 := by
    rcases he with rfl | rfl | rfl | rfl <;> intro hq <;> first | rfl | exact absurd hq (by decide)
  refine q_if_ne hx 579 dL_law_564 (by decide) (fun _ => ?_) (fun he0 => ?_)
  · skip
    refine q_goto hx 2353 dL_law_579 (by decide) ?_
    refine q_sub [2, 3, 4, 5, 6, 7] rfl ?_
    exact kk _
  replace he0 := hz he0
  refine q_aload_n hx dL_law_567 5 rfl ?_
  refine q_iconst (v := 0) hx dL_law_568 (by decide) ?_
  refine q_lald hx dL_law_569 ?_
  refine q_iload hx dL_law_570 0 rfl ?_
  refine q_i2l hx dL_law_572 ?_
  refine q_lcmp hx dL_law_573 ?_
  refine q_if_eq hx 579 dL_law_574 (by decide) (fun _ => ?_) (fun hn => absurd (q_cmp0 (by rw [if_pos he0, h4 he0])) hn)
  refine q_goto hx 2353 dL_law_579 (by decide) ?_
  refine q_sub [2, 3, 4, 5, 6, 7] rfl ?_
  exact kk _
set_option maxHeartbeats 4000000 in
set_option maxRecDepth 100000 in
theorem w_case_5 {X : q_X} {G : q_G} {x : q_A} {Q : State → Prop} {k n b L i : Nat} {xs : Nat → Int32} {σ τ υ : q_S} {e : Nat} {v w : Int32} (hx : q_Cx X G RL cL_law 10 20) (hNc : q_NcX X) (hs : q_Sc X G b L xs) (hkR : q_kR X (k + 1) (n + 6)) (hfl : (q_Xl X).stackTraces = false) (hiL : i + 4 ≤ L) (hL : L ≤ 2048) (h1 : f_X9_drop σ (xs (i + 1)) = some (e, v, τ)) (he : e = 0 ∨ e = 1 ∨ e = 3) (h2 : f_X10_drop τ (xs (i + 1)) = some (w, υ)) (h3 : f_X10_thrown υ = q_cd [1, 3] e) (h4 : e = 0 → v = w) (kk : ∀ x : q_A, q_Wq X G x 10 Q (k + 1) (n + 6) 2353 [(0, .ref b), (1, .ref (G.2.1 + 0)), (2, .ref (G.2.1 + 292)), (3, .ref (G.2.1 + 303)), (4, .ref (G.2.1 + 304)), (5, .int (Int32.ofNat i))] [] υ) : q_Wq X G x 10 Q k n 582 [(0, .ref b), (1, .ref (G.2.1 + 0)), (2, .ref (G.2.1 + 292)), (3, .ref (G.2.1 + 303)), (4, .ref (G.2.1 + 304)), (5, .int (Int32.ofNat i))] [] σ := by
  refine q_aload_n hx dL_law_582 1 rfl ?_
  refine q_aload_n hx dL_law_583 0 rfl ?_
  refine q_iload hx dL_law_584 5 rfl ?_
  refine q_iconst (v := 1) hx dL_law_586 (by decide) ?_
  refine q_iadd hx dL_law_587 ?_
  refine q_sld (j := i + 1) hx hs (q_ixc (c := 1) (by omega)).1 (q_ixc (c := 1) (by omega)).2 (by omega) dL_law_588 ?_
  refine q_aload_n hx dL_law_589 3 rfl ?_
  refine q_callW (np := 3) (As := [.ref (G.2.1 + 0), .int (xs (i + 1)), .ref (G.2.1 + 303)]) (rest := []) hx hNc hkR (c_L_drop (q_Xl X) G x σ (xs (i + 1)) h1 he hfl) q_lml_157 q_lcw_drop q_lin (by decide) (by decide) (by decide) q_lst_drop (by decide) rfl (Nat.le_of_ble_eq_true rfl) dL_law_590 rfl ?_
  refine q_istore hx [(6, .int (q_cd [1, 3] e)), (0, .ref b), (1, .ref (G.2.1 + 0)), (2, .ref (G.2.1 + 292)), (3, .ref (G.2.1 + 303)), (4, .ref (G.2.1 + 304)), (5, .int (Int32.ofNat i))] dL_law_593 (by decide) rfl ?_
  refine q_aload_n hx dL_law_595 3 rfl ?_
  refine q_aload_n hx dL_law_596 1 rfl ?_
  refine q_iload hx dL_law_597 6 rfl ?_
  refine q_iconst (v := 1) hx dL_law_599 (by decide) ?_
  refine q_iadd hx dL_law_600 ?_
  refine q_sld (j := i + 1) hx hs (q_ixc (c := 1) (by omega)).1 (q_ixc (c := 1) (by omega)).2 (by omega) dL_law_601 ?_
  refine q_callVi (As := [.int (xs (i + 1))]) (rest := []) hx (q_kR_le hkR (by omega) (by omega)) (c_X10_drop (q_Xl X) G (if e = 0 then (v.toInt64, x.2) else x) τ ((xs (i + 1))) h2) q_lmv_159 q_mn_X10_drop q_mi_X10_drop q_se_X10_drop (by decide) rfl (Nat.le_of_ble_eq_true rfl) dL_law_602 (q_ne kd_292 (by decide)) (q_e10 kd_292) rfl rfl rfl ?_
  refine q_istore hx [(7, .int w), (6, .int (q_cd [1, 3] e)), (0, .ref b), (1, .ref (G.2.1 + 0)), (2, .ref (G.2.1 + 292)), (3, .ref (G.2.1 + 303)), (4, .ref (G.2.1 + 304)), (5, .int (Int32.ofNat i))] dL_law_605 (by decide) rfl ?_
  refine q_aload_n hx dL_law_607 4 rfl ?_
  refine q_callVi (As := []) (rest := []) hx (q_kR_le hkR (by omega) (by omega)) (c_X10_thrown (q_Xl X) G (if e = 0 then (v.toInt64, x.2) else x) υ) q_lmv_140 q_mn_X10_thrown q_mi_X10_thrown q_se_X10_thrown (by decide) rfl (Nat.le_of_ble_eq_true rfl) dL_law_608 (q_ne kd_292 (by decide)) (q_e10 kd_292) rfl rfl rfl ?_
  refine q_iload hx dL_law_611 1 rfl ?_
  refine q_icmp_eq hx 618 dL_law_613 (by decide) (fun _ => ?_) (fun hn => absurd h3 hn)
  refine q_iload hx dL_law_618 1 rfl ?_
  have hz : q_cd [1, 3] e = 0 → e = 0 := by
    rcases he with rfl | rfl | rfl <;> intro hq <;> first | rfl | exact absurd hq (by decide)
  refine q_if_ne hx 635 dL_law_620 (by decide) (fun _ => ?_) (fun he0 => ?_)
  · skip
    refine q_goto hx 2353 dL_law_635 (by decide) ?_
    refine q_sub [2, 3, 4, 5, 6, 7] rfl ?_
    exact kk _
  replace he0 := hz he0
  refine q_aload_n hx dL_law_623 5 rfl ?_
  refine q_iconst (v := 0) hx dL_law_624 (by decide) ?_
  refine q_lald hx dL_law_625 ?_
  refine q_iload hx dL_law_626 0 rfl ?_
  refine q_i2l hx dL_law_628 ?_
  refine q_lcmp hx dL_law_629 ?_
  refine q_if_eq hx 635 dL_law_630 (by decide) (fun _ => ?_) (fun hn => absurd (q_cmp0 (by rw [if_pos he0, h4 he0])) hn)
  refine q_goto hx 2353 dL_law_635 (by decide) ?_
  refine q_sub [2, 3, 4, 5, 6, 7] rfl ?_
  exact kk _
set_option maxHeartbeats 4000000 in
set_option maxRecDepth 100000 in
theorem w_case_6 {X : q_X} {G : q_G} {x : q_A} {Q : State → Prop} {k n b L i : Nat} {xs : Nat → Int32} {σ τ υ : q_S} {e : Nat} {v w : Int32} (hx : q_Cx X G RL cL_law 10 20) (hNc : q_NcX X) (hs : q_Sc X G b L xs) (hkR : q_kR X (k + 1) (n + 6)) (hfl : (q_Xl X).stackTraces = false) (hiL : i + 4 ≤ L) (hL : L ≤ 2048) (h1 : f_X9_deep σ (xs (i + 1)) (xs (i + 2)) = some (e, v, τ)) (he : e = 0 ∨ e = 1 ∨ e = 2 ∨ e = 3) (h2 : f_X10_deep τ (xs (i + 1)) (xs (i + 2)) = some (w, υ)) (h3 : f_X10_thrown υ = q_cd [1, 2, 3] e) (h4 : e = 0 → v = w) (kk : ∀ x : q_A, q_Wq X G x 10 Q (k + 1) (n + 6) 2353 [(0, .ref b), (1, .ref (G.2.1 + 0)), (2, .ref (G.2.1 + 292)), (3, .ref (G.2.1 + 303)), (4, .ref (G.2.1 + 304)), (5, .int (Int32.ofNat i))] [] υ) : q_Wq X G x 10 Q k n 638 [(0, .ref b), (1, .ref (G.2.1 + 0)), (2, .ref (G.2.1 + 292)), (3, .ref (G.2.1 + 303)), (4, .ref (G.2.1 + 304)), (5, .int (Int32.ofNat i))] [] σ := by
  refine q_aload_n hx dL_law_638 1 rfl ?_
  refine q_aload_n hx dL_law_639 0 rfl ?_
  refine q_iload hx dL_law_640 5 rfl ?_
  refine q_iconst (v := 1) hx dL_law_642 (by decide) ?_
  refine q_iadd hx dL_law_643 ?_
  refine q_sld (j := i + 1) hx hs (q_ixc (c := 1) (by omega)).1 (q_ixc (c := 1) (by omega)).2 (by omega) dL_law_644 ?_
  refine q_aload_n hx dL_law_645 0 rfl ?_
  refine q_iload hx dL_law_646 5 rfl ?_
  refine q_iconst (v := 2) hx dL_law_648 (by decide) ?_
  refine q_iadd hx dL_law_649 ?_
  refine q_sld (j := i + 2) hx hs (q_ixc (c := 2) (by omega)).1 (q_ixc (c := 2) (by omega)).2 (by omega) dL_law_650 ?_
  refine q_aload_n hx dL_law_651 3 rfl ?_
  refine q_callW (np := 4) (As := [.ref (G.2.1 + 0), .int (xs (i + 1)), .int (xs (i + 2)), .ref (G.2.1 + 303)]) (rest := []) hx hNc hkR (c_L_deep (q_Xl X) G x σ (xs (i + 1)) (xs (i + 2)) h1 he hfl) q_lml_160 q_lcw_deep q_lin (by decide) (by decide) (by decide) q_lst_deep (by decide) rfl (Nat.le_of_ble_eq_true rfl) dL_law_652 rfl ?_
  refine q_istore hx [(6, .int (q_cd [1, 2, 3] e)), (0, .ref b), (1, .ref (G.2.1 + 0)), (2, .ref (G.2.1 + 292)), (3, .ref (G.2.1 + 303)), (4, .ref (G.2.1 + 304)), (5, .int (Int32.ofNat i))] dL_law_655 (by decide) rfl ?_
  refine q_aload_n hx dL_law_657 3 rfl ?_
  refine q_aload_n hx dL_law_658 1 rfl ?_
  refine q_iload hx dL_law_659 6 rfl ?_
  refine q_iconst (v := 1) hx dL_law_661 (by decide) ?_
  refine q_iadd hx dL_law_662 ?_
  refine q_sld (j := i + 1) hx hs (q_ixc (c := 1) (by omega)).1 (q_ixc (c := 1) (by omega)).2 (by omega) dL_law_663 ?_
  refine q_aload_n hx dL_law_664 1 rfl ?_
  refine q_iload hx dL_law_665 6 rfl ?_
  refine q_iconst (v := 2) hx dL_law_667 (by decide) ?_
  refine q_iadd hx dL_law_668 ?_
  refine q_sld (j := i + 2) hx hs (q_ixc (c := 2) (by omega)).1 (q_ixc (c := 2) (by omega)).2 (by omega) dL_law_669 ?_
  refine q_callVi (As := [.int (xs (i + 1)), .int (xs (i + 2))]) (rest := []) hx (q_kR_le hkR (by omega) (by omega)) (c_X10_deep (q_Xl X) G (if e = 0 then (v.toInt64, x.2) else x) τ ((xs (i + 1))) ((xs (i + 2))) h2) q_lmv_163 q_mn_X10_deep q_mi_X10_deep q_se_X10_deep (by decide) rfl (Nat.le_of_ble_eq_true rfl) dL_law_670 (q_ne kd_292 (by decide)) (q_e10 kd_292) rfl rfl rfl ?_
  refine q_istore hx [(7, .int w), (6, .int (q_cd [1, 2, 3] e)), (0, .ref b), (1, .ref (G.2.1 + 0)), (2, .ref (G.2.1 + 292)), (3, .ref (G.2.1 + 303)), (4, .ref (G.2.1 + 304)), (5, .int (Int32.ofNat i))] dL_law_673 (by decide) rfl ?_
  refine q_aload_n hx dL_law_675 4 rfl ?_
  refine q_callVi (As := []) (rest := []) hx (q_kR_le hkR (by omega) (by omega)) (c_X10_thrown (q_Xl X) G (if e = 0 then (v.toInt64, x.2) else x) υ) q_lmv_140 q_mn_X10_thrown q_mi_X10_thrown q_se_X10_thrown (by decide) rfl (Nat.le_of_ble_eq_true rfl) dL_law_676 (q_ne kd_292 (by decide)) (q_e10 kd_292) rfl rfl rfl ?_
  refine q_iload hx dL_law_679 1 rfl ?_
  refine q_icmp_eq hx 686 dL_law_681 (by decide) (fun _ => ?_) (fun hn => absurd h3 hn)
  refine q_iload hx dL_law_686 1 rfl ?_
  have hz : q_cd [1, 2, 3] e = 0 → e = 0 := by
    rcases he with rfl | rfl | rfl | rfl <;> intro hq <;> first | rfl | exact absurd hq (by decide)
  refine q_if_ne hx 703 dL_law_688 (by decide) (fun _ => ?_) (fun he0 => ?_)
  · skip
    refine q_goto hx 2353 dL_law_703 (by decide) ?_
    refine q_sub [2, 3, 4, 5, 6, 7] rfl ?_
    exact kk _
  replace he0 := hz he0
  refine q_aload_n hx dL_law_691 5 rfl ?_
  refine q_iconst (v := 0) hx dL_law_692 (by decide) ?_
  refine q_lald hx dL_law_693 ?_
  refine q_iload hx dL_law_694 0 rfl ?_
  refine q_i2l hx dL_law_696 ?_
  refine q_lcmp hx dL_law_697 ?_
  refine q_if_eq hx 703 dL_law_698 (by decide) (fun _ => ?_) (fun hn => absurd (q_cmp0 (by rw [if_pos he0, h4 he0])) hn)
  refine q_goto hx 2353 dL_law_703 (by decide) ?_
  refine q_sub [2, 3, 4, 5, 6, 7] rfl ?_
  exact kk _
set_option maxHeartbeats 4000000 in
set_option maxRecDepth 100000 in
theorem w_case_7 {X : q_X} {G : q_G} {x : q_A} {Q : State → Prop} {k n b L i : Nat} {xs : Nat → Int32} {σ τ υ : q_S} {e : Nat} {v w : Int32} (hx : q_Cx X G RL cL_law 10 20) (hNc : q_NcX X) (hs : q_Sc X G b L xs) (hkR : q_kR X (k + 1) (n + 6)) (hfl : (q_Xl X).stackTraces = false) (hiL : i + 4 ≤ L) (hL : L ≤ 2048) (h1 : f_X9_dusk σ (xs (i + 1)) = some (e, v, τ)) (he : e = 0 ∨ e = 2) (h2 : f_X10_dusk τ (xs (i + 1)) = some (w, υ)) (h3 : f_X10_thrown υ = q_cd [2] e) (h4 : e = 0 → v = w) (kk : ∀ x : q_A, q_Wq X G x 10 Q (k + 1) (n + 6) 2353 [(0, .ref b), (1, .ref (G.2.1 + 0)), (2, .ref (G.2.1 + 292)), (3, .ref (G.2.1 + 303)), (4, .ref (G.2.1 + 304)), (5, .int (Int32.ofNat i))] [] υ) : q_Wq X G x 10 Q k n 706 [(0, .ref b), (1, .ref (G.2.1 + 0)), (2, .ref (G.2.1 + 292)), (3, .ref (G.2.1 + 303)), (4, .ref (G.2.1 + 304)), (5, .int (Int32.ofNat i))] [] σ := by
  refine q_aload_n hx dL_law_706 1 rfl ?_
  refine q_aload_n hx dL_law_707 0 rfl ?_
  refine q_iload hx dL_law_708 5 rfl ?_
  refine q_iconst (v := 1) hx dL_law_710 (by decide) ?_
  refine q_iadd hx dL_law_711 ?_
  refine q_sld (j := i + 1) hx hs (q_ixc (c := 1) (by omega)).1 (q_ixc (c := 1) (by omega)).2 (by omega) dL_law_712 ?_
  refine q_aload_n hx dL_law_713 3 rfl ?_
  refine q_callW (np := 3) (As := [.ref (G.2.1 + 0), .int (xs (i + 1)), .ref (G.2.1 + 303)]) (rest := []) hx hNc hkR (c_L_dusk (q_Xl X) G x σ (xs (i + 1)) h1 he hfl) q_lml_164 q_lcw_dusk q_lin (by decide) (by decide) (by decide) q_lst_dusk (by decide) rfl (Nat.le_of_ble_eq_true rfl) dL_law_714 rfl ?_
  refine q_istore hx [(6, .int (q_cd [2] e)), (0, .ref b), (1, .ref (G.2.1 + 0)), (2, .ref (G.2.1 + 292)), (3, .ref (G.2.1 + 303)), (4, .ref (G.2.1 + 304)), (5, .int (Int32.ofNat i))] dL_law_717 (by decide) rfl ?_
  refine q_aload_n hx dL_law_719 3 rfl ?_
  refine q_aload_n hx dL_law_720 1 rfl ?_
  refine q_iload hx dL_law_721 6 rfl ?_
  refine q_iconst (v := 1) hx dL_law_723 (by decide) ?_
  refine q_iadd hx dL_law_724 ?_
  refine q_sld (j := i + 1) hx hs (q_ixc (c := 1) (by omega)).1 (q_ixc (c := 1) (by omega)).2 (by omega) dL_law_725 ?_
  refine q_callVi (As := [.int (xs (i + 1))]) (rest := []) hx (q_kR_le hkR (by omega) (by omega)) (c_X10_dusk (q_Xl X) G (if e = 0 then (v.toInt64, x.2) else x) τ ((xs (i + 1))) h2) q_lmv_166 q_mn_X10_dusk q_mi_X10_dusk q_se_X10_dusk (by decide) rfl (Nat.le_of_ble_eq_true rfl) dL_law_726 (q_ne kd_292 (by decide)) (q_e10 kd_292) rfl rfl rfl ?_
  refine q_istore hx [(7, .int w), (6, .int (q_cd [2] e)), (0, .ref b), (1, .ref (G.2.1 + 0)), (2, .ref (G.2.1 + 292)), (3, .ref (G.2.1 + 303)), (4, .ref (G.2.1 + 304)), (5, .int (Int32.ofNat i))] dL_law_729 (by decide) rfl ?_
  refine q_aload_n hx dL_law_731 4 rfl ?_
  refine q_callVi (As := []) (rest := []) hx (q_kR_le hkR (by omega) (by omega)) (c_X10_thrown (q_Xl X) G (if e = 0 then (v.toInt64, x.2) else x) υ) q_lmv_140 q_mn_X10_thrown q_mi_X10_thrown q_se_X10_thrown (by decide) rfl (Nat.le_of_ble_eq_true rfl) dL_law_732 (q_ne kd_292 (by decide)) (q_e10 kd_292) rfl rfl rfl ?_
  refine q_iload hx dL_law_735 1 rfl ?_
  refine q_icmp_eq hx 742 dL_law_737 (by decide) (fun _ => ?_) (fun hn => absurd h3 hn)
  refine q_iload hx dL_law_742 1 rfl ?_
  have hz : q_cd [2] e = 0 → e = 0 := by
    rcases he with rfl | rfl <;> intro hq <;> first | rfl | exact absurd hq (by decide)
  refine q_if_ne hx 759 dL_law_744 (by decide) (fun _ => ?_) (fun he0 => ?_)
  · skip
    refine q_goto hx 2353 dL_law_759 (by decide) ?_
    refine q_sub [2, 3, 4, 5, 6, 7] rfl ?_
    exact kk _
  replace he0 := hz he0
  refine q_aload_n hx dL_law_747 5 rfl ?_
  refine q_iconst (v := 0) hx dL_law_748 (by decide) ?_
  refine q_lald hx dL_law_749 ?_
  refine q_iload hx dL_law_750 0 rfl ?_
  refine q_i2l hx dL_law_752 ?_
  refine q_lcmp hx dL_law_753 ?_
  refine q_if_eq hx 759 dL_law_754 (by decide) (fun _ => ?_) (fun hn => absurd (q_cmp0 (by rw [if_pos he0, h4 he0])) hn)
  refine q_goto hx 2353 dL_law_759 (by decide) ?_
  refine q_sub [2, 3, 4, 5, 6, 7] rfl ?_
  exact kk _
set_option maxHeartbeats 4000000 in
set_option maxRecDepth 100000 in
theorem w_case_8 {X : q_X} {G : q_G} {x : q_A} {Q : State → Prop} {k n b L i : Nat} {xs : Nat → Int32} {σ τ υ : q_S} {e : Nat} {v w : Int32} (hx : q_Cx X G RL cL_law 10 20) (hNc : q_NcX X) (hs : q_Sc X G b L xs) (hkR : q_kR X (k + 1) (n + 6)) (hfl : (q_Xl X).stackTraces = false) (hiL : i + 4 ≤ L) (hL : L ≤ 2048) (h1 : f_X9_sleeperOf σ (xs (i + 1)) (xs (i + 2)) = some (e, v, τ)) (he : e = 0 ∨ e = 1 ∨ e = 2) (h2 : f_X10_sleeperOf τ (xs (i + 1)) (xs (i + 2)) = some (w, υ)) (h3 : f_X10_thrown υ = q_cd [1, 2] e) (h4 : e = 0 → v = w) (kk : ∀ x : q_A, q_Wq X G x 10 Q (k + 1) (n + 6) 2353 [(0, .ref b), (1, .ref (G.2.1 + 0)), (2, .ref (G.2.1 + 292)), (3, .ref (G.2.1 + 303)), (4, .ref (G.2.1 + 304)), (5, .int (Int32.ofNat i))] [] υ) : q_Wq X G x 10 Q k n 762 [(0, .ref b), (1, .ref (G.2.1 + 0)), (2, .ref (G.2.1 + 292)), (3, .ref (G.2.1 + 303)), (4, .ref (G.2.1 + 304)), (5, .int (Int32.ofNat i))] [] σ := by
  refine q_aload_n hx dL_law_762 1 rfl ?_
  refine q_aload_n hx dL_law_763 0 rfl ?_
  refine q_iload hx dL_law_764 5 rfl ?_
  refine q_iconst (v := 1) hx dL_law_766 (by decide) ?_
  refine q_iadd hx dL_law_767 ?_
  refine q_sld (j := i + 1) hx hs (q_ixc (c := 1) (by omega)).1 (q_ixc (c := 1) (by omega)).2 (by omega) dL_law_768 ?_
  refine q_aload_n hx dL_law_769 0 rfl ?_
  refine q_iload hx dL_law_770 5 rfl ?_
  refine q_iconst (v := 2) hx dL_law_772 (by decide) ?_
  refine q_iadd hx dL_law_773 ?_
  refine q_sld (j := i + 2) hx hs (q_ixc (c := 2) (by omega)).1 (q_ixc (c := 2) (by omega)).2 (by omega) dL_law_774 ?_
  refine q_aload_n hx dL_law_775 3 rfl ?_
  refine q_callW (np := 4) (As := [.ref (G.2.1 + 0), .int (xs (i + 1)), .int (xs (i + 2)), .ref (G.2.1 + 303)]) (rest := []) hx hNc hkR (c_L_sleeperOf (q_Xl X) G x σ (xs (i + 1)) (xs (i + 2)) h1 he hfl) q_lml_167 q_lcw_sleeperOf q_lin (by decide) (by decide) (by decide) q_lst_sleeperOf (by decide) rfl (Nat.le_of_ble_eq_true rfl) dL_law_776 rfl ?_
  refine q_istore hx [(6, .int (q_cd [1, 2] e)), (0, .ref b), (1, .ref (G.2.1 + 0)), (2, .ref (G.2.1 + 292)), (3, .ref (G.2.1 + 303)), (4, .ref (G.2.1 + 304)), (5, .int (Int32.ofNat i))] dL_law_779 (by decide) rfl ?_
  refine q_aload_n hx dL_law_781 3 rfl ?_
  refine q_aload_n hx dL_law_782 1 rfl ?_
  refine q_iload hx dL_law_783 6 rfl ?_
  refine q_iconst (v := 1) hx dL_law_785 (by decide) ?_
  refine q_iadd hx dL_law_786 ?_
  refine q_sld (j := i + 1) hx hs (q_ixc (c := 1) (by omega)).1 (q_ixc (c := 1) (by omega)).2 (by omega) dL_law_787 ?_
  refine q_aload_n hx dL_law_788 1 rfl ?_
  refine q_iload hx dL_law_789 6 rfl ?_
  refine q_iconst (v := 2) hx dL_law_791 (by decide) ?_
  refine q_iadd hx dL_law_792 ?_
  refine q_sld (j := i + 2) hx hs (q_ixc (c := 2) (by omega)).1 (q_ixc (c := 2) (by omega)).2 (by omega) dL_law_793 ?_
  refine q_callVi (As := [.int (xs (i + 1)), .int (xs (i + 2))]) (rest := []) hx (q_kR_le hkR (by omega) (by omega)) (c_X10_sleeperOf (q_Xl X) G (if e = 0 then (v.toInt64, x.2) else x) τ ((xs (i + 1))) ((xs (i + 2))) h2) q_lmv_169 q_mn_X10_sleeperOf q_mi_X10_sleeperOf q_se_X10_sleeperOf (by decide) rfl (Nat.le_of_ble_eq_true rfl) dL_law_794 (q_ne kd_292 (by decide)) (q_e10 kd_292) rfl rfl rfl ?_
  refine q_istore hx [(7, .int w), (6, .int (q_cd [1, 2] e)), (0, .ref b), (1, .ref (G.2.1 + 0)), (2, .ref (G.2.1 + 292)), (3, .ref (G.2.1 + 303)), (4, .ref (G.2.1 + 304)), (5, .int (Int32.ofNat i))] dL_law_797 (by decide) rfl ?_
  refine q_aload_n hx dL_law_799 4 rfl ?_
  refine q_callVi (As := []) (rest := []) hx (q_kR_le hkR (by omega) (by omega)) (c_X10_thrown (q_Xl X) G (if e = 0 then (v.toInt64, x.2) else x) υ) q_lmv_140 q_mn_X10_thrown q_mi_X10_thrown q_se_X10_thrown (by decide) rfl (Nat.le_of_ble_eq_true rfl) dL_law_800 (q_ne kd_292 (by decide)) (q_e10 kd_292) rfl rfl rfl ?_
  refine q_iload hx dL_law_803 1 rfl ?_
  refine q_icmp_eq hx 810 dL_law_805 (by decide) (fun _ => ?_) (fun hn => absurd h3 hn)
  refine q_iload hx dL_law_810 1 rfl ?_
  have hz : q_cd [1, 2] e = 0 → e = 0 := by
    rcases he with rfl | rfl | rfl <;> intro hq <;> first | rfl | exact absurd hq (by decide)
  refine q_if_ne hx 827 dL_law_812 (by decide) (fun _ => ?_) (fun he0 => ?_)
  · skip
    refine q_goto hx 2353 dL_law_827 (by decide) ?_
    refine q_sub [2, 3, 4, 5, 6, 7] rfl ?_
    exact kk _
  replace he0 := hz he0
  refine q_aload_n hx dL_law_815 5 rfl ?_
  refine q_iconst (v := 0) hx dL_law_816 (by decide) ?_
  refine q_lald hx dL_law_817 ?_
  refine q_iload hx dL_law_818 0 rfl ?_
  refine q_i2l hx dL_law_820 ?_
  refine q_lcmp hx dL_law_821 ?_
  refine q_if_eq hx 827 dL_law_822 (by decide) (fun _ => ?_) (fun hn => absurd (q_cmp0 (by rw [if_pos he0, h4 he0])) hn)
  refine q_goto hx 2353 dL_law_827 (by decide) ?_
  refine q_sub [2, 3, 4, 5, 6, 7] rfl ?_
  exact kk _
set_option maxHeartbeats 4000000 in
set_option maxRecDepth 100000 in
theorem w_case_9 {X : q_X} {G : q_G} {x : q_A} {Q : State → Prop} {k n b L i : Nat} {xs : Nat → Int32} {σ υ : q_S} {e : Nat} {v w : Int32} (hx : q_Cx X G RL cL_law 10 20) (hNc : q_NcX X) (hs : q_Sc X G b L xs) (hkR : q_kR X (k + 1) (n + 6)) (hfl : (q_Xl X).stackTraces = false) (hiL : i + 4 ≤ L) (hL : L ≤ 2048) (h1 : f_X9_chainOf σ (xs (i + 1)) (xs (i + 2)) (xs (i + 3)) = some (e, v)) (he : e = 0 ∨ e = 1 ∨ e = 2) (h2 : f_X10_chainOf σ (xs (i + 1)) (xs (i + 2)) (xs (i + 3)) = some (w, υ)) (h3 : f_X10_thrown υ = q_cd [1, 2] e) (h4 : e = 0 → v = w) (kk : ∀ x : q_A, q_Wq X G x 10 Q (k + 1) (n + 6) 2353 [(0, .ref b), (1, .ref (G.2.1 + 0)), (2, .ref (G.2.1 + 292)), (3, .ref (G.2.1 + 303)), (4, .ref (G.2.1 + 304)), (5, .int (Int32.ofNat i))] [] υ) : q_Wq X G x 10 Q k n 830 [(0, .ref b), (1, .ref (G.2.1 + 0)), (2, .ref (G.2.1 + 292)), (3, .ref (G.2.1 + 303)), (4, .ref (G.2.1 + 304)), (5, .int (Int32.ofNat i))] [] σ := by
  refine q_aload_n hx dL_law_830 1 rfl ?_
  refine q_aload_n hx dL_law_831 0 rfl ?_
  refine q_iload hx dL_law_832 5 rfl ?_
  refine q_iconst (v := 1) hx dL_law_834 (by decide) ?_
  refine q_iadd hx dL_law_835 ?_
  refine q_sld (j := i + 1) hx hs (q_ixc (c := 1) (by omega)).1 (q_ixc (c := 1) (by omega)).2 (by omega) dL_law_836 ?_
  refine q_aload_n hx dL_law_837 0 rfl ?_
  refine q_iload hx dL_law_838 5 rfl ?_
  refine q_iconst (v := 2) hx dL_law_840 (by decide) ?_
  refine q_iadd hx dL_law_841 ?_
  refine q_sld (j := i + 2) hx hs (q_ixc (c := 2) (by omega)).1 (q_ixc (c := 2) (by omega)).2 (by omega) dL_law_842 ?_
  refine q_aload_n hx dL_law_843 0 rfl ?_
  refine q_iload hx dL_law_844 5 rfl ?_
  refine q_iconst (v := 3) hx dL_law_846 (by decide) ?_
  refine q_iadd hx dL_law_847 ?_
  refine q_sld (j := i + 3) hx hs (q_ixc (c := 3) (by omega)).1 (q_ixc (c := 3) (by omega)).2 (by omega) dL_law_848 ?_
  refine q_aload_n hx dL_law_849 3 rfl ?_
  refine q_callW (np := 5) (As := [.ref (G.2.1 + 0), .int (xs (i + 1)), .int (xs (i + 2)), .int (xs (i + 3)), .ref (G.2.1 + 303)]) (rest := []) hx hNc hkR (c_L_chainOf (q_Xl X) G x σ (xs (i + 1)) (xs (i + 2)) (xs (i + 3)) h1 he hfl) q_lml_170 q_lcw_chainOf q_lin (by decide) (by decide) (by decide) q_lst_chainOf (by decide) rfl (Nat.le_of_ble_eq_true rfl) dL_law_850 rfl ?_
  refine q_istore hx [(6, .int (q_cd [1, 2] e)), (0, .ref b), (1, .ref (G.2.1 + 0)), (2, .ref (G.2.1 + 292)), (3, .ref (G.2.1 + 303)), (4, .ref (G.2.1 + 304)), (5, .int (Int32.ofNat i))] dL_law_853 (by decide) rfl ?_
  refine q_aload_n hx dL_law_855 3 rfl ?_
  refine q_aload_n hx dL_law_856 1 rfl ?_
  refine q_iload hx dL_law_857 6 rfl ?_
  refine q_iconst (v := 1) hx dL_law_859 (by decide) ?_
  refine q_iadd hx dL_law_860 ?_
  refine q_sld (j := i + 1) hx hs (q_ixc (c := 1) (by omega)).1 (q_ixc (c := 1) (by omega)).2 (by omega) dL_law_861 ?_
  refine q_aload_n hx dL_law_862 1 rfl ?_
  refine q_iload hx dL_law_863 6 rfl ?_
  refine q_iconst (v := 2) hx dL_law_865 (by decide) ?_
  refine q_iadd hx dL_law_866 ?_
  refine q_sld (j := i + 2) hx hs (q_ixc (c := 2) (by omega)).1 (q_ixc (c := 2) (by omega)).2 (by omega) dL_law_867 ?_
  refine q_aload_n hx dL_law_868 1 rfl ?_
  refine q_iload hx dL_law_869 6 rfl ?_
  refine q_iconst (v := 3) hx dL_law_871 (by decide) ?_
  refine q_iadd hx dL_law_872 ?_
  refine q_sld (j := i + 3) hx hs (q_ixc (c := 3) (by omega)).1 (q_ixc (c := 3) (by omega)).2 (by omega) dL_law_873 ?_
  refine q_callVi (As := [.int (xs (i + 1)), .int (xs (i + 2)), .int (xs (i + 3))]) (rest := []) hx (q_kR_le hkR (by omega) (by omega)) (c_X10_chainOf (q_Xl X) G (if e = 0 then (v.toInt64, x.2) else x) σ ((xs (i + 1))) ((xs (i + 2))) ((xs (i + 3))) h2) q_lmv_172 q_mn_X10_chainOf q_mi_X10_chainOf q_se_X10_chainOf (by decide) rfl (Nat.le_of_ble_eq_true rfl) dL_law_874 (q_ne kd_292 (by decide)) (q_e10 kd_292) rfl rfl rfl ?_
  refine q_istore hx [(7, .int w), (6, .int (q_cd [1, 2] e)), (0, .ref b), (1, .ref (G.2.1 + 0)), (2, .ref (G.2.1 + 292)), (3, .ref (G.2.1 + 303)), (4, .ref (G.2.1 + 304)), (5, .int (Int32.ofNat i))] dL_law_877 (by decide) rfl ?_
  refine q_aload_n hx dL_law_879 4 rfl ?_
  refine q_callVi (As := []) (rest := []) hx (q_kR_le hkR (by omega) (by omega)) (c_X10_thrown (q_Xl X) G (if e = 0 then (v.toInt64, x.2) else x) υ) q_lmv_140 q_mn_X10_thrown q_mi_X10_thrown q_se_X10_thrown (by decide) rfl (Nat.le_of_ble_eq_true rfl) dL_law_880 (q_ne kd_292 (by decide)) (q_e10 kd_292) rfl rfl rfl ?_
  refine q_iload hx dL_law_883 1 rfl ?_
  refine q_icmp_eq hx 890 dL_law_885 (by decide) (fun _ => ?_) (fun hn => absurd h3 hn)
  refine q_iload hx dL_law_890 1 rfl ?_
  have hz : q_cd [1, 2] e = 0 → e = 0 := by
    rcases he with rfl | rfl | rfl <;> intro hq <;> first | rfl | exact absurd hq (by decide)
  refine q_if_ne hx 907 dL_law_892 (by decide) (fun _ => ?_) (fun he0 => ?_)
  · skip
    refine q_goto hx 2353 dL_law_907 (by decide) ?_
    refine q_sub [2, 3, 4, 5, 6, 7] rfl ?_
    exact kk _
  replace he0 := hz he0
  refine q_aload_n hx dL_law_895 5 rfl ?_
  refine q_iconst (v := 0) hx dL_law_896 (by decide) ?_
  refine q_lald hx dL_law_897 ?_
  refine q_iload hx dL_law_898 0 rfl ?_
  refine q_i2l hx dL_law_900 ?_
  refine q_lcmp hx dL_law_901 ?_
  refine q_if_eq hx 907 dL_law_902 (by decide) (fun _ => ?_) (fun hn => absurd (q_cmp0 (by rw [if_pos he0, h4 he0])) hn)
  refine q_goto hx 2353 dL_law_907 (by decide) ?_
  refine q_sub [2, 3, 4, 5, 6, 7] rfl ?_
  exact kk _
set_option maxHeartbeats 4000000 in
set_option maxRecDepth 100000 in
theorem w_case_10 {X : q_X} {G : q_G} {x : q_A} {Q : State → Prop} {k n b L i : Nat} {xs : Nat → Int32} {σ υ : q_S} {e : Nat} {v w : Int32} (hx : q_Cx X G RL cL_law 10 20) (hNc : q_NcX X) (hs : q_Sc X G b L xs) (hkR : q_kR X (k + 1) (n + 6)) (hfl : (q_Xl X).stackTraces = false) (hiL : i + 4 ≤ L) (hL : L ≤ 2048) (h1 : f_X9_pegOf σ (xs (i + 1)) (xs (i + 2)) = some (e, v)) (he : e = 0 ∨ e = 1 ∨ e = 2) (h2 : f_X10_pegOf σ (xs (i + 1)) (xs (i + 2)) = some (w, υ)) (h3 : f_X10_thrown υ = q_cd [1, 2] e) (h4 : e = 0 → v = w) (kk : ∀ x : q_A, q_Wq X G x 10 Q (k + 1) (n + 6) 2353 [(0, .ref b), (1, .ref (G.2.1 + 0)), (2, .ref (G.2.1 + 292)), (3, .ref (G.2.1 + 303)), (4, .ref (G.2.1 + 304)), (5, .int (Int32.ofNat i))] [] υ) : q_Wq X G x 10 Q k n 910 [(0, .ref b), (1, .ref (G.2.1 + 0)), (2, .ref (G.2.1 + 292)), (3, .ref (G.2.1 + 303)), (4, .ref (G.2.1 + 304)), (5, .int (Int32.ofNat i))] [] σ := by
  refine q_aload_n hx dL_law_910 1 rfl ?_
  refine q_aload_n hx dL_law_911 0 rfl ?_
  refine q_iload hx dL_law_912 5 rfl ?_
  refine q_iconst (v := 1) hx dL_law_914 (by decide) ?_
  refine q_iadd hx dL_law_915 ?_
  refine q_sld (j := i + 1) hx hs (q_ixc (c := 1) (by omega)).1 (q_ixc (c := 1) (by omega)).2 (by omega) dL_law_916 ?_
  refine q_aload_n hx dL_law_917 0 rfl ?_
  refine q_iload hx dL_law_918 5 rfl ?_
  refine q_iconst (v := 2) hx dL_law_920 (by decide) ?_
  refine q_iadd hx dL_law_921 ?_
  refine q_sld (j := i + 2) hx hs (q_ixc (c := 2) (by omega)).1 (q_ixc (c := 2) (by omega)).2 (by omega) dL_law_922 ?_
  refine q_aload_n hx dL_law_923 3 rfl ?_
  refine q_callW (np := 4) (As := [.ref (G.2.1 + 0), .int (xs (i + 1)), .int (xs (i + 2)), .ref (G.2.1 + 303)]) (rest := []) hx hNc hkR (c_L_pegOf (q_Xl X) G x σ (xs (i + 1)) (xs (i + 2)) h1 he hfl) q_lml_173 q_lcw_pegOf q_lin (by decide) (by decide) (by decide) q_lst_pegOf (by decide) rfl (Nat.le_of_ble_eq_true rfl) dL_law_924 rfl ?_
  refine q_istore hx [(6, .int (q_cd [1, 2] e)), (0, .ref b), (1, .ref (G.2.1 + 0)), (2, .ref (G.2.1 + 292)), (3, .ref (G.2.1 + 303)), (4, .ref (G.2.1 + 304)), (5, .int (Int32.ofNat i))] dL_law_927 (by decide) rfl ?_
  refine q_aload_n hx dL_law_929 3 rfl ?_
  refine q_aload_n hx dL_law_930 1 rfl ?_
  refine q_iload hx dL_law_931 6 rfl ?_
  refine q_iconst (v := 1) hx dL_law_933 (by decide) ?_
  refine q_iadd hx dL_law_934 ?_
  refine q_sld (j := i + 1) hx hs (q_ixc (c := 1) (by omega)).1 (q_ixc (c := 1) (by omega)).2 (by omega) dL_law_935 ?_
  refine q_aload_n hx dL_law_936 1 rfl ?_
  refine q_iload hx dL_law_937 6 rfl ?_
  refine q_iconst (v := 2) hx dL_law_939 (by decide) ?_
  refine q_iadd hx dL_law_940 ?_
  refine q_sld (j := i + 2) hx hs (q_ixc (c := 2) (by omega)).1 (q_ixc (c := 2) (by omega)).2 (by omega) dL_law_941 ?_
  refine q_callVi (As := [.int (xs (i + 1)), .int (xs (i + 2))]) (rest := []) hx (q_kR_le hkR (by omega) (by omega)) (c_X10_pegOf (q_Xl X) G (if e = 0 then (v.toInt64, x.2) else x) σ ((xs (i + 1))) ((xs (i + 2))) h2) q_lmv_175 q_mn_X10_pegOf q_mi_X10_pegOf q_se_X10_pegOf (by decide) rfl (Nat.le_of_ble_eq_true rfl) dL_law_942 (q_ne kd_292 (by decide)) (q_e10 kd_292) rfl rfl rfl ?_
  refine q_istore hx [(7, .int w), (6, .int (q_cd [1, 2] e)), (0, .ref b), (1, .ref (G.2.1 + 0)), (2, .ref (G.2.1 + 292)), (3, .ref (G.2.1 + 303)), (4, .ref (G.2.1 + 304)), (5, .int (Int32.ofNat i))] dL_law_945 (by decide) rfl ?_
  refine q_aload_n hx dL_law_947 4 rfl ?_
  refine q_callVi (As := []) (rest := []) hx (q_kR_le hkR (by omega) (by omega)) (c_X10_thrown (q_Xl X) G (if e = 0 then (v.toInt64, x.2) else x) υ) q_lmv_140 q_mn_X10_thrown q_mi_X10_thrown q_se_X10_thrown (by decide) rfl (Nat.le_of_ble_eq_true rfl) dL_law_948 (q_ne kd_292 (by decide)) (q_e10 kd_292) rfl rfl rfl ?_
  refine q_iload hx dL_law_951 1 rfl ?_
  refine q_icmp_eq hx 958 dL_law_953 (by decide) (fun _ => ?_) (fun hn => absurd h3 hn)
  refine q_iload hx dL_law_958 1 rfl ?_
  have hz : q_cd [1, 2] e = 0 → e = 0 := by
    rcases he with rfl | rfl | rfl <;> intro hq <;> first | rfl | exact absurd hq (by decide)
  refine q_if_ne hx 975 dL_law_960 (by decide) (fun _ => ?_) (fun he0 => ?_)
  · skip
    refine q_goto hx 2353 dL_law_975 (by decide) ?_
    refine q_sub [2, 3, 4, 5, 6, 7] rfl ?_
    exact kk _
  replace he0 := hz he0
  refine q_aload_n hx dL_law_963 5 rfl ?_
  refine q_iconst (v := 0) hx dL_law_964 (by decide) ?_
  refine q_lald hx dL_law_965 ?_
  refine q_iload hx dL_law_966 0 rfl ?_
  refine q_i2l hx dL_law_968 ?_
  refine q_lcmp hx dL_law_969 ?_
  refine q_if_eq hx 975 dL_law_970 (by decide) (fun _ => ?_) (fun hn => absurd (q_cmp0 (by rw [if_pos he0, h4 he0])) hn)
  refine q_goto hx 2353 dL_law_975 (by decide) ?_
  refine q_sub [2, 3, 4, 5, 6, 7] rfl ?_
  exact kk _
set_option maxHeartbeats 4000000 in
set_option maxRecDepth 100000 in
theorem w_case_11 {X : q_X} {G : q_G} {x : q_A} {Q : State → Prop} {k n b L i : Nat} {xs : Nat → Int32} {σ υ : q_S} {e : Nat} {v w : Int32} (hx : q_Cx X G RL cL_law 10 20) (hNc : q_NcX X) (hs : q_Sc X G b L xs) (hkR : q_kR X (k + 1) (n + 6)) (hfl : (q_Xl X).stackTraces = false) (hiL : i + 4 ≤ L) (hL : L ≤ 2048) (h1 : f_X9_owner σ (xs (i + 1)) (xs (i + 2)) = some (e, v)) (he : e = 0 ∨ e = 1) (h2 : f_X10_owner σ (xs (i + 1)) (xs (i + 2)) = some (w, υ)) (h3 : f_X10_thrown υ = q_cd [1] e) (h4 : e = 0 → v = w) (kk : ∀ x : q_A, q_Wq X G x 10 Q (k + 1) (n + 6) 2353 [(0, .ref b), (1, .ref (G.2.1 + 0)), (2, .ref (G.2.1 + 292)), (3, .ref (G.2.1 + 303)), (4, .ref (G.2.1 + 304)), (5, .int (Int32.ofNat i))] [] υ) : q_Wq X G x 10 Q k n 978 [(0, .ref b), (1, .ref (G.2.1 + 0)), (2, .ref (G.2.1 + 292)), (3, .ref (G.2.1 + 303)), (4, .ref (G.2.1 + 304)), (5, .int (Int32.ofNat i))] [] σ := by
  refine q_aload_n hx dL_law_978 1 rfl ?_
  refine q_aload_n hx dL_law_979 0 rfl ?_
  refine q_iload hx dL_law_980 5 rfl ?_
  refine q_iconst (v := 1) hx dL_law_982 (by decide) ?_
  refine q_iadd hx dL_law_983 ?_
  refine q_sld (j := i + 1) hx hs (q_ixc (c := 1) (by omega)).1 (q_ixc (c := 1) (by omega)).2 (by omega) dL_law_984 ?_
  refine q_aload_n hx dL_law_985 0 rfl ?_
  refine q_iload hx dL_law_986 5 rfl ?_
  refine q_iconst (v := 2) hx dL_law_988 (by decide) ?_
  refine q_iadd hx dL_law_989 ?_
  refine q_sld (j := i + 2) hx hs (q_ixc (c := 2) (by omega)).1 (q_ixc (c := 2) (by omega)).2 (by omega) dL_law_990 ?_
  refine q_aload_n hx dL_law_991 3 rfl ?_
  refine q_callW (np := 4) (As := [.ref (G.2.1 + 0), .int (xs (i + 1)), .int (xs (i + 2)), .ref (G.2.1 + 303)]) (rest := []) hx hNc hkR (c_L_owner (q_Xl X) G x σ (xs (i + 1)) (xs (i + 2)) h1 he hfl) q_lml_176 q_lcw_owner q_lin (by decide) (by decide) (by decide) q_lst_owner (by decide) rfl (Nat.le_of_ble_eq_true rfl) dL_law_992 rfl ?_
  refine q_istore hx [(6, .int (q_cd [1] e)), (0, .ref b), (1, .ref (G.2.1 + 0)), (2, .ref (G.2.1 + 292)), (3, .ref (G.2.1 + 303)), (4, .ref (G.2.1 + 304)), (5, .int (Int32.ofNat i))] dL_law_995 (by decide) rfl ?_
  refine q_aload_n hx dL_law_997 3 rfl ?_
  refine q_aload_n hx dL_law_998 1 rfl ?_
  refine q_iload hx dL_law_999 6 rfl ?_
  refine q_iconst (v := 1) hx dL_law_1001 (by decide) ?_
  refine q_iadd hx dL_law_1002 ?_
  refine q_sld (j := i + 1) hx hs (q_ixc (c := 1) (by omega)).1 (q_ixc (c := 1) (by omega)).2 (by omega) dL_law_1003 ?_
  refine q_aload_n hx dL_law_1004 1 rfl ?_
  refine q_iload hx dL_law_1005 6 rfl ?_
  refine q_iconst (v := 2) hx dL_law_1007 (by decide) ?_
  refine q_iadd hx dL_law_1008 ?_
  refine q_sld (j := i + 2) hx hs (q_ixc (c := 2) (by omega)).1 (q_ixc (c := 2) (by omega)).2 (by omega) dL_law_1009 ?_
  refine q_callVi (As := [.int (xs (i + 1)), .int (xs (i + 2))]) (rest := []) hx (q_kR_le hkR (by omega) (by omega)) (c_X10_owner (q_Xl X) G (if e = 0 then (v.toInt64, x.2) else x) σ ((xs (i + 1))) ((xs (i + 2))) h2) q_lmv_178 q_mn_X10_owner q_mi_X10_owner q_se_X10_owner (by decide) rfl (Nat.le_of_ble_eq_true rfl) dL_law_1010 (q_ne kd_292 (by decide)) (q_e10 kd_292) rfl rfl rfl ?_
  refine q_istore hx [(7, .int w), (6, .int (q_cd [1] e)), (0, .ref b), (1, .ref (G.2.1 + 0)), (2, .ref (G.2.1 + 292)), (3, .ref (G.2.1 + 303)), (4, .ref (G.2.1 + 304)), (5, .int (Int32.ofNat i))] dL_law_1013 (by decide) rfl ?_
  refine q_aload_n hx dL_law_1015 4 rfl ?_
  refine q_callVi (As := []) (rest := []) hx (q_kR_le hkR (by omega) (by omega)) (c_X10_thrown (q_Xl X) G (if e = 0 then (v.toInt64, x.2) else x) υ) q_lmv_140 q_mn_X10_thrown q_mi_X10_thrown q_se_X10_thrown (by decide) rfl (Nat.le_of_ble_eq_true rfl) dL_law_1016 (q_ne kd_292 (by decide)) (q_e10 kd_292) rfl rfl rfl ?_
  refine q_iload hx dL_law_1019 1 rfl ?_
  refine q_icmp_eq hx 1026 dL_law_1021 (by decide) (fun _ => ?_) (fun hn => absurd h3 hn)
  refine q_iload hx dL_law_1026 1 rfl ?_
  have hz : q_cd [1] e = 0 → e = 0 := by
    rcases he with rfl | rfl <;> intro hq <;> first | rfl | exact absurd hq (by decide)
  refine q_if_ne hx 1043 dL_law_1028 (by decide) (fun _ => ?_) (fun he0 => ?_)
  · skip
    refine q_goto hx 2353 dL_law_1043 (by decide) ?_
    refine q_sub [2, 3, 4, 5, 6, 7] rfl ?_
    exact kk _
  replace he0 := hz he0
  refine q_aload_n hx dL_law_1031 5 rfl ?_
  refine q_iconst (v := 0) hx dL_law_1032 (by decide) ?_
  refine q_lald hx dL_law_1033 ?_
  refine q_iload hx dL_law_1034 0 rfl ?_
  refine q_i2l hx dL_law_1036 ?_
  refine q_lcmp hx dL_law_1037 ?_
  refine q_if_eq hx 1043 dL_law_1038 (by decide) (fun _ => ?_) (fun hn => absurd (q_cmp0 (by rw [if_pos he0, h4 he0])) hn)
  refine q_goto hx 2353 dL_law_1043 (by decide) ?_
  refine q_sub [2, 3, 4, 5, 6, 7] rfl ?_
  exact kk _
set_option maxHeartbeats 4000000 in
set_option maxRecDepth 100000 in
theorem w_case_12 {X : q_X} {G : q_G} {x : q_A} {Q : State → Prop} {k n b L i : Nat} {xs : Nat → Int32} {σ υ : q_S} {e : Nat} {v w : Int32} (hx : q_Cx X G RL cL_law 10 20) (hNc : q_NcX X) (hs : q_Sc X G b L xs) (hkR : q_kR X (k + 1) (n + 6)) (hfl : (q_Xl X).stackTraces = false) (hiL : i + 4 ≤ L) (hL : L ≤ 2048) (h1 : f_X9_isInside σ (xs (i + 1)) (xs (i + 2)) (xs (i + 3)) = some (e, v)) (he : e = 0 ∨ e = 1) (h2 : f_X10_isInside σ (xs (i + 1)) (xs (i + 2)) (xs (i + 3)) = some (w, υ)) (h3 : f_X10_thrown υ = q_cd [1] e) (h4 : e = 0 → v = w) (kk : ∀ x : q_A, q_Wq X G x 10 Q (k + 1) (n + 6) 2353 [(0, .ref b), (1, .ref (G.2.1 + 0)), (2, .ref (G.2.1 + 292)), (3, .ref (G.2.1 + 303)), (4, .ref (G.2.1 + 304)), (5, .int (Int32.ofNat i))] [] υ) : q_Wq X G x 10 Q k n 1046 [(0, .ref b), (1, .ref (G.2.1 + 0)), (2, .ref (G.2.1 + 292)), (3, .ref (G.2.1 + 303)), (4, .ref (G.2.1 + 304)), (5, .int (Int32.ofNat i))] [] σ := by
  refine q_aload_n hx dL_law_1046 1 rfl ?_
  refine q_aload_n hx dL_law_1047 0 rfl ?_
  refine q_iload hx dL_law_1048 5 rfl ?_
  refine q_iconst (v := 1) hx dL_law_1050 (by decide) ?_
  refine q_iadd hx dL_law_1051 ?_
  refine q_sld (j := i + 1) hx hs (q_ixc (c := 1) (by omega)).1 (q_ixc (c := 1) (by omega)).2 (by omega) dL_law_1052 ?_
  refine q_aload_n hx dL_law_1053 0 rfl ?_
  refine q_iload hx dL_law_1054 5 rfl ?_
  refine q_iconst (v := 2) hx dL_law_1056 (by decide) ?_
  refine q_iadd hx dL_law_1057 ?_
  refine q_sld (j := i + 2) hx hs (q_ixc (c := 2) (by omega)).1 (q_ixc (c := 2) (by omega)).2 (by omega) dL_law_1058 ?_
  refine q_aload_n hx dL_law_1059 0 rfl ?_
  refine q_iload hx dL_law_1060 5 rfl ?_
  refine q_iconst (v := 3) hx dL_law_1062 (by decide) ?_
  refine q_iadd hx dL_law_1063 ?_
  refine q_sld (j := i + 3) hx hs (q_ixc (c := 3) (by omega)).1 (q_ixc (c := 3) (by omega)).2 (by omega) dL_law_1064 ?_
  refine q_aload_n hx dL_law_1065 3 rfl ?_
  refine q_callW (np := 5) (As := [.ref (G.2.1 + 0), .int (xs (i + 1)), .int (xs (i + 2)), .int (xs (i + 3)), .ref (G.2.1 + 303)]) (rest := []) hx hNc hkR (c_L_isInside (q_Xl X) G x σ (xs (i + 1)) (xs (i + 2)) (xs (i + 3)) h1 he hfl) q_lml_179 q_lcw_isInside q_lin (by decide) (by decide) (by decide) q_lst_isInside (by decide) rfl (Nat.le_of_ble_eq_true rfl) dL_law_1066 rfl ?_
  refine q_istore hx [(6, .int (q_cd [1] e)), (0, .ref b), (1, .ref (G.2.1 + 0)), (2, .ref (G.2.1 + 292)), (3, .ref (G.2.1 + 303)), (4, .ref (G.2.1 + 304)), (5, .int (Int32.ofNat i))] dL_law_1069 (by decide) rfl ?_
  refine q_aload_n hx dL_law_1071 3 rfl ?_
  refine q_aload_n hx dL_law_1072 1 rfl ?_
  refine q_iload hx dL_law_1073 6 rfl ?_
  refine q_iconst (v := 1) hx dL_law_1075 (by decide) ?_
  refine q_iadd hx dL_law_1076 ?_
  refine q_sld (j := i + 1) hx hs (q_ixc (c := 1) (by omega)).1 (q_ixc (c := 1) (by omega)).2 (by omega) dL_law_1077 ?_
  refine q_aload_n hx dL_law_1078 1 rfl ?_
  refine q_iload hx dL_law_1079 6 rfl ?_
  refine q_iconst (v := 2) hx dL_law_1081 (by decide) ?_
  refine q_iadd hx dL_law_1082 ?_
  refine q_sld (j := i + 2) hx hs (q_ixc (c := 2) (by omega)).1 (q_ixc (c := 2) (by omega)).2 (by omega) dL_law_1083 ?_
  refine q_aload_n hx dL_law_1084 1 rfl ?_
  refine q_iload hx dL_law_1085 6 rfl ?_
  refine q_iconst (v := 3) hx dL_law_1087 (by decide) ?_
  refine q_iadd hx dL_law_1088 ?_
  refine q_sld (j := i + 3) hx hs (q_ixc (c := 3) (by omega)).1 (q_ixc (c := 3) (by omega)).2 (by omega) dL_law_1089 ?_
  refine q_callVi (As := [.int (xs (i + 1)), .int (xs (i + 2)), .int (xs (i + 3))]) (rest := []) hx (q_kR_le hkR (by omega) (by omega)) (c_X10_isInside (q_Xl X) G (if e = 0 then (q_bl v, x.2) else x) σ ((xs (i + 1))) ((xs (i + 2))) ((xs (i + 3))) h2) q_lmv_181 q_mn_X10_isInside q_mi_X10_isInside q_se_X10_isInside (by decide) rfl (Nat.le_of_ble_eq_true rfl) dL_law_1090 (q_ne kd_292 (by decide)) (q_e10 kd_292) rfl rfl rfl ?_
  refine q_istore hx [(7, .int w), (6, .int (q_cd [1] e)), (0, .ref b), (1, .ref (G.2.1 + 0)), (2, .ref (G.2.1 + 292)), (3, .ref (G.2.1 + 303)), (4, .ref (G.2.1 + 304)), (5, .int (Int32.ofNat i))] dL_law_1093 (by decide) rfl ?_
  refine q_aload_n hx dL_law_1095 4 rfl ?_
  refine q_callVi (As := []) (rest := []) hx (q_kR_le hkR (by omega) (by omega)) (c_X10_thrown (q_Xl X) G (if e = 0 then (q_bl v, x.2) else x) υ) q_lmv_140 q_mn_X10_thrown q_mi_X10_thrown q_se_X10_thrown (by decide) rfl (Nat.le_of_ble_eq_true rfl) dL_law_1096 (q_ne kd_292 (by decide)) (q_e10 kd_292) rfl rfl rfl ?_
  refine q_iload hx dL_law_1099 1 rfl ?_
  refine q_icmp_eq hx 1106 dL_law_1101 (by decide) (fun _ => ?_) (fun hn => absurd h3 hn)
  refine q_iload hx dL_law_1106 1 rfl ?_
  have hz : q_cd [1] e = 0 → e = 0 := by
    rcases he with rfl | rfl <;> intro hq <;> first | rfl | exact absurd hq (by decide)
  refine q_if_ne hx 1130 dL_law_1108 (by decide) (fun _ => ?_) (fun he0 => ?_)
  · skip
    refine q_goto hx 2353 dL_law_1130 (by decide) ?_
    refine q_sub [2, 3, 4, 5, 6, 7] rfl ?_
    exact kk _
  replace he0 := hz he0
  refine q_aload_n hx dL_law_1111 5 rfl ?_
  refine q_iconst (v := 0) hx dL_law_1112 (by decide) ?_
  refine q_lald hx dL_law_1113 ?_
  refine q_iload hx dL_law_1114 0 rfl ?_
  refine q_if_eq hx 1123 dL_law_1116 (by decide) (fun hw => ?_) (fun hw => ?_)
  · refine q_lconst (v := 0) hx dL_law_1123 (by decide) ?_
    refine q_lcmp hx dL_law_1124 ?_
    refine q_if_eq hx 1130 dL_law_1125 (by decide) (fun _ => ?_) (fun hn => absurd (q_cmp0 (by rw [if_pos he0, h4 he0]; exact if_pos hw)) hn)
    refine q_goto hx 2353 dL_law_1130 (by decide) ?_
    refine q_sub [2, 3, 4, 5, 6, 7] rfl ?_
    exact kk _
  · refine q_lconst (v := 1) hx dL_law_1119 (by decide) ?_
    refine q_goto hx 1124 dL_law_1120 (by decide) ?_
    refine q_lcmp hx dL_law_1124 ?_
    refine q_if_eq hx 1130 dL_law_1125 (by decide) (fun _ => ?_) (fun hn => absurd (q_cmp0 (by rw [if_pos he0, h4 he0]; exact if_neg hw)) hn)
    refine q_goto hx 2353 dL_law_1130 (by decide) ?_
    refine q_sub [2, 3, 4, 5, 6, 7] rfl ?_
    exact kk _
set_option maxHeartbeats 4000000 in
set_option maxRecDepth 100000 in
theorem w_case_13 {X : q_X} {G : q_G} {x : q_A} {Q : State → Prop} {k n b L i : Nat} {xs : Nat → Int32} {σ υ : q_S} {e : Nat} {v w : Int32} (hx : q_Cx X G RL cL_law 10 20) (hNc : q_NcX X) (hs : q_Sc X G b L xs) (hkR : q_kR X (k + 1) (n + 6)) (hfl : (q_Xl X).stackTraces = false) (hiL : i + 4 ≤ L) (hL : L ≤ 2048) (h1 : f_X9_area σ (xs (i + 1)) = some (e, v)) (he : e = 0 ∨ e = 1) (h2 : f_X10_area σ (xs (i + 1)) = some (w, υ)) (h3 : f_X10_thrown υ = q_cd [1] e) (h4 : e = 0 → v = w) (kk : ∀ x : q_A, q_Wq X G x 10 Q (k + 1) (n + 6) 2353 [(0, .ref b), (1, .ref (G.2.1 + 0)), (2, .ref (G.2.1 + 292)), (3, .ref (G.2.1 + 303)), (4, .ref (G.2.1 + 304)), (5, .int (Int32.ofNat i))] [] υ) : q_Wq X G x 10 Q k n 1133 [(0, .ref b), (1, .ref (G.2.1 + 0)), (2, .ref (G.2.1 + 292)), (3, .ref (G.2.1 + 303)), (4, .ref (G.2.1 + 304)), (5, .int (Int32.ofNat i))] [] σ := by
  refine q_aload_n hx dL_law_1133 1 rfl ?_
  refine q_aload_n hx dL_law_1134 0 rfl ?_
  refine q_iload hx dL_law_1135 5 rfl ?_
  refine q_iconst (v := 1) hx dL_law_1137 (by decide) ?_
  refine q_iadd hx dL_law_1138 ?_
  refine q_sld (j := i + 1) hx hs (q_ixc (c := 1) (by omega)).1 (q_ixc (c := 1) (by omega)).2 (by omega) dL_law_1139 ?_
  refine q_aload_n hx dL_law_1140 3 rfl ?_
  refine q_callW (np := 3) (As := [.ref (G.2.1 + 0), .int (xs (i + 1)), .ref (G.2.1 + 303)]) (rest := []) hx hNc hkR (c_L_area (q_Xl X) G x σ (xs (i + 1)) h1 he hfl) q_lml_182 q_lcw_area q_lin (by decide) (by decide) (by decide) q_lst_area (by decide) rfl (Nat.le_of_ble_eq_true rfl) dL_law_1141 rfl ?_
  refine q_istore hx [(6, .int (q_cd [1] e)), (0, .ref b), (1, .ref (G.2.1 + 0)), (2, .ref (G.2.1 + 292)), (3, .ref (G.2.1 + 303)), (4, .ref (G.2.1 + 304)), (5, .int (Int32.ofNat i))] dL_law_1144 (by decide) rfl ?_
  refine q_aload_n hx dL_law_1146 3 rfl ?_
  refine q_aload_n hx dL_law_1147 1 rfl ?_
  refine q_iload hx dL_law_1148 6 rfl ?_
  refine q_iconst (v := 1) hx dL_law_1150 (by decide) ?_
  refine q_iadd hx dL_law_1151 ?_
  refine q_sld (j := i + 1) hx hs (q_ixc (c := 1) (by omega)).1 (q_ixc (c := 1) (by omega)).2 (by omega) dL_law_1152 ?_
  refine q_callVi (As := [.int (xs (i + 1))]) (rest := []) hx (q_kR_le hkR (by omega) (by omega)) (c_X10_area (q_Xl X) G (if e = 0 then (v.toInt64, x.2) else x) σ ((xs (i + 1))) h2) q_lmv_184 q_mn_X10_area q_mi_X10_area q_se_X10_area (by decide) rfl (Nat.le_of_ble_eq_true rfl) dL_law_1153 (q_ne kd_292 (by decide)) (q_e10 kd_292) rfl rfl rfl ?_
  refine q_istore hx [(7, .int w), (6, .int (q_cd [1] e)), (0, .ref b), (1, .ref (G.2.1 + 0)), (2, .ref (G.2.1 + 292)), (3, .ref (G.2.1 + 303)), (4, .ref (G.2.1 + 304)), (5, .int (Int32.ofNat i))] dL_law_1156 (by decide) rfl ?_
  refine q_aload_n hx dL_law_1158 4 rfl ?_
  refine q_callVi (As := []) (rest := []) hx (q_kR_le hkR (by omega) (by omega)) (c_X10_thrown (q_Xl X) G (if e = 0 then (v.toInt64, x.2) else x) υ) q_lmv_140 q_mn_X10_thrown q_mi_X10_thrown q_se_X10_thrown (by decide) rfl (Nat.le_of_ble_eq_true rfl) dL_law_1159 (q_ne kd_292 (by decide)) (q_e10 kd_292) rfl rfl rfl ?_
  refine q_iload hx dL_law_1162 1 rfl ?_
  refine q_icmp_eq hx 1169 dL_law_1164 (by decide) (fun _ => ?_) (fun hn => absurd h3 hn)
  refine q_iload hx dL_law_1169 1 rfl ?_
  have hz : q_cd [1] e = 0 → e = 0 := by
    rcases he with rfl | rfl <;> intro hq <;> first | rfl | exact absurd hq (by decide)
  refine q_if_ne hx 1186 dL_law_1171 (by decide) (fun _ => ?_) (fun he0 => ?_)
  · skip
    refine q_goto hx 2353 dL_law_1186 (by decide) ?_
    refine q_sub [2, 3, 4, 5, 6, 7] rfl ?_
    exact kk _
  replace he0 := hz he0
  refine q_aload_n hx dL_law_1174 5 rfl ?_
  refine q_iconst (v := 0) hx dL_law_1175 (by decide) ?_
  refine q_lald hx dL_law_1176 ?_
  refine q_iload hx dL_law_1177 0 rfl ?_
  refine q_i2l hx dL_law_1179 ?_
  refine q_lcmp hx dL_law_1180 ?_
  refine q_if_eq hx 1186 dL_law_1181 (by decide) (fun _ => ?_) (fun hn => absurd (q_cmp0 (by rw [if_pos he0, h4 he0])) hn)
  refine q_goto hx 2353 dL_law_1186 (by decide) ?_
  refine q_sub [2, 3, 4, 5, 6, 7] rfl ?_
  exact kk _
set_option maxHeartbeats 4000000 in
set_option maxRecDepth 100000 in
theorem w_case_14 {X : q_X} {G : q_G} {x : q_A} {Q : State → Prop} {k n b L i : Nat} {xs : Nat → Int32} {σ υ : q_S} {e : Nat} {v w : Int32} (hx : q_Cx X G RL cL_law 10 20) (hNc : q_NcX X) (hs : q_Sc X G b L xs) (hkR : q_kR X (k + 1) (n + 6)) (hfl : (q_Xl X).stackTraces = false) (hiL : i + 4 ≤ L) (hL : L ≤ 2048) (h1 : f_X9_areaAgain σ (xs (i + 1)) = some (e, v)) (he : e = 0 ∨ e = 1) (h2 : f_X10_areaAgain σ (xs (i + 1)) = some (w, υ)) (h3 : f_X10_thrown υ = q_cd [1] e) (h4 : e = 0 → v = w) (kk : ∀ x : q_A, q_Wq X G x 10 Q (k + 1) (n + 6) 2353 [(0, .ref b), (1, .ref (G.2.1 + 0)), (2, .ref (G.2.1 + 292)), (3, .ref (G.2.1 + 303)), (4, .ref (G.2.1 + 304)), (5, .int (Int32.ofNat i))] [] υ) : q_Wq X G x 10 Q k n 1189 [(0, .ref b), (1, .ref (G.2.1 + 0)), (2, .ref (G.2.1 + 292)), (3, .ref (G.2.1 + 303)), (4, .ref (G.2.1 + 304)), (5, .int (Int32.ofNat i))] [] σ := by
  refine q_aload_n hx dL_law_1189 1 rfl ?_
  refine q_aload_n hx dL_law_1190 0 rfl ?_
  refine q_iload hx dL_law_1191 5 rfl ?_
  refine q_iconst (v := 1) hx dL_law_1193 (by decide) ?_
  refine q_iadd hx dL_law_1194 ?_
  refine q_sld (j := i + 1) hx hs (q_ixc (c := 1) (by omega)).1 (q_ixc (c := 1) (by omega)).2 (by omega) dL_law_1195 ?_
  refine q_aload_n hx dL_law_1196 3 rfl ?_
  refine q_callW (np := 3) (As := [.ref (G.2.1 + 0), .int (xs (i + 1)), .ref (G.2.1 + 303)]) (rest := []) hx hNc hkR (c_L_areaAgain (q_Xl X) G x σ (xs (i + 1)) h1 he hfl) q_lml_185 q_lcw_areaAgain q_lin (by decide) (by decide) (by decide) q_lst_areaAgain (by decide) rfl (Nat.le_of_ble_eq_true rfl) dL_law_1197 rfl ?_
  refine q_istore hx [(6, .int (q_cd [1] e)), (0, .ref b), (1, .ref (G.2.1 + 0)), (2, .ref (G.2.1 + 292)), (3, .ref (G.2.1 + 303)), (4, .ref (G.2.1 + 304)), (5, .int (Int32.ofNat i))] dL_law_1200 (by decide) rfl ?_
  refine q_aload_n hx dL_law_1202 3 rfl ?_
  refine q_aload_n hx dL_law_1203 1 rfl ?_
  refine q_iload hx dL_law_1204 6 rfl ?_
  refine q_iconst (v := 1) hx dL_law_1206 (by decide) ?_
  refine q_iadd hx dL_law_1207 ?_
  refine q_sld (j := i + 1) hx hs (q_ixc (c := 1) (by omega)).1 (q_ixc (c := 1) (by omega)).2 (by omega) dL_law_1208 ?_
  refine q_callVi (As := [.int (xs (i + 1))]) (rest := []) hx (q_kR_le hkR (by omega) (by omega)) (c_X10_areaAgain (q_Xl X) G (if e = 0 then (v.toInt64, x.2) else x) σ ((xs (i + 1))) h2) q_lmv_187 q_mn_X10_areaAgain q_mi_X10_areaAgain q_se_X10_areaAgain (by decide) rfl (Nat.le_of_ble_eq_true rfl) dL_law_1209 (q_ne kd_292 (by decide)) (q_e10 kd_292) rfl rfl rfl ?_
  refine q_istore hx [(7, .int w), (6, .int (q_cd [1] e)), (0, .ref b), (1, .ref (G.2.1 + 0)), (2, .ref (G.2.1 + 292)), (3, .ref (G.2.1 + 303)), (4, .ref (G.2.1 + 304)), (5, .int (Int32.ofNat i))] dL_law_1212 (by decide) rfl ?_
  refine q_aload_n hx dL_law_1214 4 rfl ?_
  refine q_callVi (As := []) (rest := []) hx (q_kR_le hkR (by omega) (by omega)) (c_X10_thrown (q_Xl X) G (if e = 0 then (v.toInt64, x.2) else x) υ) q_lmv_140 q_mn_X10_thrown q_mi_X10_thrown q_se_X10_thrown (by decide) rfl (Nat.le_of_ble_eq_true rfl) dL_law_1215 (q_ne kd_292 (by decide)) (q_e10 kd_292) rfl rfl rfl ?_
  refine q_iload hx dL_law_1218 1 rfl ?_
  refine q_icmp_eq hx 1225 dL_law_1220 (by decide) (fun _ => ?_) (fun hn => absurd h3 hn)
  refine q_iload hx dL_law_1225 1 rfl ?_
  have hz : q_cd [1] e = 0 → e = 0 := by
    rcases he with rfl | rfl <;> intro hq <;> first | rfl | exact absurd hq (by decide)
  refine q_if_ne hx 1242 dL_law_1227 (by decide) (fun _ => ?_) (fun he0 => ?_)
  · skip
    refine q_goto hx 2353 dL_law_1242 (by decide) ?_
    refine q_sub [2, 3, 4, 5, 6, 7] rfl ?_
    exact kk _
  replace he0 := hz he0
  refine q_aload_n hx dL_law_1230 5 rfl ?_
  refine q_iconst (v := 0) hx dL_law_1231 (by decide) ?_
  refine q_lald hx dL_law_1232 ?_
  refine q_iload hx dL_law_1233 0 rfl ?_
  refine q_i2l hx dL_law_1235 ?_
  refine q_lcmp hx dL_law_1236 ?_
  refine q_if_eq hx 1242 dL_law_1237 (by decide) (fun _ => ?_) (fun hn => absurd (q_cmp0 (by rw [if_pos he0, h4 he0])) hn)
  refine q_goto hx 2353 dL_law_1242 (by decide) ?_
  refine q_sub [2, 3, 4, 5, 6, 7] rfl ?_
  exact kk _
set_option maxHeartbeats 4000000 in
set_option maxRecDepth 100000 in
theorem w_case_15 {X : q_X} {G : q_G} {x : q_A} {Q : State → Prop} {k n b L i : Nat} {xs : Nat → Int32} {σ τ υ : q_S} {e : Nat} {v w : Int32} (hx : q_Cx X G RL cL_law 10 20) (hNc : q_NcX X) (hs : q_Sc X G b L xs) (hkR : q_kR X (k + 1) (n + 6)) (hfl : (q_Xl X).stackTraces = false) (hiL : i + 4 ≤ L) (hL : L ≤ 2048) (h1 : f_X9_border σ (xs (i + 1)) (xs (i + 2)) = some (e, v, τ)) (he : e = 0 ∨ e = 1) (h2 : f_X10_border τ (xs (i + 1)) (xs (i + 2)) = some (w, υ)) (h3 : f_X10_thrown υ = q_cd [1] e) (h4 : e = 0 → v = w) (kk : ∀ x : q_A, q_Wq X G x 10 Q (k + 1) (n + 6) 2353 [(0, .ref b), (1, .ref (G.2.1 + 0)), (2, .ref (G.2.1 + 292)), (3, .ref (G.2.1 + 303)), (4, .ref (G.2.1 + 304)), (5, .int (Int32.ofNat i))] [] υ) : q_Wq X G x 10 Q k n 1245 [(0, .ref b), (1, .ref (G.2.1 + 0)), (2, .ref (G.2.1 + 292)), (3, .ref (G.2.1 + 303)), (4, .ref (G.2.1 + 304)), (5, .int (Int32.ofNat i))] [] σ := by
  refine q_aload_n hx dL_law_1245 1 rfl ?_
  refine q_aload_n hx dL_law_1246 0 rfl ?_
  refine q_iload hx dL_law_1247 5 rfl ?_
  refine q_iconst (v := 1) hx dL_law_1249 (by decide) ?_
  refine q_iadd hx dL_law_1250 ?_
  refine q_sld (j := i + 1) hx hs (q_ixc (c := 1) (by omega)).1 (q_ixc (c := 1) (by omega)).2 (by omega) dL_law_1251 ?_
  refine q_aload_n hx dL_law_1252 0 rfl ?_
  refine q_iload hx dL_law_1253 5 rfl ?_
  refine q_iconst (v := 2) hx dL_law_1255 (by decide) ?_
  refine q_iadd hx dL_law_1256 ?_
  refine q_sld (j := i + 2) hx hs (q_ixc (c := 2) (by omega)).1 (q_ixc (c := 2) (by omega)).2 (by omega) dL_law_1257 ?_
  refine q_aload_n hx dL_law_1258 3 rfl ?_
  refine q_callW (np := 4) (As := [.ref (G.2.1 + 0), .int (xs (i + 1)), .int (xs (i + 2)), .ref (G.2.1 + 303)]) (rest := []) hx hNc hkR (c_L_border (q_Xl X) G x σ (xs (i + 1)) (xs (i + 2)) h1 he hfl) q_lml_188 q_lcw_border q_lin (by decide) (by decide) (by decide) q_lst_border (by decide) rfl (Nat.le_of_ble_eq_true rfl) dL_law_1259 rfl ?_
  refine q_istore hx [(6, .int (q_cd [1] e)), (0, .ref b), (1, .ref (G.2.1 + 0)), (2, .ref (G.2.1 + 292)), (3, .ref (G.2.1 + 303)), (4, .ref (G.2.1 + 304)), (5, .int (Int32.ofNat i))] dL_law_1262 (by decide) rfl ?_
  refine q_aload_n hx dL_law_1264 3 rfl ?_
  refine q_aload_n hx dL_law_1265 1 rfl ?_
  refine q_iload hx dL_law_1266 6 rfl ?_
  refine q_iconst (v := 1) hx dL_law_1268 (by decide) ?_
  refine q_iadd hx dL_law_1269 ?_
  refine q_sld (j := i + 1) hx hs (q_ixc (c := 1) (by omega)).1 (q_ixc (c := 1) (by omega)).2 (by omega) dL_law_1270 ?_
  refine q_aload_n hx dL_law_1271 1 rfl ?_
  refine q_iload hx dL_law_1272 6 rfl ?_
  refine q_iconst (v := 2) hx dL_law_1274 (by decide) ?_
  refine q_iadd hx dL_law_1275 ?_
  refine q_sld (j := i + 2) hx hs (q_ixc (c := 2) (by omega)).1 (q_ixc (c := 2) (by omega)).2 (by omega) dL_law_1276 ?_
  refine q_callVi (As := [.int (xs (i + 1)), .int (xs (i + 2))]) (rest := []) hx (q_kR_le hkR (by omega) (by omega)) (c_X10_border (q_Xl X) G (if e = 0 then (v.toInt64, x.2) else x) τ ((xs (i + 1))) ((xs (i + 2))) h2) q_lmv_190 q_mn_X10_border q_mi_X10_border q_se_X10_border (by decide) rfl (Nat.le_of_ble_eq_true rfl) dL_law_1277 (q_ne kd_292 (by decide)) (q_e10 kd_292) rfl rfl rfl ?_
  refine q_istore hx [(7, .int w), (6, .int (q_cd [1] e)), (0, .ref b), (1, .ref (G.2.1 + 0)), (2, .ref (G.2.1 + 292)), (3, .ref (G.2.1 + 303)), (4, .ref (G.2.1 + 304)), (5, .int (Int32.ofNat i))] dL_law_1280 (by decide) rfl ?_
  refine q_aload_n hx dL_law_1282 4 rfl ?_
  refine q_callVi (As := []) (rest := []) hx (q_kR_le hkR (by omega) (by omega)) (c_X10_thrown (q_Xl X) G (if e = 0 then (v.toInt64, x.2) else x) υ) q_lmv_140 q_mn_X10_thrown q_mi_X10_thrown q_se_X10_thrown (by decide) rfl (Nat.le_of_ble_eq_true rfl) dL_law_1283 (q_ne kd_292 (by decide)) (q_e10 kd_292) rfl rfl rfl ?_
  refine q_iload hx dL_law_1286 1 rfl ?_
  refine q_icmp_eq hx 1293 dL_law_1288 (by decide) (fun _ => ?_) (fun hn => absurd h3 hn)
  refine q_iload hx dL_law_1293 1 rfl ?_
  have hz : q_cd [1] e = 0 → e = 0 := by
    rcases he with rfl | rfl <;> intro hq <;> first | rfl | exact absurd hq (by decide)
  refine q_if_ne hx 1310 dL_law_1295 (by decide) (fun _ => ?_) (fun he0 => ?_)
  · skip
    refine q_goto hx 2353 dL_law_1310 (by decide) ?_
    refine q_sub [2, 3, 4, 5, 6, 7] rfl ?_
    exact kk _
  replace he0 := hz he0
  refine q_aload_n hx dL_law_1298 5 rfl ?_
  refine q_iconst (v := 0) hx dL_law_1299 (by decide) ?_
  refine q_lald hx dL_law_1300 ?_
  refine q_iload hx dL_law_1301 0 rfl ?_
  refine q_i2l hx dL_law_1303 ?_
  refine q_lcmp hx dL_law_1304 ?_
  refine q_if_eq hx 1310 dL_law_1305 (by decide) (fun _ => ?_) (fun hn => absurd (q_cmp0 (by rw [if_pos he0, h4 he0])) hn)
  refine q_goto hx 2353 dL_law_1310 (by decide) ?_
  refine q_sub [2, 3, 4, 5, 6, 7] rfl ?_
  exact kk _
set_option maxHeartbeats 4000000 in
set_option maxRecDepth 100000 in
theorem w_case_16 {X : q_X} {G : q_G} {x : q_A} {Q : State → Prop} {k n b L i : Nat} {xs : Nat → Int32} {σ τ υ : q_S} {e : Nat} {v w : Int32} (hx : q_Cx X G RL cL_law 10 20) (hNc : q_NcX X) (hs : q_Sc X G b L xs) (hkR : q_kR X (k + 1) (n + 6)) (hfl : (q_Xl X).stackTraces = false) (hiL : i + 4 ≤ L) (hL : L ≤ 2048) (h1 : f_X9_borderAgain σ (xs (i + 1)) (xs (i + 2)) = some (e, v, τ)) (he : e = 0 ∨ e = 1) (h2 : f_X10_borderAgain τ (xs (i + 1)) (xs (i + 2)) = some (w, υ)) (h3 : f_X10_thrown υ = q_cd [1] e) (h4 : e = 0 → v = w) (kk : ∀ x : q_A, q_Wq X G x 10 Q (k + 1) (n + 6) 2353 [(0, .ref b), (1, .ref (G.2.1 + 0)), (2, .ref (G.2.1 + 292)), (3, .ref (G.2.1 + 303)), (4, .ref (G.2.1 + 304)), (5, .int (Int32.ofNat i))] [] υ) : q_Wq X G x 10 Q k n 1313 [(0, .ref b), (1, .ref (G.2.1 + 0)), (2, .ref (G.2.1 + 292)), (3, .ref (G.2.1 + 303)), (4, .ref (G.2.1 + 304)), (5, .int (Int32.ofNat i))] [] σ := by
  refine q_aload_n hx dL_law_1313 1 rfl ?_
  refine q_aload_n hx dL_law_1314 0 rfl ?_
  refine q_iload hx dL_law_1315 5 rfl ?_
  refine q_iconst (v := 1) hx dL_law_1317 (by decide) ?_
  refine q_iadd hx dL_law_1318 ?_
  refine q_sld (j := i + 1) hx hs (q_ixc (c := 1) (by omega)).1 (q_ixc (c := 1) (by omega)).2 (by omega) dL_law_1319 ?_
  refine q_aload_n hx dL_law_1320 0 rfl ?_
  refine q_iload hx dL_law_1321 5 rfl ?_
  refine q_iconst (v := 2) hx dL_law_1323 (by decide) ?_
  refine q_iadd hx dL_law_1324 ?_
  refine q_sld (j := i + 2) hx hs (q_ixc (c := 2) (by omega)).1 (q_ixc (c := 2) (by omega)).2 (by omega) dL_law_1325 ?_
  refine q_aload_n hx dL_law_1326 3 rfl ?_
  refine q_callW (np := 4) (As := [.ref (G.2.1 + 0), .int (xs (i + 1)), .int (xs (i + 2)), .ref (G.2.1 + 303)]) (rest := []) hx hNc hkR (c_L_borderAgain (q_Xl X) G x σ (xs (i + 1)) (xs (i + 2)) h1 he hfl) q_lml_191 q_lcw_borderAgain q_lin (by decide) (by decide) (by decide) q_lst_borderAgain (by decide) rfl (Nat.le_of_ble_eq_true rfl) dL_law_1327 rfl ?_
  refine q_istore hx [(6, .int (q_cd [1] e)), (0, .ref b), (1, .ref (G.2.1 + 0)), (2, .ref (G.2.1 + 292)), (3, .ref (G.2.1 + 303)), (4, .ref (G.2.1 + 304)), (5, .int (Int32.ofNat i))] dL_law_1330 (by decide) rfl ?_
  refine q_aload_n hx dL_law_1332 3 rfl ?_
  refine q_aload_n hx dL_law_1333 1 rfl ?_
  refine q_iload hx dL_law_1334 6 rfl ?_
  refine q_iconst (v := 1) hx dL_law_1336 (by decide) ?_
  refine q_iadd hx dL_law_1337 ?_
  refine q_sld (j := i + 1) hx hs (q_ixc (c := 1) (by omega)).1 (q_ixc (c := 1) (by omega)).2 (by omega) dL_law_1338 ?_
  refine q_aload_n hx dL_law_1339 1 rfl ?_
  refine q_iload hx dL_law_1340 6 rfl ?_
  refine q_iconst (v := 2) hx dL_law_1342 (by decide) ?_
  refine q_iadd hx dL_law_1343 ?_
  refine q_sld (j := i + 2) hx hs (q_ixc (c := 2) (by omega)).1 (q_ixc (c := 2) (by omega)).2 (by omega) dL_law_1344 ?_
  refine q_callVi (As := [.int (xs (i + 1)), .int (xs (i + 2))]) (rest := []) hx (q_kR_le hkR (by omega) (by omega)) (c_X10_borderAgain (q_Xl X) G (if e = 0 then (v.toInt64, x.2) else x) τ ((xs (i + 1))) ((xs (i + 2))) h2) q_lmv_193 q_mn_X10_borderAgain q_mi_X10_borderAgain q_se_X10_borderAgain (by decide) rfl (Nat.le_of_ble_eq_true rfl) dL_law_1345 (q_ne kd_292 (by decide)) (q_e10 kd_292) rfl rfl rfl ?_
  refine q_istore hx [(7, .int w), (6, .int (q_cd [1] e)), (0, .ref b), (1, .ref (G.2.1 + 0)), (2, .ref (G.2.1 + 292)), (3, .ref (G.2.1 + 303)), (4, .ref (G.2.1 + 304)), (5, .int (Int32.ofNat i))] dL_law_1348 (by decide) rfl ?_
  refine q_aload_n hx dL_law_1350 4 rfl ?_
  refine q_callVi (As := []) (rest := []) hx (q_kR_le hkR (by omega) (by omega)) (c_X10_thrown (q_Xl X) G (if e = 0 then (v.toInt64, x.2) else x) υ) q_lmv_140 q_mn_X10_thrown q_mi_X10_thrown q_se_X10_thrown (by decide) rfl (Nat.le_of_ble_eq_true rfl) dL_law_1351 (q_ne kd_292 (by decide)) (q_e10 kd_292) rfl rfl rfl ?_
  refine q_iload hx dL_law_1354 1 rfl ?_
  refine q_icmp_eq hx 1361 dL_law_1356 (by decide) (fun _ => ?_) (fun hn => absurd h3 hn)
  refine q_iload hx dL_law_1361 1 rfl ?_
  have hz : q_cd [1] e = 0 → e = 0 := by
    rcases he with rfl | rfl <;> intro hq <;> first | rfl | exact absurd hq (by decide)
  refine q_if_ne hx 1378 dL_law_1363 (by decide) (fun _ => ?_) (fun he0 => ?_)
  · skip
    refine q_goto hx 2353 dL_law_1378 (by decide) ?_
    refine q_sub [2, 3, 4, 5, 6, 7] rfl ?_
    exact kk _
  replace he0 := hz he0
  refine q_aload_n hx dL_law_1366 5 rfl ?_
  refine q_iconst (v := 0) hx dL_law_1367 (by decide) ?_
  refine q_lald hx dL_law_1368 ?_
  refine q_iload hx dL_law_1369 0 rfl ?_
  refine q_i2l hx dL_law_1371 ?_
  refine q_lcmp hx dL_law_1372 ?_
  refine q_if_eq hx 1378 dL_law_1373 (by decide) (fun _ => ?_) (fun hn => absurd (q_cmp0 (by rw [if_pos he0, h4 he0])) hn)
  refine q_goto hx 2353 dL_law_1378 (by decide) ?_
  refine q_sub [2, 3, 4, 5, 6, 7] rfl ?_
  exact kk _
set_option maxHeartbeats 4000000 in
set_option maxRecDepth 100000 in
theorem w_case_17 {X : q_X} {G : q_G} {x : q_A} {Q : State → Prop} {k n b L i : Nat} {xs : Nat → Int32} {σ τ υ : q_S} {e : Nat} {v w : Int32} (hx : q_Cx X G RL cL_law 10 20) (hNc : q_NcX X) (hs : q_Sc X G b L xs) (hkR : q_kR X (k + 1) (n + 6)) (hfl : (q_Xl X).stackTraces = false) (hiL : i + 4 ≤ L) (hL : L ≤ 2048) (h1 : f_X9_fence σ (xs (i + 1)) = some (e, v, τ)) (he : e = 0 ∨ e = 1) (h2 : f_X10_fence τ (xs (i + 1)) = some (w, υ)) (h3 : f_X10_thrown υ = q_cd [1] e) (h4 : e = 0 → v = w) (kk : ∀ x : q_A, q_Wq X G x 10 Q (k + 1) (n + 6) 2353 [(0, .ref b), (1, .ref (G.2.1 + 0)), (2, .ref (G.2.1 + 292)), (3, .ref (G.2.1 + 303)), (4, .ref (G.2.1 + 304)), (5, .int (Int32.ofNat i))] [] υ) : q_Wq X G x 10 Q k n 1381 [(0, .ref b), (1, .ref (G.2.1 + 0)), (2, .ref (G.2.1 + 292)), (3, .ref (G.2.1 + 303)), (4, .ref (G.2.1 + 304)), (5, .int (Int32.ofNat i))] [] σ := by
  refine q_aload_n hx dL_law_1381 1 rfl ?_
  refine q_aload_n hx dL_law_1382 0 rfl ?_
  refine q_iload hx dL_law_1383 5 rfl ?_
  refine q_iconst (v := 1) hx dL_law_1385 (by decide) ?_
  refine q_iadd hx dL_law_1386 ?_
  refine q_sld (j := i + 1) hx hs (q_ixc (c := 1) (by omega)).1 (q_ixc (c := 1) (by omega)).2 (by omega) dL_law_1387 ?_
  refine q_aload_n hx dL_law_1388 3 rfl ?_
  refine q_callW (np := 3) (As := [.ref (G.2.1 + 0), .int (xs (i + 1)), .ref (G.2.1 + 303)]) (rest := []) hx hNc hkR (c_L_fence (q_Xl X) G x σ (xs (i + 1)) h1 he hfl) q_lml_194 q_lcw_fence q_lin (by decide) (by decide) (by decide) q_lst_fence (by decide) rfl (Nat.le_of_ble_eq_true rfl) dL_law_1389 rfl ?_
  refine q_istore hx [(6, .int (q_cd [1] e)), (0, .ref b), (1, .ref (G.2.1 + 0)), (2, .ref (G.2.1 + 292)), (3, .ref (G.2.1 + 303)), (4, .ref (G.2.1 + 304)), (5, .int (Int32.ofNat i))] dL_law_1392 (by decide) rfl ?_
  refine q_aload_n hx dL_law_1394 3 rfl ?_
  refine q_aload_n hx dL_law_1395 1 rfl ?_
  refine q_iload hx dL_law_1396 6 rfl ?_
  refine q_iconst (v := 1) hx dL_law_1398 (by decide) ?_
  refine q_iadd hx dL_law_1399 ?_
  refine q_sld (j := i + 1) hx hs (q_ixc (c := 1) (by omega)).1 (q_ixc (c := 1) (by omega)).2 (by omega) dL_law_1400 ?_
  refine q_callVi (As := [.int (xs (i + 1))]) (rest := []) hx (q_kR_le hkR (by omega) (by omega)) (c_X10_fence (q_Xl X) G (if e = 0 then (v.toInt64, x.2) else x) τ ((xs (i + 1))) h2) q_lmv_196 q_mn_X10_fence q_mi_X10_fence q_se_X10_fence (by decide) rfl (Nat.le_of_ble_eq_true rfl) dL_law_1401 (q_ne kd_292 (by decide)) (q_e10 kd_292) rfl rfl rfl ?_
  refine q_istore hx [(7, .int w), (6, .int (q_cd [1] e)), (0, .ref b), (1, .ref (G.2.1 + 0)), (2, .ref (G.2.1 + 292)), (3, .ref (G.2.1 + 303)), (4, .ref (G.2.1 + 304)), (5, .int (Int32.ofNat i))] dL_law_1404 (by decide) rfl ?_
  refine q_aload_n hx dL_law_1406 4 rfl ?_
  refine q_callVi (As := []) (rest := []) hx (q_kR_le hkR (by omega) (by omega)) (c_X10_thrown (q_Xl X) G (if e = 0 then (v.toInt64, x.2) else x) υ) q_lmv_140 q_mn_X10_thrown q_mi_X10_thrown q_se_X10_thrown (by decide) rfl (Nat.le_of_ble_eq_true rfl) dL_law_1407 (q_ne kd_292 (by decide)) (q_e10 kd_292) rfl rfl rfl ?_
  refine q_iload hx dL_law_1410 1 rfl ?_
  refine q_icmp_eq hx 1417 dL_law_1412 (by decide) (fun _ => ?_) (fun hn => absurd h3 hn)
  refine q_iload hx dL_law_1417 1 rfl ?_
  have hz : q_cd [1] e = 0 → e = 0 := by
    rcases he with rfl | rfl <;> intro hq <;> first | rfl | exact absurd hq (by decide)
  refine q_if_ne hx 1434 dL_law_1419 (by decide) (fun _ => ?_) (fun he0 => ?_)
  · skip
    refine q_goto hx 2353 dL_law_1434 (by decide) ?_
    refine q_sub [2, 3, 4, 5, 6, 7] rfl ?_
    exact kk _
  replace he0 := hz he0
  refine q_aload_n hx dL_law_1422 5 rfl ?_
  refine q_iconst (v := 0) hx dL_law_1423 (by decide) ?_
  refine q_lald hx dL_law_1424 ?_
  refine q_iload hx dL_law_1425 0 rfl ?_
  refine q_i2l hx dL_law_1427 ?_
  refine q_lcmp hx dL_law_1428 ?_
  refine q_if_eq hx 1434 dL_law_1429 (by decide) (fun _ => ?_) (fun hn => absurd (q_cmp0 (by rw [if_pos he0, h4 he0])) hn)
  refine q_goto hx 2353 dL_law_1434 (by decide) ?_
  refine q_sub [2, 3, 4, 5, 6, 7] rfl ?_
  exact kk _
set_option maxHeartbeats 4000000 in
set_option maxRecDepth 100000 in
theorem w_case_18 {X : q_X} {G : q_G} {x : q_A} {Q : State → Prop} {k n b L i : Nat} {xs : Nat → Int32} {σ υ : q_S} {e : Nat} {v w : Int32} (hx : q_Cx X G RL cL_law 10 20) (hNc : q_NcX X) (hs : q_Sc X G b L xs) (hkR : q_kR X (k + 1) (n + 6)) (hfl : (q_Xl X).stackTraces = false) (hiL : i + 4 ≤ L) (hL : L ≤ 2048) (h1 : f_X9_closes σ (xs (i + 1)) = (e, v)) (he : e = 0 ∨ e = 1 ∨ e = 4) (h2 : f_X10_closes σ (xs (i + 1)) = some (w, υ)) (h3 : f_X10_thrown υ = q_cd [1, 4] e) (h4 : e = 0 → v = w) (kk : ∀ x : q_A, q_Wq X G x 10 Q (k + 1) (n + 6) 2353 [(0, .ref b), (1, .ref (G.2.1 + 0)), (2, .ref (G.2.1 + 292)), (3, .ref (G.2.1 + 303)), (4, .ref (G.2.1 + 304)), (5, .int (Int32.ofNat i))] [] υ) : q_Wq X G x 10 Q k n 1437 [(0, .ref b), (1, .ref (G.2.1 + 0)), (2, .ref (G.2.1 + 292)), (3, .ref (G.2.1 + 303)), (4, .ref (G.2.1 + 304)), (5, .int (Int32.ofNat i))] [] σ := by
  refine q_aload_n hx dL_law_1437 1 rfl ?_
  refine q_aload_n hx dL_law_1438 0 rfl ?_
  refine q_iload hx dL_law_1439 5 rfl ?_
  refine q_iconst (v := 1) hx dL_law_1441 (by decide) ?_
  refine q_iadd hx dL_law_1442 ?_
  refine q_sld (j := i + 1) hx hs (q_ixc (c := 1) (by omega)).1 (q_ixc (c := 1) (by omega)).2 (by omega) dL_law_1443 ?_
  refine q_aload_n hx dL_law_1444 3 rfl ?_
  refine q_callW (np := 3) (As := [.ref (G.2.1 + 0), .int (xs (i + 1)), .ref (G.2.1 + 303)]) (rest := []) hx hNc hkR (c_L_closes (q_Xl X) G x σ (xs (i + 1)) h1 he hfl) q_lml_197 q_lcw_closes q_lin (by decide) (by decide) (by decide) q_lst_closes (by decide) rfl (Nat.le_of_ble_eq_true rfl) dL_law_1445 rfl ?_
  refine q_istore hx [(6, .int (q_cd [1, 4] e)), (0, .ref b), (1, .ref (G.2.1 + 0)), (2, .ref (G.2.1 + 292)), (3, .ref (G.2.1 + 303)), (4, .ref (G.2.1 + 304)), (5, .int (Int32.ofNat i))] dL_law_1448 (by decide) rfl ?_
  refine q_aload_n hx dL_law_1450 3 rfl ?_
  refine q_aload_n hx dL_law_1451 1 rfl ?_
  refine q_iload hx dL_law_1452 6 rfl ?_
  refine q_iconst (v := 1) hx dL_law_1454 (by decide) ?_
  refine q_iadd hx dL_law_1455 ?_
  refine q_sld (j := i + 1) hx hs (q_ixc (c := 1) (by omega)).1 (q_ixc (c := 1) (by omega)).2 (by omega) dL_law_1456 ?_
  refine q_callVi (As := [.int (xs (i + 1))]) (rest := []) hx (q_kR_le hkR (by omega) (by omega)) (c_X10_closes (q_Xl X) G (if e = 0 then (v.toInt64, x.2) else x) σ ((xs (i + 1))) h2) q_lmv_199 q_mn_X10_closes q_mi_X10_closes q_se_X10_closes (by decide) rfl (Nat.le_of_ble_eq_true rfl) dL_law_1457 (q_ne kd_292 (by decide)) (q_e10 kd_292) rfl rfl rfl ?_
  refine q_istore hx [(7, .int w), (6, .int (q_cd [1, 4] e)), (0, .ref b), (1, .ref (G.2.1 + 0)), (2, .ref (G.2.1 + 292)), (3, .ref (G.2.1 + 303)), (4, .ref (G.2.1 + 304)), (5, .int (Int32.ofNat i))] dL_law_1460 (by decide) rfl ?_
  refine q_aload_n hx dL_law_1462 4 rfl ?_
  refine q_callVi (As := []) (rest := []) hx (q_kR_le hkR (by omega) (by omega)) (c_X10_thrown (q_Xl X) G (if e = 0 then (v.toInt64, x.2) else x) υ) q_lmv_140 q_mn_X10_thrown q_mi_X10_thrown q_se_X10_thrown (by decide) rfl (Nat.le_of_ble_eq_true rfl) dL_law_1463 (q_ne kd_292 (by decide)) (q_e10 kd_292) rfl rfl rfl ?_
  refine q_iload hx dL_law_1466 1 rfl ?_
  refine q_icmp_eq hx 1473 dL_law_1468 (by decide) (fun _ => ?_) (fun hn => absurd h3 hn)
  refine q_iload hx dL_law_1473 1 rfl ?_
  have hz : q_cd [1, 4] e = 0 → e = 0 := by
    rcases he with rfl | rfl | rfl <;> intro hq <;> first | rfl | exact absurd hq (by decide)
  refine q_if_ne hx 1490 dL_law_1475 (by decide) (fun _ => ?_) (fun he0 => ?_)
  · skip
    refine q_goto hx 2353 dL_law_1490 (by decide) ?_
    refine q_sub [2, 3, 4, 5, 6, 7] rfl ?_
    exact kk _
  replace he0 := hz he0
  refine q_aload_n hx dL_law_1478 5 rfl ?_
  refine q_iconst (v := 0) hx dL_law_1479 (by decide) ?_
  refine q_lald hx dL_law_1480 ?_
  refine q_iload hx dL_law_1481 0 rfl ?_
  refine q_i2l hx dL_law_1483 ?_
  refine q_lcmp hx dL_law_1484 ?_
  refine q_if_eq hx 1490 dL_law_1485 (by decide) (fun _ => ?_) (fun hn => absurd (q_cmp0 (by rw [if_pos he0, h4 he0])) hn)
  refine q_goto hx 2353 dL_law_1490 (by decide) ?_
  refine q_sub [2, 3, 4, 5, 6, 7] rfl ?_
  exact kk _
set_option maxHeartbeats 4000000 in
set_option maxRecDepth 100000 in
theorem w_case_19 {X : q_X} {G : q_G} {x : q_A} {Q : State → Prop} {k n b L i : Nat} {xs : Nat → Int32} {σ τ υ : q_S} {e : Nat} {v w : Int32} (hx : q_Cx X G RL cL_law 10 20) (hNc : q_NcX X) (hs : q_Sc X G b L xs) (hkR : q_kR X (k + 1) (n + 6)) (hfl : (q_Xl X).stackTraces = false) (hiL : i + 4 ≤ L) (hL : L ≤ 2048) (h1 : f_X9_would σ (xs (i + 1)) (xs (i + 2)) = some (e, v, τ)) (he : e = 0 ∨ e = 1 ∨ e = 2) (h2 : f_X10_would τ (xs (i + 1)) (xs (i + 2)) = some (w, υ)) (h3 : f_X10_thrown υ = q_cd [1, 2] e) (h4 : e = 0 → v = w) (kk : ∀ x : q_A, q_Wq X G x 10 Q (k + 1) (n + 6) 2353 [(0, .ref b), (1, .ref (G.2.1 + 0)), (2, .ref (G.2.1 + 292)), (3, .ref (G.2.1 + 303)), (4, .ref (G.2.1 + 304)), (5, .int (Int32.ofNat i))] [] υ) : q_Wq X G x 10 Q k n 1493 [(0, .ref b), (1, .ref (G.2.1 + 0)), (2, .ref (G.2.1 + 292)), (3, .ref (G.2.1 + 303)), (4, .ref (G.2.1 + 304)), (5, .int (Int32.ofNat i))] [] σ := by
  refine q_aload_n hx dL_law_1493 1 rfl ?_
  refine q_aload_n hx dL_law_1494 0 rfl ?_
  refine q_iload hx dL_law_1495 5 rfl ?_
  refine q_iconst (v := 1) hx dL_law_1497 (by decide) ?_
  refine q_iadd hx dL_law_1498 ?_
  refine q_sld (j := i + 1) hx hs (q_ixc (c := 1) (by omega)).1 (q_ixc (c := 1) (by omega)).2 (by omega) dL_law_1499 ?_
  refine q_aload_n hx dL_law_1500 0 rfl ?_
  refine q_iload hx dL_law_1501 5 rfl ?_
  refine q_iconst (v := 2) hx dL_law_1503 (by decide) ?_
  refine q_iadd hx dL_law_1504 ?_
  refine q_sld (j := i + 2) hx hs (q_ixc (c := 2) (by omega)).1 (q_ixc (c := 2) (by omega)).2 (by omega) dL_law_1505 ?_
  refine q_aload_n hx dL_law_1506 3 rfl ?_
  refine q_callW (np := 4) (As := [.ref (G.2.1 + 0), .int (xs (i + 1)), .int (xs (i + 2)), .ref (G.2.1 + 303)]) (rest := []) hx hNc hkR (c_L_would (q_Xl X) G x σ (xs (i + 1)) (xs (i + 2)) h1 he hfl) q_lml_200 q_lcw_would q_lin (by decide) (by decide) (by decide) q_lst_would (by decide) rfl (Nat.le_of_ble_eq_true rfl) dL_law_1507 rfl ?_
  refine q_istore hx [(6, .int (q_cd [1, 2] e)), (0, .ref b), (1, .ref (G.2.1 + 0)), (2, .ref (G.2.1 + 292)), (3, .ref (G.2.1 + 303)), (4, .ref (G.2.1 + 304)), (5, .int (Int32.ofNat i))] dL_law_1510 (by decide) rfl ?_
  refine q_aload_n hx dL_law_1512 3 rfl ?_
  refine q_aload_n hx dL_law_1513 1 rfl ?_
  refine q_iload hx dL_law_1514 6 rfl ?_
  refine q_iconst (v := 1) hx dL_law_1516 (by decide) ?_
  refine q_iadd hx dL_law_1517 ?_
  refine q_sld (j := i + 1) hx hs (q_ixc (c := 1) (by omega)).1 (q_ixc (c := 1) (by omega)).2 (by omega) dL_law_1518 ?_
  refine q_aload_n hx dL_law_1519 1 rfl ?_
  refine q_iload hx dL_law_1520 6 rfl ?_
  refine q_iconst (v := 2) hx dL_law_1522 (by decide) ?_
  refine q_iadd hx dL_law_1523 ?_
  refine q_sld (j := i + 2) hx hs (q_ixc (c := 2) (by omega)).1 (q_ixc (c := 2) (by omega)).2 (by omega) dL_law_1524 ?_
  refine q_callVi (As := [.int (xs (i + 1)), .int (xs (i + 2))]) (rest := []) hx (q_kR_le hkR (by omega) (by omega)) (c_X10_would (q_Xl X) G (if e = 0 then (v.toInt64, x.2) else x) τ ((xs (i + 1))) ((xs (i + 2))) h2) q_lmv_202 q_mn_X10_would q_mi_X10_would q_se_X10_would (by decide) rfl (Nat.le_of_ble_eq_true rfl) dL_law_1525 (q_ne kd_292 (by decide)) (q_e10 kd_292) rfl rfl rfl ?_
  refine q_istore hx [(7, .int w), (6, .int (q_cd [1, 2] e)), (0, .ref b), (1, .ref (G.2.1 + 0)), (2, .ref (G.2.1 + 292)), (3, .ref (G.2.1 + 303)), (4, .ref (G.2.1 + 304)), (5, .int (Int32.ofNat i))] dL_law_1528 (by decide) rfl ?_
  refine q_aload_n hx dL_law_1530 4 rfl ?_
  refine q_callVi (As := []) (rest := []) hx (q_kR_le hkR (by omega) (by omega)) (c_X10_thrown (q_Xl X) G (if e = 0 then (v.toInt64, x.2) else x) υ) q_lmv_140 q_mn_X10_thrown q_mi_X10_thrown q_se_X10_thrown (by decide) rfl (Nat.le_of_ble_eq_true rfl) dL_law_1531 (q_ne kd_292 (by decide)) (q_e10 kd_292) rfl rfl rfl ?_
  refine q_iload hx dL_law_1534 1 rfl ?_
  refine q_icmp_eq hx 1541 dL_law_1536 (by decide) (fun _ => ?_) (fun hn => absurd h3 hn)
  refine q_iload hx dL_law_1541 1 rfl ?_
  have hz : q_cd [1, 2] e = 0 → e = 0 := by
    rcases he with rfl | rfl | rfl <;> intro hq <;> first | rfl | exact absurd hq (by decide)
  refine q_if_ne hx 1558 dL_law_1543 (by decide) (fun _ => ?_) (fun he0 => ?_)
  · skip
    refine q_goto hx 2353 dL_law_1558 (by decide) ?_
    refine q_sub [2, 3, 4, 5, 6, 7] rfl ?_
    exact kk _
  replace he0 := hz he0
  refine q_aload_n hx dL_law_1546 5 rfl ?_
  refine q_iconst (v := 0) hx dL_law_1547 (by decide) ?_
  refine q_lald hx dL_law_1548 ?_
  refine q_iload hx dL_law_1549 0 rfl ?_
  refine q_i2l hx dL_law_1551 ?_
  refine q_lcmp hx dL_law_1552 ?_
  refine q_if_eq hx 1558 dL_law_1553 (by decide) (fun _ => ?_) (fun hn => absurd (q_cmp0 (by rw [if_pos he0, h4 he0])) hn)
  refine q_goto hx 2353 dL_law_1558 (by decide) ?_
  refine q_sub [2, 3, 4, 5, 6, 7] rfl ?_
  exact kk _
set_option maxHeartbeats 4000000 in
set_option maxRecDepth 100000 in
theorem w_case_20 {X : q_X} {G : q_G} {x : q_A} {Q : State → Prop} {k n b L i : Nat} {xs : Nat → Int32} {σ τ υ : q_S} {e : Nat} {v w : Int32} (hx : q_Cx X G RL cL_law 10 20) (hNc : q_NcX X) (hs : q_Sc X G b L xs) (hkR : q_kR X (k + 1) (n + 6)) (hfl : (q_Xl X).stackTraces = false) (hiL : i + 4 ≤ L) (hL : L ≤ 2048) (h1 : f_X9_ranked σ (xs (i + 1)) = some (e, v, τ)) (he : e = 0 ∨ e = 4) (h2 : f_X10_ranked τ (xs (i + 1)) = some (w, υ)) (h3 : f_X10_thrown υ = q_cd [4] e) (h4 : e = 0 → v = w) (kk : ∀ x : q_A, q_Wq X G x 10 Q (k + 1) (n + 6) 2353 [(0, .ref b), (1, .ref (G.2.1 + 0)), (2, .ref (G.2.1 + 292)), (3, .ref (G.2.1 + 303)), (4, .ref (G.2.1 + 304)), (5, .int (Int32.ofNat i))] [] υ) : q_Wq X G x 10 Q k n 1561 [(0, .ref b), (1, .ref (G.2.1 + 0)), (2, .ref (G.2.1 + 292)), (3, .ref (G.2.1 + 303)), (4, .ref (G.2.1 + 304)), (5, .int (Int32.ofNat i))] [] σ := by
  refine q_aload_n hx dL_law_1561 1 rfl ?_
  refine q_aload_n hx dL_law_1562 0 rfl ?_
  refine q_iload hx dL_law_1563 5 rfl ?_
  refine q_iconst (v := 1) hx dL_law_1565 (by decide) ?_
  refine q_iadd hx dL_law_1566 ?_
  refine q_sld (j := i + 1) hx hs (q_ixc (c := 1) (by omega)).1 (q_ixc (c := 1) (by omega)).2 (by omega) dL_law_1567 ?_
  refine q_aload_n hx dL_law_1568 3 rfl ?_
  refine q_callW (np := 3) (As := [.ref (G.2.1 + 0), .int (xs (i + 1)), .ref (G.2.1 + 303)]) (rest := []) hx hNc hkR (c_L_ranked (q_Xl X) G x σ (xs (i + 1)) h1 he hfl) q_lml_203 q_lcw_ranked q_lin (by decide) (by decide) (by decide) q_lst_ranked (by decide) rfl (Nat.le_of_ble_eq_true rfl) dL_law_1569 rfl ?_
  refine q_istore hx [(6, .int (q_cd [4] e)), (0, .ref b), (1, .ref (G.2.1 + 0)), (2, .ref (G.2.1 + 292)), (3, .ref (G.2.1 + 303)), (4, .ref (G.2.1 + 304)), (5, .int (Int32.ofNat i))] dL_law_1572 (by decide) rfl ?_
  refine q_aload_n hx dL_law_1574 3 rfl ?_
  refine q_aload_n hx dL_law_1575 1 rfl ?_
  refine q_iload hx dL_law_1576 6 rfl ?_
  refine q_iconst (v := 1) hx dL_law_1578 (by decide) ?_
  refine q_iadd hx dL_law_1579 ?_
  refine q_sld (j := i + 1) hx hs (q_ixc (c := 1) (by omega)).1 (q_ixc (c := 1) (by omega)).2 (by omega) dL_law_1580 ?_
  refine q_callVi (As := [.int (xs (i + 1))]) (rest := []) hx (q_kR_le hkR (by omega) (by omega)) (c_X10_ranked (q_Xl X) G (if e = 0 then (v.toInt64, x.2) else x) τ ((xs (i + 1))) h2) q_lmv_205 q_mn_X10_ranked q_mi_X10_ranked q_se_X10_ranked (by decide) rfl (Nat.le_of_ble_eq_true rfl) dL_law_1581 (q_ne kd_292 (by decide)) (q_e10 kd_292) rfl rfl rfl ?_
  refine q_istore hx [(7, .int w), (6, .int (q_cd [4] e)), (0, .ref b), (1, .ref (G.2.1 + 0)), (2, .ref (G.2.1 + 292)), (3, .ref (G.2.1 + 303)), (4, .ref (G.2.1 + 304)), (5, .int (Int32.ofNat i))] dL_law_1584 (by decide) rfl ?_
  refine q_aload_n hx dL_law_1586 4 rfl ?_
  refine q_callVi (As := []) (rest := []) hx (q_kR_le hkR (by omega) (by omega)) (c_X10_thrown (q_Xl X) G (if e = 0 then (v.toInt64, x.2) else x) υ) q_lmv_140 q_mn_X10_thrown q_mi_X10_thrown q_se_X10_thrown (by decide) rfl (Nat.le_of_ble_eq_true rfl) dL_law_1587 (q_ne kd_292 (by decide)) (q_e10 kd_292) rfl rfl rfl ?_
  refine q_iload hx dL_law_1590 1 rfl ?_
  refine q_icmp_eq hx 1597 dL_law_1592 (by decide) (fun _ => ?_) (fun hn => absurd h3 hn)
  refine q_iload hx dL_law_1597 1 rfl ?_
  have hz : q_cd [4] e = 0 → e = 0 := by
    rcases he with rfl | rfl <;> intro hq <;> first | rfl | exact absurd hq (by decide)
  refine q_if_ne hx 1614 dL_law_1599 (by decide) (fun _ => ?_) (fun he0 => ?_)
  · skip
    refine q_goto hx 2353 dL_law_1614 (by decide) ?_
    refine q_sub [2, 3, 4, 5, 6, 7] rfl ?_
    exact kk _
  replace he0 := hz he0
  refine q_aload_n hx dL_law_1602 5 rfl ?_
  refine q_iconst (v := 0) hx dL_law_1603 (by decide) ?_
  refine q_lald hx dL_law_1604 ?_
  refine q_iload hx dL_law_1605 0 rfl ?_
  refine q_i2l hx dL_law_1607 ?_
  refine q_lcmp hx dL_law_1608 ?_
  refine q_if_eq hx 1614 dL_law_1609 (by decide) (fun _ => ?_) (fun hn => absurd (q_cmp0 (by rw [if_pos he0, h4 he0])) hn)
  refine q_goto hx 2353 dL_law_1614 (by decide) ?_
  refine q_sub [2, 3, 4, 5, 6, 7] rfl ?_
  exact kk _
set_option maxHeartbeats 4000000 in
set_option maxRecDepth 100000 in
theorem w_case_21 {X : q_X} {G : q_G} {x : q_A} {Q : State → Prop} {k n b L i : Nat} {xs : Nat → Int32} {σ υ : q_S} {e : Nat} {v w : Int32} (hx : q_Cx X G RL cL_law 10 20) (hNc : q_NcX X) (hs : q_Sc X G b L xs) (hkR : q_kR X (k + 1) (n + 6)) (hfl : (q_Xl X).stackTraces = false) (hiL : i + 4 ≤ L) (hL : L ≤ 2048) (h1 : f_X9_nextLit σ = some (e, v)) (he : e = 0 ∨ e = 4) (h2 : f_X10_nextLit σ = some (w, υ)) (h3 : f_X10_thrown υ = q_cd [4] e) (h4 : e = 0 → v = w) (kk : ∀ x : q_A, q_Wq X G x 10 Q (k + 1) (n + 6) 2353 [(0, .ref b), (1, .ref (G.2.1 + 0)), (2, .ref (G.2.1 + 292)), (3, .ref (G.2.1 + 303)), (4, .ref (G.2.1 + 304)), (5, .int (Int32.ofNat i))] [] υ) : q_Wq X G x 10 Q k n 1617 [(0, .ref b), (1, .ref (G.2.1 + 0)), (2, .ref (G.2.1 + 292)), (3, .ref (G.2.1 + 303)), (4, .ref (G.2.1 + 304)), (5, .int (Int32.ofNat i))] [] σ := by
  refine q_aload_n hx dL_law_1617 1 rfl ?_
  refine q_aload_n hx dL_law_1618 3 rfl ?_
  refine q_callW (np := 2) (As := [.ref (G.2.1 + 0), .ref (G.2.1 + 303)]) (rest := []) hx hNc hkR (c_L_nextLit (q_Xl X) G x σ  h1 he hfl) q_lml_206 q_lcw_nextLit q_lin (by decide) (by decide) (by decide) q_lst_nextLit (by decide) rfl (Nat.le_of_ble_eq_true rfl) dL_law_1619 rfl ?_
  refine q_istore hx [(6, .int (q_cd [4] e)), (0, .ref b), (1, .ref (G.2.1 + 0)), (2, .ref (G.2.1 + 292)), (3, .ref (G.2.1 + 303)), (4, .ref (G.2.1 + 304)), (5, .int (Int32.ofNat i))] dL_law_1622 (by decide) rfl ?_
  refine q_aload_n hx dL_law_1624 3 rfl ?_
  refine q_callVi (As := []) (rest := []) hx (q_kR_le hkR (by omega) (by omega)) (c_X10_nextLit (q_Xl X) G (if e = 0 then (v.toInt64, x.2) else x) σ  h2) q_lmv_209 q_mn_X10_nextLit q_mi_X10_nextLit q_se_X10_nextLit (by decide) rfl (Nat.le_of_ble_eq_true rfl) dL_law_1625 (q_ne kd_292 (by decide)) (q_e10 kd_292) rfl rfl rfl ?_
  refine q_istore hx [(7, .int w), (6, .int (q_cd [4] e)), (0, .ref b), (1, .ref (G.2.1 + 0)), (2, .ref (G.2.1 + 292)), (3, .ref (G.2.1 + 303)), (4, .ref (G.2.1 + 304)), (5, .int (Int32.ofNat i))] dL_law_1628 (by decide) rfl ?_
  refine q_aload_n hx dL_law_1630 4 rfl ?_
  refine q_callVi (As := []) (rest := []) hx (q_kR_le hkR (by omega) (by omega)) (c_X10_thrown (q_Xl X) G (if e = 0 then (v.toInt64, x.2) else x) υ) q_lmv_140 q_mn_X10_thrown q_mi_X10_thrown q_se_X10_thrown (by decide) rfl (Nat.le_of_ble_eq_true rfl) dL_law_1631 (q_ne kd_292 (by decide)) (q_e10 kd_292) rfl rfl rfl ?_
  refine q_iload hx dL_law_1634 1 rfl ?_
  refine q_icmp_eq hx 1641 dL_law_1636 (by decide) (fun _ => ?_) (fun hn => absurd h3 hn)
  refine q_iload hx dL_law_1641 1 rfl ?_
  have hz : q_cd [4] e = 0 → e = 0 := by
    rcases he with rfl | rfl <;> intro hq <;> first | rfl | exact absurd hq (by decide)
  refine q_if_ne hx 1658 dL_law_1643 (by decide) (fun _ => ?_) (fun he0 => ?_)
  · skip
    refine q_goto hx 2353 dL_law_1658 (by decide) ?_
    refine q_sub [2, 3, 4, 5, 6, 7] rfl ?_
    exact kk _
  replace he0 := hz he0
  refine q_aload_n hx dL_law_1646 5 rfl ?_
  refine q_iconst (v := 0) hx dL_law_1647 (by decide) ?_
  refine q_lald hx dL_law_1648 ?_
  refine q_iload hx dL_law_1649 0 rfl ?_
  refine q_i2l hx dL_law_1651 ?_
  refine q_lcmp hx dL_law_1652 ?_
  refine q_if_eq hx 1658 dL_law_1653 (by decide) (fun _ => ?_) (fun hn => absurd (q_cmp0 (by rw [if_pos he0, h4 he0])) hn)
  refine q_goto hx 2353 dL_law_1658 (by decide) ?_
  refine q_sub [2, 3, 4, 5, 6, 7] rfl ?_
  exact kk _
set_option maxHeartbeats 4000000 in
set_option maxRecDepth 100000 in
theorem w_case_22 {X : q_X} {G : q_G} {x : q_A} {Q : State → Prop} {k n b L i : Nat} {xs : Nat → Int32} {σ τ υ : q_S} {v w : Int32} (hx : q_Cx X G RL cL_law 10 20) (hNc : q_NcX X) (hs : q_Sc X G b L xs) (hkR : q_kR X (k + 1) (n + 6)) (hfl : (q_Xl X).stackTraces = false) (hiL : i + 4 ≤ L) (hL : L ≤ 2048) (h1 : f_X9_isWell σ = some (v, τ)) (h2 : f_X10_isWell τ = (w, υ)) (h4 : v = w) (kk : ∀ x : q_A, q_Wq X G x 10 Q (k + 1) (n + 6) 2353 [(0, .ref b), (1, .ref (G.2.1 + 0)), (2, .ref (G.2.1 + 292)), (3, .ref (G.2.1 + 303)), (4, .ref (G.2.1 + 304)), (5, .int (Int32.ofNat i))] [] υ) : q_Wq X G x 10 Q k n 1661 [(0, .ref b), (1, .ref (G.2.1 + 0)), (2, .ref (G.2.1 + 292)), (3, .ref (G.2.1 + 303)), (4, .ref (G.2.1 + 304)), (5, .int (Int32.ofNat i))] [] σ := by
  refine q_aload_n hx dL_law_1661 1 rfl ?_
  refine q_callVi (As := []) (rest := []) hx (q_kR_le hkR (by omega) (by omega)) (c_X9_isWell (q_Xl X) G x σ  h1) q_lmv_210 q_mn_X9_isWell q_mi_X9_isWell q_se_X9_isWell (by decide) rfl (Nat.le_of_ble_eq_true rfl) dL_law_1662 (q_ne kd_0 (by decide)) (q_e9 kd_0) rfl rfl rfl ?_
  refine q_aload_n hx dL_law_1665 2 rfl ?_
  refine q_callVi (As := []) (rest := [.int v]) hx (q_kR_le hkR (by omega) (by omega)) (ca_X10_isWell (q_Xl X) G x τ  h2) q_lmv_214 q_mn_X10_isWell q_mi_X10_isWell q_se_X10_isWell (by decide) rfl (Nat.le_of_ble_eq_true rfl) dL_law_1666 (q_ne kd_292 (by decide)) (q_e10 kd_292) rfl rfl rfl ?_
  refine q_icmp_eq hx 2353 dL_law_1669 (by decide) (fun _ => ?_) (fun hn => absurd h4 hn)
  refine q_sub [0, 1, 2, 3, 4, 5] rfl ?_
  refine q_Wq.widen (k2 := k + 1) (n2 := n + 6) (Nat.le_add_right _ _) (Nat.le_add_right _ _) ?_
  exact kk _
set_option maxHeartbeats 4000000 in
set_option maxRecDepth 100000 in
theorem w_case_23 {X : q_X} {G : q_G} {x : q_A} {Q : State → Prop} {k n b L i : Nat} {xs : Nat → Int32} {σ τ υ : q_S} {e : Nat} {v w : Int32} (hx : q_Cx X G RL cL_law 10 20) (hNc : q_NcX X) (hs : q_Sc X G b L xs) (hkR : q_kR X (k + 1) (n + 6)) (hfl : (q_Xl X).stackTraces = false) (hiL : i + 4 ≤ L) (hL : L ≤ 2048) (h1 : f_X9_type σ (((xs (i + 1)).toUInt32 % 65536).toInt32) = some (e, v, τ)) (he : e = 0 ∨ e = 5) (h2 : f_X10_type τ (((xs (i + 1)).toUInt32 % 65536).toInt32) = some (w, υ)) (h3 : f_X10_thrown υ = q_cd [5] e) (h4 : e = 0 → v = w) (kk : ∀ x : q_A, q_Wq X G x 10 Q (k + 1) (n + 6) 2353 [(0, .ref b), (1, .ref (G.2.1 + 0)), (2, .ref (G.2.1 + 292)), (3, .ref (G.2.1 + 303)), (4, .ref (G.2.1 + 304)), (5, .int (Int32.ofNat i))] [] υ) : q_Wq X G x 10 Q k n 1674 [(0, .ref b), (1, .ref (G.2.1 + 0)), (2, .ref (G.2.1 + 292)), (3, .ref (G.2.1 + 303)), (4, .ref (G.2.1 + 304)), (5, .int (Int32.ofNat i))] [] σ := by
  refine q_aload_n hx dL_law_1674 1 rfl ?_
  refine q_aload_n hx dL_law_1675 0 rfl ?_
  refine q_iload hx dL_law_1676 5 rfl ?_
  refine q_iconst (v := 1) hx dL_law_1678 (by decide) ?_
  refine q_iadd hx dL_law_1679 ?_
  refine q_sld (j := i + 1) hx hs (q_ixc (c := 1) (by omega)).1 (q_ixc (c := 1) (by omega)).2 (by omega) dL_law_1680 ?_
  refine q_i2c hx dL_law_1681 ?_
  refine q_aload_n hx dL_law_1682 3 rfl ?_
  refine q_callW (np := 3) (As := [.ref (G.2.1 + 0), .int ((xs (i + 1)).toUInt32 % 65536).toInt32, .ref (G.2.1 + 303)]) (rest := []) hx hNc hkR (c_L_type (q_Xl X) G x σ (((xs (i + 1)).toUInt32 % 65536).toInt32) h1 he hfl) q_lml_215 q_lcw_type q_lin (by decide) (by decide) (by decide) q_lst_type (by decide) rfl (Nat.le_of_ble_eq_true rfl) dL_law_1683 rfl ?_
  refine q_istore hx [(6, .int (q_cd [5] e)), (0, .ref b), (1, .ref (G.2.1 + 0)), (2, .ref (G.2.1 + 292)), (3, .ref (G.2.1 + 303)), (4, .ref (G.2.1 + 304)), (5, .int (Int32.ofNat i))] dL_law_1686 (by decide) rfl ?_
  refine q_aload_n hx dL_law_1688 3 rfl ?_
  refine q_aload_n hx dL_law_1689 1 rfl ?_
  refine q_iload hx dL_law_1690 6 rfl ?_
  refine q_iconst (v := 1) hx dL_law_1692 (by decide) ?_
  refine q_iadd hx dL_law_1693 ?_
  refine q_sld (j := i + 1) hx hs (q_ixc (c := 1) (by omega)).1 (q_ixc (c := 1) (by omega)).2 (by omega) dL_law_1694 ?_
  refine q_i2c hx dL_law_1695 ?_
  refine q_callVi (As := [.int ((xs (i + 1)).toUInt32 % 65536).toInt32]) (rest := []) hx (q_kR_le hkR (by omega) (by omega)) (c_X10_type (q_Xl X) G (if e = 0 then (v.toInt64, x.2) else x) τ (((xs (i + 1)).toUInt32 % 65536).toInt32) h2) q_lmv_218 q_mn_X10_type q_mi_X10_type q_se_X10_type (by decide) rfl (Nat.le_of_ble_eq_true rfl) dL_law_1696 (q_ne kd_292 (by decide)) (q_e10 kd_292) rfl rfl rfl ?_
  refine q_istore hx [(7, .int w), (6, .int (q_cd [5] e)), (0, .ref b), (1, .ref (G.2.1 + 0)), (2, .ref (G.2.1 + 292)), (3, .ref (G.2.1 + 303)), (4, .ref (G.2.1 + 304)), (5, .int (Int32.ofNat i))] dL_law_1699 (by decide) rfl ?_
  refine q_aload_n hx dL_law_1701 4 rfl ?_
  refine q_callVi (As := []) (rest := []) hx (q_kR_le hkR (by omega) (by omega)) (c_X10_thrown (q_Xl X) G (if e = 0 then (v.toInt64, x.2) else x) υ) q_lmv_140 q_mn_X10_thrown q_mi_X10_thrown q_se_X10_thrown (by decide) rfl (Nat.le_of_ble_eq_true rfl) dL_law_1702 (q_ne kd_292 (by decide)) (q_e10 kd_292) rfl rfl rfl ?_
  refine q_iload hx dL_law_1705 1 rfl ?_
  refine q_icmp_eq hx 1712 dL_law_1707 (by decide) (fun _ => ?_) (fun hn => absurd h3 hn)
  refine q_iload hx dL_law_1712 1 rfl ?_
  have hz : q_cd [5] e = 0 → e = 0 := by
    rcases he with rfl | rfl <;> intro hq <;> first | rfl | exact absurd hq (by decide)
  refine q_if_ne hx 1729 dL_law_1714 (by decide) (fun _ => ?_) (fun he0 => ?_)
  · skip
    refine q_goto hx 2353 dL_law_1729 (by decide) ?_
    refine q_sub [2, 3, 4, 5, 6, 7] rfl ?_
    exact kk _
  replace he0 := hz he0
  refine q_aload_n hx dL_law_1717 5 rfl ?_
  refine q_iconst (v := 0) hx dL_law_1718 (by decide) ?_
  refine q_lald hx dL_law_1719 ?_
  refine q_iload hx dL_law_1720 0 rfl ?_
  refine q_i2l hx dL_law_1722 ?_
  refine q_lcmp hx dL_law_1723 ?_
  refine q_if_eq hx 1729 dL_law_1724 (by decide) (fun _ => ?_) (fun hn => absurd (q_cmp0 (by rw [if_pos he0, h4 he0])) hn)
  refine q_goto hx 2353 dL_law_1729 (by decide) ?_
  refine q_sub [2, 3, 4, 5, 6, 7] rfl ?_
  exact kk _
set_option maxHeartbeats 4000000 in
set_option maxRecDepth 100000 in
theorem w_case_24 {X : q_X} {G : q_G} {x : q_A} {Q : State → Prop} {k n b L i : Nat} {xs : Nat → Int32} {σ τ υ : q_S} {e : Nat} {v w : Int32} (hx : q_Cx X G RL cL_law 10 20) (hNc : q_NcX X) (hs : q_Sc X G b L xs) (hkR : q_kR X (k + 1) (n + 6)) (hfl : (q_Xl X).stackTraces = false) (hiL : i + 4 ≤ L) (hL : L ≤ 2048) (h1 : f_X9_read σ = some (e, v, τ)) (he : e = 0 ∨ e = 2 ∨ e = 3) (h2 : f_X10_read τ = some (w, υ)) (h3 : f_X10_thrown υ = q_cd [2, 3] e) (h4 : e = 0 → v = w) (kk : ∀ x : q_A, q_Wq X G x 10 Q (k + 1) (n + 6) 2353 [(0, .ref b), (1, .ref (G.2.1 + 0)), (2, .ref (G.2.1 + 292)), (3, .ref (G.2.1 + 303)), (4, .ref (G.2.1 + 304)), (5, .int (Int32.ofNat i))] [] υ) : q_Wq X G x 10 Q k n 1732 [(0, .ref b), (1, .ref (G.2.1 + 0)), (2, .ref (G.2.1 + 292)), (3, .ref (G.2.1 + 303)), (4, .ref (G.2.1 + 304)), (5, .int (Int32.ofNat i))] [] σ := by
  refine q_aload_n hx dL_law_1732 1 rfl ?_
  refine q_aload_n hx dL_law_1733 3 rfl ?_
  refine q_callW (np := 2) (As := [.ref (G.2.1 + 0), .ref (G.2.1 + 303)]) (rest := []) hx hNc hkR (c_L_read (q_Xl X) G x σ  h1 he hfl) q_lml_219 q_lcw_read q_lin (by decide) (by decide) (by decide) q_lst_read (by decide) rfl (Nat.le_of_ble_eq_true rfl) dL_law_1734 rfl ?_
  refine q_istore hx [(6, .int (q_cd [2, 3] e)), (0, .ref b), (1, .ref (G.2.1 + 0)), (2, .ref (G.2.1 + 292)), (3, .ref (G.2.1 + 303)), (4, .ref (G.2.1 + 304)), (5, .int (Int32.ofNat i))] dL_law_1737 (by decide) rfl ?_
  refine q_aload_n hx dL_law_1739 3 rfl ?_
  refine q_callVi (As := []) (rest := []) hx (q_kR_le hkR (by omega) (by omega)) (c_X10_read (q_Xl X) G (if e = 0 then (v.toInt64, x.2) else x) τ  h2) q_lmv_221 q_mn_X10_read q_mi_X10_read q_se_X10_read (by decide) rfl (Nat.le_of_ble_eq_true rfl) dL_law_1740 (q_ne kd_292 (by decide)) (q_e10 kd_292) rfl rfl rfl ?_
  refine q_istore hx [(7, .int w), (6, .int (q_cd [2, 3] e)), (0, .ref b), (1, .ref (G.2.1 + 0)), (2, .ref (G.2.1 + 292)), (3, .ref (G.2.1 + 303)), (4, .ref (G.2.1 + 304)), (5, .int (Int32.ofNat i))] dL_law_1743 (by decide) rfl ?_
  refine q_aload_n hx dL_law_1745 4 rfl ?_
  refine q_callVi (As := []) (rest := []) hx (q_kR_le hkR (by omega) (by omega)) (c_X10_thrown (q_Xl X) G (if e = 0 then (v.toInt64, x.2) else x) υ) q_lmv_140 q_mn_X10_thrown q_mi_X10_thrown q_se_X10_thrown (by decide) rfl (Nat.le_of_ble_eq_true rfl) dL_law_1746 (q_ne kd_292 (by decide)) (q_e10 kd_292) rfl rfl rfl ?_
  refine q_iload hx dL_law_1749 1 rfl ?_
  refine q_icmp_eq hx 1756 dL_law_1751 (by decide) (fun _ => ?_) (fun hn => absurd h3 hn)
  refine q_iload hx dL_law_1756 1 rfl ?_
  have hz : q_cd [2, 3] e = 0 → e = 0 := by
    rcases he with rfl | rfl | rfl <;> intro hq <;> first | rfl | exact absurd hq (by decide)
  refine q_if_ne hx 1773 dL_law_1758 (by decide) (fun _ => ?_) (fun he0 => ?_)
  · skip
    refine q_goto hx 2353 dL_law_1773 (by decide) ?_
    refine q_sub [2, 3, 4, 5, 6, 7] rfl ?_
    exact kk _
  replace he0 := hz he0
  refine q_aload_n hx dL_law_1761 5 rfl ?_
  refine q_iconst (v := 0) hx dL_law_1762 (by decide) ?_
  refine q_lald hx dL_law_1763 ?_
  refine q_iload hx dL_law_1764 0 rfl ?_
  refine q_i2l hx dL_law_1766 ?_
  refine q_lcmp hx dL_law_1767 ?_
  refine q_if_eq hx 1773 dL_law_1768 (by decide) (fun _ => ?_) (fun hn => absurd (q_cmp0 (by rw [if_pos he0, h4 he0])) hn)
  refine q_goto hx 2353 dL_law_1773 (by decide) ?_
  refine q_sub [2, 3, 4, 5, 6, 7] rfl ?_
  exact kk _
set_option maxHeartbeats 4000000 in
set_option maxRecDepth 100000 in
theorem w_case_25 {X : q_X} {G : q_G} {x : q_A} {Q : State → Prop} {k n b L i : Nat} {xs : Nat → Int32} {σ υ : q_S} {e : Nat} {v w : Int32} (hx : q_Cx X G RL cL_law 10 20) (hNc : q_NcX X) (hs : q_Sc X G b L xs) (hkR : q_kR X (k + 1) (n + 6)) (hfl : (q_Xl X).stackTraces = false) (hiL : i + 4 ≤ L) (hL : L ≤ 2048) (h1 : f_X9_errorPosition σ = (e, v)) (he : e = 0 ∨ e = 4) (h2 : f_X10_errorPosition σ = (w, υ)) (h3 : f_X10_thrown υ = q_cd [4] e) (h4 : e = 0 → v = w) (kk : ∀ x : q_A, q_Wq X G x 10 Q (k + 1) (n + 6) 2353 [(0, .ref b), (1, .ref (G.2.1 + 0)), (2, .ref (G.2.1 + 292)), (3, .ref (G.2.1 + 303)), (4, .ref (G.2.1 + 304)), (5, .int (Int32.ofNat i))] [] υ) : q_Wq X G x 10 Q k n 1776 [(0, .ref b), (1, .ref (G.2.1 + 0)), (2, .ref (G.2.1 + 292)), (3, .ref (G.2.1 + 303)), (4, .ref (G.2.1 + 304)), (5, .int (Int32.ofNat i))] [] σ := by
  refine q_aload_n hx dL_law_1776 1 rfl ?_
  refine q_aload_n hx dL_law_1777 3 rfl ?_
  refine q_callW (np := 2) (As := [.ref (G.2.1 + 0), .ref (G.2.1 + 303)]) (rest := []) hx hNc hkR (c_L_errorPosition (q_Xl X) G x σ  h1 he hfl) q_lml_222 q_lcw_errorPosition q_lin (by decide) (by decide) (by decide) q_lst_errorPosition (by decide) rfl (Nat.le_of_ble_eq_true rfl) dL_law_1778 rfl ?_
  refine q_istore hx [(6, .int (q_cd [4] e)), (0, .ref b), (1, .ref (G.2.1 + 0)), (2, .ref (G.2.1 + 292)), (3, .ref (G.2.1 + 303)), (4, .ref (G.2.1 + 304)), (5, .int (Int32.ofNat i))] dL_law_1781 (by decide) rfl ?_
  refine q_aload_n hx dL_law_1783 3 rfl ?_
  refine q_callVi (As := []) (rest := []) hx (q_kR_le hkR (by omega) (by omega)) (ca_X10_errorPosition (q_Xl X) G (if e = 0 then (v.toInt64, x.2) else x) σ  h2) q_lmv_224 q_mn_X10_errorPosition q_mi_X10_errorPosition q_se_X10_errorPosition (by decide) rfl (Nat.le_of_ble_eq_true rfl) dL_law_1784 (q_ne kd_292 (by decide)) (q_e10 kd_292) rfl rfl rfl ?_
  refine q_istore hx [(7, .int w), (6, .int (q_cd [4] e)), (0, .ref b), (1, .ref (G.2.1 + 0)), (2, .ref (G.2.1 + 292)), (3, .ref (G.2.1 + 303)), (4, .ref (G.2.1 + 304)), (5, .int (Int32.ofNat i))] dL_law_1787 (by decide) rfl ?_
  refine q_aload_n hx dL_law_1789 4 rfl ?_
  refine q_callVi (As := []) (rest := []) hx (q_kR_le hkR (by omega) (by omega)) (c_X10_thrown (q_Xl X) G (if e = 0 then (v.toInt64, x.2) else x) υ) q_lmv_140 q_mn_X10_thrown q_mi_X10_thrown q_se_X10_thrown (by decide) rfl (Nat.le_of_ble_eq_true rfl) dL_law_1790 (q_ne kd_292 (by decide)) (q_e10 kd_292) rfl rfl rfl ?_
  refine q_iload hx dL_law_1793 1 rfl ?_
  refine q_icmp_eq hx 1800 dL_law_1795 (by decide) (fun _ => ?_) (fun hn => absurd h3 hn)
  refine q_iload hx dL_law_1800 1 rfl ?_
  have hz : q_cd [4] e = 0 → e = 0 := by
    rcases he with rfl | rfl <;> intro hq <;> first | rfl | exact absurd hq (by decide)
  refine q_if_ne hx 1817 dL_law_1802 (by decide) (fun _ => ?_) (fun he0 => ?_)
  · skip
    refine q_goto hx 2353 dL_law_1817 (by decide) ?_
    refine q_sub [2, 3, 4, 5, 6, 7] rfl ?_
    exact kk _
  replace he0 := hz he0
  refine q_aload_n hx dL_law_1805 5 rfl ?_
  refine q_iconst (v := 0) hx dL_law_1806 (by decide) ?_
  refine q_lald hx dL_law_1807 ?_
  refine q_iload hx dL_law_1808 0 rfl ?_
  refine q_i2l hx dL_law_1810 ?_
  refine q_lcmp hx dL_law_1811 ?_
  refine q_if_eq hx 1817 dL_law_1812 (by decide) (fun _ => ?_) (fun hn => absurd (q_cmp0 (by rw [if_pos he0, h4 he0])) hn)
  refine q_goto hx 2353 dL_law_1817 (by decide) ?_
  refine q_sub [2, 3, 4, 5, 6, 7] rfl ?_
  exact kk _
set_option maxHeartbeats 4000000 in
set_option maxRecDepth 100000 in
theorem w_case_26 {X : q_X} {G : q_G} {x : q_A} {Q : State → Prop} {k n b L i : Nat} {xs : Nat → Int32} {σ υ : q_S} {e : Nat} {v w : Int32} (hx : q_Cx X G RL cL_law 10 20) (hNc : q_NcX X) (hs : q_Sc X G b L xs) (hkR : q_kR X (k + 1) (n + 6)) (hfl : (q_Xl X).stackTraces = false) (hiL : i + 4 ≤ L) (hL : L ≤ 2048) (h1 : f_X9_refusal σ (q_bz (xs (i + 1))) (q_bz (xs (i + 2))) = (e, v)) (he : e = 0 ∨ e = 4) (h2 : f_X10_refusal σ (q_bz (xs (i + 1))) (q_bz (xs (i + 2))) = (w, υ)) (h3 : f_X10_thrown υ = q_cd [4] e) (h4 : e = 0 → v = w) (kk : ∀ x : q_A, q_Wq X G x 10 Q (k + 1) (n + 6) 2353 [(0, .ref b), (1, .ref (G.2.1 + 0)), (2, .ref (G.2.1 + 292)), (3, .ref (G.2.1 + 303)), (4, .ref (G.2.1 + 304)), (5, .int (Int32.ofNat i))] [] υ) : q_Wq X G x 10 Q k n 1820 [(0, .ref b), (1, .ref (G.2.1 + 0)), (2, .ref (G.2.1 + 292)), (3, .ref (G.2.1 + 303)), (4, .ref (G.2.1 + 304)), (5, .int (Int32.ofNat i))] [] σ := by
  by_cases hz1 : xs (i + 1) = 0
  · skip
    by_cases hz2 : xs (i + 2) = 0
    · skip
      rw [show q_bz (xs (i + 1)) = 0 by rw [q_bz, if_pos hz1]] at h1 h2
      rw [show q_bz (xs (i + 2)) = 0 by rw [q_bz, if_pos hz2]] at h1 h2
      refine q_aload_n hx dL_law_1820 1 rfl ?_
      refine q_aload_n hx dL_law_1821 0 rfl ?_
      refine q_iload hx dL_law_1822 5 rfl ?_
      refine q_iconst (v := 1) hx dL_law_1824 (by decide) ?_
      refine q_iadd hx dL_law_1825 ?_
      refine q_sld (j := i + 1) hx hs (q_ixc (c := 1) (by omega)).1 (q_ixc (c := 1) (by omega)).2 (by omega) dL_law_1826 ?_
      refine q_if_eq hx 1834 dL_law_1827 (by decide) (fun _ => ?_) (fun hn => absurd hz1 hn)
      refine q_iconst (v := 0) hx dL_law_1834 (by decide) ?_
      refine q_aload_n hx dL_law_1835 0 rfl ?_
      refine q_iload hx dL_law_1836 5 rfl ?_
      refine q_iconst (v := 2) hx dL_law_1838 (by decide) ?_
      refine q_iadd hx dL_law_1839 ?_
      refine q_sld (j := i + 2) hx hs (q_ixc (c := 2) (by omega)).1 (q_ixc (c := 2) (by omega)).2 (by omega) dL_law_1840 ?_
      refine q_if_eq hx 1848 dL_law_1841 (by decide) (fun _ => ?_) (fun hn => absurd hz2 hn)
      refine q_iconst (v := 0) hx dL_law_1848 (by decide) ?_
      refine q_aload_n hx dL_law_1849 3 rfl ?_
      refine q_callW (np := 4) (As := [.ref (G.2.1 + 0), .int 0, .int 0, .ref (G.2.1 + 303)]) (rest := []) hx hNc hkR (c_L_refusal (q_Xl X) G x σ 0 0 h1 he hfl) q_lml_225 q_lcw_refusal q_lin (by decide) (by decide) (by decide) q_lst_refusal (by decide) rfl (Nat.le_of_ble_eq_true rfl) dL_law_1850 rfl ?_
      refine q_istore hx [(6, .int (q_cd [4] e)), (0, .ref b), (1, .ref (G.2.1 + 0)), (2, .ref (G.2.1 + 292)), (3, .ref (G.2.1 + 303)), (4, .ref (G.2.1 + 304)), (5, .int (Int32.ofNat i))] dL_law_1853 (by decide) rfl ?_
      refine q_aload_n hx dL_law_1855 3 rfl ?_
      refine q_aload_n hx dL_law_1856 1 rfl ?_
      refine q_iload hx dL_law_1857 6 rfl ?_
      refine q_iconst (v := 1) hx dL_law_1859 (by decide) ?_
      refine q_iadd hx dL_law_1860 ?_
      refine q_sld (j := i + 1) hx hs (q_ixc (c := 1) (by omega)).1 (q_ixc (c := 1) (by omega)).2 (by omega) dL_law_1861 ?_
      refine q_if_eq hx 1869 dL_law_1862 (by decide) (fun _ => ?_) (fun hn => absurd hz1 hn)
      refine q_iconst (v := 0) hx dL_law_1869 (by decide) ?_
      refine q_aload_n hx dL_law_1870 1 rfl ?_
      refine q_iload hx dL_law_1871 6 rfl ?_
      refine q_iconst (v := 2) hx dL_law_1873 (by decide) ?_
      refine q_iadd hx dL_law_1874 ?_
      refine q_sld (j := i + 2) hx hs (q_ixc (c := 2) (by omega)).1 (q_ixc (c := 2) (by omega)).2 (by omega) dL_law_1875 ?_
      refine q_if_eq hx 1883 dL_law_1876 (by decide) (fun _ => ?_) (fun hn => absurd hz2 hn)
      refine q_iconst (v := 0) hx dL_law_1883 (by decide) ?_
      refine q_callVi (As := [.int 0, .int 0]) (rest := []) hx (q_kR_le hkR (by omega) (by omega)) (ca_X10_refusal (q_Xl X) G (if e = 0 then (v.toInt64, x.2) else x) σ 0 0 h2) q_lmv_228 q_mn_X10_refusal q_mi_X10_refusal q_se_X10_refusal (by decide) rfl (Nat.le_of_ble_eq_true rfl) dL_law_1884 (q_ne kd_292 (by decide)) (q_e10 kd_292) rfl rfl rfl ?_
      refine q_istore hx [(7, .int w), (6, .int (q_cd [4] e)), (0, .ref b), (1, .ref (G.2.1 + 0)), (2, .ref (G.2.1 + 292)), (3, .ref (G.2.1 + 303)), (4, .ref (G.2.1 + 304)), (5, .int (Int32.ofNat i))] dL_law_1887 (by decide) rfl ?_
      refine q_aload_n hx dL_law_1889 4 rfl ?_
      refine q_callVi (As := []) (rest := []) hx (q_kR_le hkR (by omega) (by omega)) (c_X10_thrown (q_Xl X) G (if e = 0 then (v.toInt64, x.2) else x) υ) q_lmv_140 q_mn_X10_thrown q_mi_X10_thrown q_se_X10_thrown (by decide) rfl (Nat.le_of_ble_eq_true rfl) dL_law_1890 (q_ne kd_292 (by decide)) (q_e10 kd_292) rfl rfl rfl ?_
      refine q_iload hx dL_law_1893 1 rfl ?_
      refine q_icmp_eq hx 1900 dL_law_1895 (by decide) (fun _ => ?_) (fun hn => absurd h3 hn)
      refine q_iload hx dL_law_1900 1 rfl ?_
      have hz : q_cd [4] e = 0 → e = 0 := by
        rcases he with rfl | rfl <;> intro hq <;> first | rfl | exact absurd hq (by decide)
      refine q_if_ne hx 1917 dL_law_1902 (by decide) (fun _ => ?_) (fun he0 => ?_)
      · skip
        refine q_goto hx 2353 dL_law_1917 (by decide) ?_
        refine q_sub [2, 3, 4, 5, 6, 7] rfl ?_
        exact kk _
      replace he0 := hz he0
      refine q_aload_n hx dL_law_1905 5 rfl ?_
      refine q_iconst (v := 0) hx dL_law_1906 (by decide) ?_
      refine q_lald hx dL_law_1907 ?_
      refine q_iload hx dL_law_1908 0 rfl ?_
      refine q_i2l hx dL_law_1910 ?_
      refine q_lcmp hx dL_law_1911 ?_
      refine q_if_eq hx 1917 dL_law_1912 (by decide) (fun _ => ?_) (fun hn => absurd (q_cmp0 (by rw [if_pos he0, h4 he0])) hn)
      refine q_goto hx 2353 dL_law_1917 (by decide) ?_
      refine q_sub [2, 3, 4, 5, 6, 7] rfl ?_
      exact kk _
    · skip
      rw [show q_bz (xs (i + 1)) = 0 by rw [q_bz, if_pos hz1]] at h1 h2
      rw [show q_bz (xs (i + 2)) = 1 by rw [q_bz, if_neg hz2]] at h1 h2
      refine q_aload_n hx dL_law_1820 1 rfl ?_
      refine q_aload_n hx dL_law_1821 0 rfl ?_
      refine q_iload hx dL_law_1822 5 rfl ?_
      refine q_iconst (v := 1) hx dL_law_1824 (by decide) ?_
      refine q_iadd hx dL_law_1825 ?_
      refine q_sld (j := i + 1) hx hs (q_ixc (c := 1) (by omega)).1 (q_ixc (c := 1) (by omega)).2 (by omega) dL_law_1826 ?_
      refine q_if_eq hx 1834 dL_law_1827 (by decide) (fun _ => ?_) (fun hn => absurd hz1 hn)
      refine q_iconst (v := 0) hx dL_law_1834 (by decide) ?_
      refine q_aload_n hx dL_law_1835 0 rfl ?_
      refine q_iload hx dL_law_1836 5 rfl ?_
      refine q_iconst (v := 2) hx dL_law_1838 (by decide) ?_
      refine q_iadd hx dL_law_1839 ?_
      refine q_sld (j := i + 2) hx hs (q_ixc (c := 2) (by omega)).1 (q_ixc (c := 2) (by omega)).2 (by omega) dL_law_1840 ?_
      refine q_if_eq hx 1848 dL_law_1841 (by decide) (fun hn => absurd hn hz2) (fun _ => ?_)
      refine q_iconst (v := 1) hx dL_law_1844 (by decide) ?_
      refine q_goto hx 1849 dL_law_1845 (by decide) ?_
      refine q_aload_n hx dL_law_1849 3 rfl ?_
      refine q_callW (np := 4) (As := [.ref (G.2.1 + 0), .int 0, .int 1, .ref (G.2.1 + 303)]) (rest := []) hx hNc hkR (c_L_refusal (q_Xl X) G x σ 0 1 h1 he hfl) q_lml_225 q_lcw_refusal q_lin (by decide) (by decide) (by decide) q_lst_refusal (by decide) rfl (Nat.le_of_ble_eq_true rfl) dL_law_1850 rfl ?_
      refine q_istore hx [(6, .int (q_cd [4] e)), (0, .ref b), (1, .ref (G.2.1 + 0)), (2, .ref (G.2.1 + 292)), (3, .ref (G.2.1 + 303)), (4, .ref (G.2.1 + 304)), (5, .int (Int32.ofNat i))] dL_law_1853 (by decide) rfl ?_
      refine q_aload_n hx dL_law_1855 3 rfl ?_
      refine q_aload_n hx dL_law_1856 1 rfl ?_
      refine q_iload hx dL_law_1857 6 rfl ?_
      refine q_iconst (v := 1) hx dL_law_1859 (by decide) ?_
      refine q_iadd hx dL_law_1860 ?_
      refine q_sld (j := i + 1) hx hs (q_ixc (c := 1) (by omega)).1 (q_ixc (c := 1) (by omega)).2 (by omega) dL_law_1861 ?_
      refine q_if_eq hx 1869 dL_law_1862 (by decide) (fun _ => ?_) (fun hn => absurd hz1 hn)
      refine q_iconst (v := 0) hx dL_law_1869 (by decide) ?_
      refine q_aload_n hx dL_law_1870 1 rfl ?_
      refine q_iload hx dL_law_1871 6 rfl ?_
      refine q_iconst (v := 2) hx dL_law_1873 (by decide) ?_
      refine q_iadd hx dL_law_1874 ?_
      refine q_sld (j := i + 2) hx hs (q_ixc (c := 2) (by omega)).1 (q_ixc (c := 2) (by omega)).2 (by omega) dL_law_1875 ?_
      refine q_if_eq hx 1883 dL_law_1876 (by decide) (fun hn => absurd hn hz2) (fun _ => ?_)
      refine q_iconst (v := 1) hx dL_law_1879 (by decide) ?_
      refine q_goto hx 1884 dL_law_1880 (by decide) ?_
      refine q_callVi (As := [.int 0, .int 1]) (rest := []) hx (q_kR_le hkR (by omega) (by omega)) (ca_X10_refusal (q_Xl X) G (if e = 0 then (v.toInt64, x.2) else x) σ 0 1 h2) q_lmv_228 q_mn_X10_refusal q_mi_X10_refusal q_se_X10_refusal (by decide) rfl (Nat.le_of_ble_eq_true rfl) dL_law_1884 (q_ne kd_292 (by decide)) (q_e10 kd_292) rfl rfl rfl ?_
      refine q_istore hx [(7, .int w), (6, .int (q_cd [4] e)), (0, .ref b), (1, .ref (G.2.1 + 0)), (2, .ref (G.2.1 + 292)), (3, .ref (G.2.1 + 303)), (4, .ref (G.2.1 + 304)), (5, .int (Int32.ofNat i))] dL_law_1887 (by decide) rfl ?_
      refine q_aload_n hx dL_law_1889 4 rfl ?_
      refine q_callVi (As := []) (rest := []) hx (q_kR_le hkR (by omega) (by omega)) (c_X10_thrown (q_Xl X) G (if e = 0 then (v.toInt64, x.2) else x) υ) q_lmv_140 q_mn_X10_thrown q_mi_X10_thrown q_se_X10_thrown (by decide) rfl (Nat.le_of_ble_eq_true rfl) dL_law_1890 (q_ne kd_292 (by decide)) (q_e10 kd_292) rfl rfl rfl ?_
      refine q_iload hx dL_law_1893 1 rfl ?_
      refine q_icmp_eq hx 1900 dL_law_1895 (by decide) (fun _ => ?_) (fun hn => absurd h3 hn)
      refine q_iload hx dL_law_1900 1 rfl ?_
      have hz : q_cd [4] e = 0 → e = 0 := by
        rcases he with rfl | rfl <;> intro hq <;> first | rfl | exact absurd hq (by decide)
      refine q_if_ne hx 1917 dL_law_1902 (by decide) (fun _ => ?_) (fun he0 => ?_)
      · skip
        refine q_goto hx 2353 dL_law_1917 (by decide) ?_
        refine q_sub [2, 3, 4, 5, 6, 7] rfl ?_
        exact kk _
      replace he0 := hz he0
      refine q_aload_n hx dL_law_1905 5 rfl ?_
      refine q_iconst (v := 0) hx dL_law_1906 (by decide) ?_
      refine q_lald hx dL_law_1907 ?_
      refine q_iload hx dL_law_1908 0 rfl ?_
      refine q_i2l hx dL_law_1910 ?_
      refine q_lcmp hx dL_law_1911 ?_
      refine q_if_eq hx 1917 dL_law_1912 (by decide) (fun _ => ?_) (fun hn => absurd (q_cmp0 (by rw [if_pos he0, h4 he0])) hn)
      refine q_goto hx 2353 dL_law_1917 (by decide) ?_
      refine q_sub [2, 3, 4, 5, 6, 7] rfl ?_
      exact kk _
  · skip
    by_cases hz2 : xs (i + 2) = 0
    · skip
      rw [show q_bz (xs (i + 1)) = 1 by rw [q_bz, if_neg hz1]] at h1 h2
      rw [show q_bz (xs (i + 2)) = 0 by rw [q_bz, if_pos hz2]] at h1 h2
      refine q_aload_n hx dL_law_1820 1 rfl ?_
      refine q_aload_n hx dL_law_1821 0 rfl ?_
      refine q_iload hx dL_law_1822 5 rfl ?_
      refine q_iconst (v := 1) hx dL_law_1824 (by decide) ?_
      refine q_iadd hx dL_law_1825 ?_
      refine q_sld (j := i + 1) hx hs (q_ixc (c := 1) (by omega)).1 (q_ixc (c := 1) (by omega)).2 (by omega) dL_law_1826 ?_
      refine q_if_eq hx 1834 dL_law_1827 (by decide) (fun hn => absurd hn hz1) (fun _ => ?_)
      refine q_iconst (v := 1) hx dL_law_1830 (by decide) ?_
      refine q_goto hx 1835 dL_law_1831 (by decide) ?_
      refine q_aload_n hx dL_law_1835 0 rfl ?_
      refine q_iload hx dL_law_1836 5 rfl ?_
      refine q_iconst (v := 2) hx dL_law_1838 (by decide) ?_
      refine q_iadd hx dL_law_1839 ?_
      refine q_sld (j := i + 2) hx hs (q_ixc (c := 2) (by omega)).1 (q_ixc (c := 2) (by omega)).2 (by omega) dL_law_1840 ?_
      refine q_if_eq hx 1848 dL_law_1841 (by decide) (fun _ => ?_) (fun hn => absurd hz2 hn)
      refine q_iconst (v := 0) hx dL_law_1848 (by decide) ?_
      refine q_aload_n hx dL_law_1849 3 rfl ?_
      refine q_callW (np := 4) (As := [.ref (G.2.1 + 0), .int 1, .int 0, .ref (G.2.1 + 303)]) (rest := []) hx hNc hkR (c_L_refusal (q_Xl X) G x σ 1 0 h1 he hfl) q_lml_225 q_lcw_refusal q_lin (by decide) (by decide) (by decide) q_lst_refusal (by decide) rfl (Nat.le_of_ble_eq_true rfl) dL_law_1850 rfl ?_
      refine q_istore hx [(6, .int (q_cd [4] e)), (0, .ref b), (1, .ref (G.2.1 + 0)), (2, .ref (G.2.1 + 292)), (3, .ref (G.2.1 + 303)), (4, .ref (G.2.1 + 304)), (5, .int (Int32.ofNat i))] dL_law_1853 (by decide) rfl ?_
      refine q_aload_n hx dL_law_1855 3 rfl ?_
      refine q_aload_n hx dL_law_1856 1 rfl ?_
      refine q_iload hx dL_law_1857 6 rfl ?_
      refine q_iconst (v := 1) hx dL_law_1859 (by decide) ?_
      refine q_iadd hx dL_law_1860 ?_
      refine q_sld (j := i + 1) hx hs (q_ixc (c := 1) (by omega)).1 (q_ixc (c := 1) (by omega)).2 (by omega) dL_law_1861 ?_
      refine q_if_eq hx 1869 dL_law_1862 (by decide) (fun hn => absurd hn hz1) (fun _ => ?_)
      refine q_iconst (v := 1) hx dL_law_1865 (by decide) ?_
      refine q_goto hx 1870 dL_law_1866 (by decide) ?_
      refine q_aload_n hx dL_law_1870 1 rfl ?_
      refine q_iload hx dL_law_1871 6 rfl ?_
      refine q_iconst (v := 2) hx dL_law_1873 (by decide) ?_
      refine q_iadd hx dL_law_1874 ?_
      refine q_sld (j := i + 2) hx hs (q_ixc (c := 2) (by omega)).1 (q_ixc (c := 2) (by omega)).2 (by omega) dL_law_1875 ?_
      refine q_if_eq hx 1883 dL_law_1876 (by decide) (fun _ => ?_) (fun hn => absurd hz2 hn)
      refine q_iconst (v := 0) hx dL_law_1883 (by decide) ?_
      refine q_callVi (As := [.int 1, .int 0]) (rest := []) hx (q_kR_le hkR (by omega) (by omega)) (ca_X10_refusal (q_Xl X) G (if e = 0 then (v.toInt64, x.2) else x) σ 1 0 h2) q_lmv_228 q_mn_X10_refusal q_mi_X10_refusal q_se_X10_refusal (by decide) rfl (Nat.le_of_ble_eq_true rfl) dL_law_1884 (q_ne kd_292 (by decide)) (q_e10 kd_292) rfl rfl rfl ?_
      refine q_istore hx [(7, .int w), (6, .int (q_cd [4] e)), (0, .ref b), (1, .ref (G.2.1 + 0)), (2, .ref (G.2.1 + 292)), (3, .ref (G.2.1 + 303)), (4, .ref (G.2.1 + 304)), (5, .int (Int32.ofNat i))] dL_law_1887 (by decide) rfl ?_
      refine q_aload_n hx dL_law_1889 4 rfl ?_
      refine q_callVi (As := []) (rest := []) hx (q_kR_le hkR (by omega) (by omega)) (c_X10_thrown (q_Xl X) G (if e = 0 then (v.toInt64, x.2) else x) υ) q_lmv_140 q_mn_X10_thrown q_mi_X10_thrown q_se_X10_thrown (by decide) rfl (Nat.le_of_ble_eq_true rfl) dL_law_1890 (q_ne kd_292 (by decide)) (q_e10 kd_292) rfl rfl rfl ?_
      refine q_iload hx dL_law_1893 1 rfl ?_
      refine q_icmp_eq hx 1900 dL_law_1895 (by decide) (fun _ => ?_) (fun hn => absurd h3 hn)
      refine q_iload hx dL_law_1900 1 rfl ?_
      have hz : q_cd [4] e = 0 → e = 0 := by
        rcases he with rfl | rfl <;> intro hq <;> first | rfl | exact absurd hq (by decide)
      refine q_if_ne hx 1917 dL_law_1902 (by decide) (fun _ => ?_) (fun he0 => ?_)
      · skip
        refine q_goto hx 2353 dL_law_1917 (by decide) ?_
        refine q_sub [2, 3, 4, 5, 6, 7] rfl ?_
        exact kk _
      replace he0 := hz he0
      refine q_aload_n hx dL_law_1905 5 rfl ?_
      refine q_iconst (v := 0) hx dL_law_1906 (by decide) ?_
      refine q_lald hx dL_law_1907 ?_
      refine q_iload hx dL_law_1908 0 rfl ?_
      refine q_i2l hx dL_law_1910 ?_
      refine q_lcmp hx dL_law_1911 ?_
      refine q_if_eq hx 1917 dL_law_1912 (by decide) (fun _ => ?_) (fun hn => absurd (q_cmp0 (by rw [if_pos he0, h4 he0])) hn)
      refine q_goto hx 2353 dL_law_1917 (by decide) ?_
      refine q_sub [2, 3, 4, 5, 6, 7] rfl ?_
      exact kk _
    · skip
      rw [show q_bz (xs (i + 1)) = 1 by rw [q_bz, if_neg hz1]] at h1 h2
      rw [show q_bz (xs (i + 2)) = 1 by rw [q_bz, if_neg hz2]] at h1 h2
      refine q_aload_n hx dL_law_1820 1 rfl ?_
      refine q_aload_n hx dL_law_1821 0 rfl ?_
      refine q_iload hx dL_law_1822 5 rfl ?_
      refine q_iconst (v := 1) hx dL_law_1824 (by decide) ?_
      refine q_iadd hx dL_law_1825 ?_
      refine q_sld (j := i + 1) hx hs (q_ixc (c := 1) (by omega)).1 (q_ixc (c := 1) (by omega)).2 (by omega) dL_law_1826 ?_
      refine q_if_eq hx 1834 dL_law_1827 (by decide) (fun hn => absurd hn hz1) (fun _ => ?_)
      refine q_iconst (v := 1) hx dL_law_1830 (by decide) ?_
      refine q_goto hx 1835 dL_law_1831 (by decide) ?_
      refine q_aload_n hx dL_law_1835 0 rfl ?_
      refine q_iload hx dL_law_1836 5 rfl ?_
      refine q_iconst (v := 2) hx dL_law_1838 (by decide) ?_
      refine q_iadd hx dL_law_1839 ?_
      refine q_sld (j := i + 2) hx hs (q_ixc (c := 2) (by omega)).1 (q_ixc (c := 2) (by omega)).2 (by omega) dL_law_1840 ?_
      refine q_if_eq hx 1848 dL_law_1841 (by decide) (fun hn => absurd hn hz2) (fun _ => ?_)
      refine q_iconst (v := 1) hx dL_law_1844 (by decide) ?_
      refine q_goto hx 1849 dL_law_1845 (by decide) ?_
      refine q_aload_n hx dL_law_1849 3 rfl ?_
      refine q_callW (np := 4) (As := [.ref (G.2.1 + 0), .int 1, .int 1, .ref (G.2.1 + 303)]) (rest := []) hx hNc hkR (c_L_refusal (q_Xl X) G x σ 1 1 h1 he hfl) q_lml_225 q_lcw_refusal q_lin (by decide) (by decide) (by decide) q_lst_refusal (by decide) rfl (Nat.le_of_ble_eq_true rfl) dL_law_1850 rfl ?_
      refine q_istore hx [(6, .int (q_cd [4] e)), (0, .ref b), (1, .ref (G.2.1 + 0)), (2, .ref (G.2.1 + 292)), (3, .ref (G.2.1 + 303)), (4, .ref (G.2.1 + 304)), (5, .int (Int32.ofNat i))] dL_law_1853 (by decide) rfl ?_
      refine q_aload_n hx dL_law_1855 3 rfl ?_
      refine q_aload_n hx dL_law_1856 1 rfl ?_
      refine q_iload hx dL_law_1857 6 rfl ?_
      refine q_iconst (v := 1) hx dL_law_1859 (by decide) ?_
      refine q_iadd hx dL_law_1860 ?_
      refine q_sld (j := i + 1) hx hs (q_ixc (c := 1) (by omega)).1 (q_ixc (c := 1) (by omega)).2 (by omega) dL_law_1861 ?_
      refine q_if_eq hx 1869 dL_law_1862 (by decide) (fun hn => absurd hn hz1) (fun _ => ?_)
      refine q_iconst (v := 1) hx dL_law_1865 (by decide) ?_
      refine q_goto hx 1870 dL_law_1866 (by decide) ?_
      refine q_aload_n hx dL_law_1870 1 rfl ?_
      refine q_iload hx dL_law_1871 6 rfl ?_
      refine q_iconst (v := 2) hx dL_law_1873 (by decide) ?_
      refine q_iadd hx dL_law_1874 ?_
      refine q_sld (j := i + 2) hx hs (q_ixc (c := 2) (by omega)).1 (q_ixc (c := 2) (by omega)).2 (by omega) dL_law_1875 ?_
      refine q_if_eq hx 1883 dL_law_1876 (by decide) (fun hn => absurd hn hz2) (fun _ => ?_)
      refine q_iconst (v := 1) hx dL_law_1879 (by decide) ?_
      refine q_goto hx 1884 dL_law_1880 (by decide) ?_
      refine q_callVi (As := [.int 1, .int 1]) (rest := []) hx (q_kR_le hkR (by omega) (by omega)) (ca_X10_refusal (q_Xl X) G (if e = 0 then (v.toInt64, x.2) else x) σ 1 1 h2) q_lmv_228 q_mn_X10_refusal q_mi_X10_refusal q_se_X10_refusal (by decide) rfl (Nat.le_of_ble_eq_true rfl) dL_law_1884 (q_ne kd_292 (by decide)) (q_e10 kd_292) rfl rfl rfl ?_
      refine q_istore hx [(7, .int w), (6, .int (q_cd [4] e)), (0, .ref b), (1, .ref (G.2.1 + 0)), (2, .ref (G.2.1 + 292)), (3, .ref (G.2.1 + 303)), (4, .ref (G.2.1 + 304)), (5, .int (Int32.ofNat i))] dL_law_1887 (by decide) rfl ?_
      refine q_aload_n hx dL_law_1889 4 rfl ?_
      refine q_callVi (As := []) (rest := []) hx (q_kR_le hkR (by omega) (by omega)) (c_X10_thrown (q_Xl X) G (if e = 0 then (v.toInt64, x.2) else x) υ) q_lmv_140 q_mn_X10_thrown q_mi_X10_thrown q_se_X10_thrown (by decide) rfl (Nat.le_of_ble_eq_true rfl) dL_law_1890 (q_ne kd_292 (by decide)) (q_e10 kd_292) rfl rfl rfl ?_
      refine q_iload hx dL_law_1893 1 rfl ?_
      refine q_icmp_eq hx 1900 dL_law_1895 (by decide) (fun _ => ?_) (fun hn => absurd h3 hn)
      refine q_iload hx dL_law_1900 1 rfl ?_
      have hz : q_cd [4] e = 0 → e = 0 := by
        rcases he with rfl | rfl <;> intro hq <;> first | rfl | exact absurd hq (by decide)
      refine q_if_ne hx 1917 dL_law_1902 (by decide) (fun _ => ?_) (fun he0 => ?_)
      · skip
        refine q_goto hx 2353 dL_law_1917 (by decide) ?_
        refine q_sub [2, 3, 4, 5, 6, 7] rfl ?_
        exact kk _
      replace he0 := hz he0
      refine q_aload_n hx dL_law_1905 5 rfl ?_
      refine q_iconst (v := 0) hx dL_law_1906 (by decide) ?_
      refine q_lald hx dL_law_1907 ?_
      refine q_iload hx dL_law_1908 0 rfl ?_
      refine q_i2l hx dL_law_1910 ?_
      refine q_lcmp hx dL_law_1911 ?_
      refine q_if_eq hx 1917 dL_law_1912 (by decide) (fun _ => ?_) (fun hn => absurd (q_cmp0 (by rw [if_pos he0, h4 he0])) hn)
      refine q_goto hx 2353 dL_law_1917 (by decide) ?_
      refine q_sub [2, 3, 4, 5, 6, 7] rfl ?_
      exact kk _
set_option maxHeartbeats 4000000 in
set_option maxRecDepth 100000 in
theorem w_case_27 {X : q_X} {G : q_G} {x : q_A} {Q : State → Prop} {k n b L i : Nat} {xs : Nat → Int32} {σ τ υ : q_S} {e : Nat} {v w : Int32} (hx : q_Cx X G RL cL_law 10 20) (hNc : q_NcX X) (hs : q_Sc X G b L xs) (hkR : q_kR X (k + 1) (n + 6)) (hfl : (q_Xl X).stackTraces = false) (hiL : i + 4 ≤ L) (hL : L ≤ 2048) (h1 : f_X9_show σ (xs (i + 1)) = some (e, v, τ)) (he : e = 0 ∨ e = 1) (h2 : f_X10_show τ (xs (i + 1)) = some (w, υ)) (h3 : f_X10_thrown υ = q_cd [1] e) (h4 : e = 0 → v = w) (kk : ∀ x : q_A, q_Wq X G x 10 Q (k + 1) (n + 6) 2353 [(0, .ref b), (1, .ref (G.2.1 + 0)), (2, .ref (G.2.1 + 292)), (3, .ref (G.2.1 + 303)), (4, .ref (G.2.1 + 304)), (5, .int (Int32.ofNat i))] [] υ) : q_Wq X G x 10 Q k n 1920 [(0, .ref b), (1, .ref (G.2.1 + 0)), (2, .ref (G.2.1 + 292)), (3, .ref (G.2.1 + 303)), (4, .ref (G.2.1 + 304)), (5, .int (Int32.ofNat i))] [] σ := by
  refine q_aload_n hx dL_law_1920 1 rfl ?_
  refine q_aload_n hx dL_law_1921 0 rfl ?_
  refine q_iload hx dL_law_1922 5 rfl ?_
  refine q_iconst (v := 1) hx dL_law_1924 (by decide) ?_
  refine q_iadd hx dL_law_1925 ?_
  refine q_sld (j := i + 1) hx hs (q_ixc (c := 1) (by omega)).1 (q_ixc (c := 1) (by omega)).2 (by omega) dL_law_1926 ?_
  refine q_aload_n hx dL_law_1927 3 rfl ?_
  refine q_callW (np := 3) (As := [.ref (G.2.1 + 0), .int (xs (i + 1)), .ref (G.2.1 + 303)]) (rest := []) hx hNc hkR (c_L_show (q_Xl X) G x σ (xs (i + 1)) h1 he hfl) q_lml_229 q_lcw_show q_lin (by decide) (by decide) (by decide) q_lst_show (by decide) rfl (Nat.le_of_ble_eq_true rfl) dL_law_1928 rfl ?_
  refine q_istore hx [(6, .int (q_cd [1] e)), (0, .ref b), (1, .ref (G.2.1 + 0)), (2, .ref (G.2.1 + 292)), (3, .ref (G.2.1 + 303)), (4, .ref (G.2.1 + 304)), (5, .int (Int32.ofNat i))] dL_law_1931 (by decide) rfl ?_
  refine q_aload_n hx dL_law_1933 3 rfl ?_
  refine q_aload_n hx dL_law_1934 1 rfl ?_
  refine q_iload hx dL_law_1935 6 rfl ?_
  refine q_iconst (v := 1) hx dL_law_1937 (by decide) ?_
  refine q_iadd hx dL_law_1938 ?_
  refine q_sld (j := i + 1) hx hs (q_ixc (c := 1) (by omega)).1 (q_ixc (c := 1) (by omega)).2 (by omega) dL_law_1939 ?_
  refine q_callVi (As := [.int (xs (i + 1))]) (rest := []) hx (q_kR_le hkR (by omega) (by omega)) (c_X10_show (q_Xl X) G (if e = 0 then (v.toInt64, x.2) else x) τ ((xs (i + 1))) h2) q_lmv_231 q_mn_X10_show q_mi_X10_show q_se_X10_show (by decide) rfl (Nat.le_of_ble_eq_true rfl) dL_law_1940 (q_ne kd_292 (by decide)) (q_e10 kd_292) rfl rfl rfl ?_
  refine q_istore hx [(7, .int w), (6, .int (q_cd [1] e)), (0, .ref b), (1, .ref (G.2.1 + 0)), (2, .ref (G.2.1 + 292)), (3, .ref (G.2.1 + 303)), (4, .ref (G.2.1 + 304)), (5, .int (Int32.ofNat i))] dL_law_1943 (by decide) rfl ?_
  refine q_aload_n hx dL_law_1945 4 rfl ?_
  refine q_callVi (As := []) (rest := []) hx (q_kR_le hkR (by omega) (by omega)) (c_X10_thrown (q_Xl X) G (if e = 0 then (v.toInt64, x.2) else x) υ) q_lmv_140 q_mn_X10_thrown q_mi_X10_thrown q_se_X10_thrown (by decide) rfl (Nat.le_of_ble_eq_true rfl) dL_law_1946 (q_ne kd_292 (by decide)) (q_e10 kd_292) rfl rfl rfl ?_
  refine q_iload hx dL_law_1949 1 rfl ?_
  refine q_icmp_eq hx 1956 dL_law_1951 (by decide) (fun _ => ?_) (fun hn => absurd h3 hn)
  refine q_iload hx dL_law_1956 1 rfl ?_
  have hz : q_cd [1] e = 0 → e = 0 := by
    rcases he with rfl | rfl <;> intro hq <;> first | rfl | exact absurd hq (by decide)
  refine q_if_ne hx 1973 dL_law_1958 (by decide) (fun _ => ?_) (fun he0 => ?_)
  · skip
    refine q_goto hx 2353 dL_law_1973 (by decide) ?_
    refine q_sub [2, 3, 4, 5, 6, 7] rfl ?_
    exact kk _
  replace he0 := hz he0
  refine q_aload_n hx dL_law_1961 5 rfl ?_
  refine q_iconst (v := 0) hx dL_law_1962 (by decide) ?_
  refine q_lald hx dL_law_1963 ?_
  refine q_iload hx dL_law_1964 0 rfl ?_
  refine q_i2l hx dL_law_1966 ?_
  refine q_lcmp hx dL_law_1967 ?_
  refine q_if_eq hx 1973 dL_law_1968 (by decide) (fun _ => ?_) (fun hn => absurd (q_cmp0 (by rw [if_pos he0, h4 he0])) hn)
  refine q_goto hx 2353 dL_law_1973 (by decide) ?_
  refine q_sub [2, 3, 4, 5, 6, 7] rfl ?_
  exact kk _
set_option maxHeartbeats 4000000 in
set_option maxRecDepth 100000 in
theorem w_case_28 {X : q_X} {G : q_G} {x : q_A} {Q : State → Prop} {k n b L i : Nat} {xs : Nat → Int32} {σ τ υ : q_S} {e : Nat} {v w : Int32} (hx : q_Cx X G RL cL_law 10 20) (hNc : q_NcX X) (hs : q_Sc X G b L xs) (hkR : q_kR X (k + 1) (n + 6)) (hfl : (q_Xl X).stackTraces = false) (hiL : i + 4 ≤ L) (hL : L ≤ 2048) (h1 : f_X9_tell σ (xs (i + 1)) = some (e, v, τ)) (he : e = 0 ∨ e = 1) (h2 : f_X10_tell τ (xs (i + 1)) = some (w, υ)) (h3 : f_X10_thrown υ = q_cd [1] e) (h4 : e = 0 → v = w) (kk : ∀ x : q_A, q_Wq X G x 10 Q (k + 1) (n + 6) 2353 [(0, .ref b), (1, .ref (G.2.1 + 0)), (2, .ref (G.2.1 + 292)), (3, .ref (G.2.1 + 303)), (4, .ref (G.2.1 + 304)), (5, .int (Int32.ofNat i))] [] υ) : q_Wq X G x 10 Q k n 1976 [(0, .ref b), (1, .ref (G.2.1 + 0)), (2, .ref (G.2.1 + 292)), (3, .ref (G.2.1 + 303)), (4, .ref (G.2.1 + 304)), (5, .int (Int32.ofNat i))] [] σ := by
  refine q_aload_n hx dL_law_1976 1 rfl ?_
  refine q_aload_n hx dL_law_1977 0 rfl ?_
  refine q_iload hx dL_law_1978 5 rfl ?_
  refine q_iconst (v := 1) hx dL_law_1980 (by decide) ?_
  refine q_iadd hx dL_law_1981 ?_
  refine q_sld (j := i + 1) hx hs (q_ixc (c := 1) (by omega)).1 (q_ixc (c := 1) (by omega)).2 (by omega) dL_law_1982 ?_
  refine q_aload_n hx dL_law_1983 3 rfl ?_
  refine q_callW (np := 3) (As := [.ref (G.2.1 + 0), .int (xs (i + 1)), .ref (G.2.1 + 303)]) (rest := []) hx hNc hkR (c_L_tell (q_Xl X) G x σ (xs (i + 1)) h1 he hfl) q_lml_232 q_lcw_tell q_lin (by decide) (by decide) (by decide) q_lst_tell (by decide) rfl (Nat.le_of_ble_eq_true rfl) dL_law_1984 rfl ?_
  refine q_istore hx [(6, .int (q_cd [1] e)), (0, .ref b), (1, .ref (G.2.1 + 0)), (2, .ref (G.2.1 + 292)), (3, .ref (G.2.1 + 303)), (4, .ref (G.2.1 + 304)), (5, .int (Int32.ofNat i))] dL_law_1987 (by decide) rfl ?_
  refine q_aload_n hx dL_law_1989 3 rfl ?_
  refine q_aload_n hx dL_law_1990 1 rfl ?_
  refine q_iload hx dL_law_1991 6 rfl ?_
  refine q_iconst (v := 1) hx dL_law_1993 (by decide) ?_
  refine q_iadd hx dL_law_1994 ?_
  refine q_sld (j := i + 1) hx hs (q_ixc (c := 1) (by omega)).1 (q_ixc (c := 1) (by omega)).2 (by omega) dL_law_1995 ?_
  refine q_callVi (As := [.int (xs (i + 1))]) (rest := []) hx (q_kR_le hkR (by omega) (by omega)) (c_X10_tell (q_Xl X) G (if e = 0 then (v.toInt64, x.2) else x) τ ((xs (i + 1))) h2) q_lmv_234 q_mn_X10_tell q_mi_X10_tell q_se_X10_tell (by decide) rfl (Nat.le_of_ble_eq_true rfl) dL_law_1996 (q_ne kd_292 (by decide)) (q_e10 kd_292) rfl rfl rfl ?_
  refine q_istore hx [(7, .int w), (6, .int (q_cd [1] e)), (0, .ref b), (1, .ref (G.2.1 + 0)), (2, .ref (G.2.1 + 292)), (3, .ref (G.2.1 + 303)), (4, .ref (G.2.1 + 304)), (5, .int (Int32.ofNat i))] dL_law_1999 (by decide) rfl ?_
  refine q_aload_n hx dL_law_2001 4 rfl ?_
  refine q_callVi (As := []) (rest := []) hx (q_kR_le hkR (by omega) (by omega)) (c_X10_thrown (q_Xl X) G (if e = 0 then (v.toInt64, x.2) else x) υ) q_lmv_140 q_mn_X10_thrown q_mi_X10_thrown q_se_X10_thrown (by decide) rfl (Nat.le_of_ble_eq_true rfl) dL_law_2002 (q_ne kd_292 (by decide)) (q_e10 kd_292) rfl rfl rfl ?_
  refine q_iload hx dL_law_2005 1 rfl ?_
  refine q_icmp_eq hx 2012 dL_law_2007 (by decide) (fun _ => ?_) (fun hn => absurd h3 hn)
  refine q_iload hx dL_law_2012 1 rfl ?_
  have hz : q_cd [1] e = 0 → e = 0 := by
    rcases he with rfl | rfl <;> intro hq <;> first | rfl | exact absurd hq (by decide)
  refine q_if_ne hx 2029 dL_law_2014 (by decide) (fun _ => ?_) (fun he0 => ?_)
  · skip
    refine q_goto hx 2353 dL_law_2029 (by decide) ?_
    refine q_sub [2, 3, 4, 5, 6, 7] rfl ?_
    exact kk _
  replace he0 := hz he0
  refine q_aload_n hx dL_law_2017 5 rfl ?_
  refine q_iconst (v := 0) hx dL_law_2018 (by decide) ?_
  refine q_lald hx dL_law_2019 ?_
  refine q_iload hx dL_law_2020 0 rfl ?_
  refine q_i2l hx dL_law_2022 ?_
  refine q_lcmp hx dL_law_2023 ?_
  refine q_if_eq hx 2029 dL_law_2024 (by decide) (fun _ => ?_) (fun hn => absurd (q_cmp0 (by rw [if_pos he0, h4 he0])) hn)
  refine q_goto hx 2353 dL_law_2029 (by decide) ?_
  refine q_sub [2, 3, 4, 5, 6, 7] rfl ?_
  exact kk _
set_option maxHeartbeats 4000000 in
set_option maxRecDepth 100000 in
theorem w_case_29 {X : q_X} {G : q_G} {x : q_A} {Q : State → Prop} {k n b L i : Nat} {xs : Nat → Int32} {σ υ : q_S} {e : Nat} {v w : Int32} (hx : q_Cx X G RL cL_law 10 20) (hNc : q_NcX X) (hs : q_Sc X G b L xs) (hkR : q_kR X (k + 1) (n + 6)) (hfl : (q_Xl X).stackTraces = false) (hiL : i + 4 ≤ L) (hL : L ≤ 2048) (h1 : f_X9_written σ (xs (i + 1)) = some (e, v)) (he : e = 0 ∨ e = 4) (h2 : f_X10_written σ (xs (i + 1)) = some (w, υ)) (h3 : f_X10_thrown υ = q_cd [4] e) (h4 : e = 0 → v = w) (kk : ∀ x : q_A, q_Wq X G x 10 Q (k + 1) (n + 6) 2353 [(0, .ref b), (1, .ref (G.2.1 + 0)), (2, .ref (G.2.1 + 292)), (3, .ref (G.2.1 + 303)), (4, .ref (G.2.1 + 304)), (5, .int (Int32.ofNat i))] [] υ) : q_Wq X G x 10 Q k n 2032 [(0, .ref b), (1, .ref (G.2.1 + 0)), (2, .ref (G.2.1 + 292)), (3, .ref (G.2.1 + 303)), (4, .ref (G.2.1 + 304)), (5, .int (Int32.ofNat i))] [] σ := by
  refine q_aload_n hx dL_law_2032 1 rfl ?_
  refine q_aload_n hx dL_law_2033 0 rfl ?_
  refine q_iload hx dL_law_2034 5 rfl ?_
  refine q_iconst (v := 1) hx dL_law_2036 (by decide) ?_
  refine q_iadd hx dL_law_2037 ?_
  refine q_sld (j := i + 1) hx hs (q_ixc (c := 1) (by omega)).1 (q_ixc (c := 1) (by omega)).2 (by omega) dL_law_2038 ?_
  refine q_aload_n hx dL_law_2039 3 rfl ?_
  refine q_callW (np := 3) (As := [.ref (G.2.1 + 0), .int (xs (i + 1)), .ref (G.2.1 + 303)]) (rest := []) hx hNc hkR (c_L_written (q_Xl X) G x σ (xs (i + 1)) h1 he hfl) q_lml_235 q_lcw_written q_lin (by decide) (by decide) (by decide) q_lst_written (by decide) rfl (Nat.le_of_ble_eq_true rfl) dL_law_2040 rfl ?_
  refine q_istore hx [(6, .int (q_cd [4] e)), (0, .ref b), (1, .ref (G.2.1 + 0)), (2, .ref (G.2.1 + 292)), (3, .ref (G.2.1 + 303)), (4, .ref (G.2.1 + 304)), (5, .int (Int32.ofNat i))] dL_law_2043 (by decide) rfl ?_
  refine q_aload_n hx dL_law_2045 3 rfl ?_
  refine q_aload_n hx dL_law_2046 1 rfl ?_
  refine q_iload hx dL_law_2047 6 rfl ?_
  refine q_iconst (v := 1) hx dL_law_2049 (by decide) ?_
  refine q_iadd hx dL_law_2050 ?_
  refine q_sld (j := i + 1) hx hs (q_ixc (c := 1) (by omega)).1 (q_ixc (c := 1) (by omega)).2 (by omega) dL_law_2051 ?_
  refine q_callVi (As := [.int (xs (i + 1))]) (rest := []) hx (q_kR_le hkR (by omega) (by omega)) (c_X10_written (q_Xl X) G (if e = 0 then (v.toInt64, x.2) else x) σ ((xs (i + 1))) h2) q_lmv_237 q_mn_X10_written q_mi_X10_written q_se_X10_written (by decide) rfl (Nat.le_of_ble_eq_true rfl) dL_law_2052 (q_ne kd_292 (by decide)) (q_e10 kd_292) rfl rfl rfl ?_
  refine q_istore hx [(7, .int w), (6, .int (q_cd [4] e)), (0, .ref b), (1, .ref (G.2.1 + 0)), (2, .ref (G.2.1 + 292)), (3, .ref (G.2.1 + 303)), (4, .ref (G.2.1 + 304)), (5, .int (Int32.ofNat i))] dL_law_2055 (by decide) rfl ?_
  refine q_aload_n hx dL_law_2057 4 rfl ?_
  refine q_callVi (As := []) (rest := []) hx (q_kR_le hkR (by omega) (by omega)) (c_X10_thrown (q_Xl X) G (if e = 0 then (v.toInt64, x.2) else x) υ) q_lmv_140 q_mn_X10_thrown q_mi_X10_thrown q_se_X10_thrown (by decide) rfl (Nat.le_of_ble_eq_true rfl) dL_law_2058 (q_ne kd_292 (by decide)) (q_e10 kd_292) rfl rfl rfl ?_
  refine q_iload hx dL_law_2061 1 rfl ?_
  refine q_icmp_eq hx 2068 dL_law_2063 (by decide) (fun _ => ?_) (fun hn => absurd h3 hn)
  refine q_iload hx dL_law_2068 1 rfl ?_
  have hz : q_cd [4] e = 0 → e = 0 := by
    rcases he with rfl | rfl <;> intro hq <;> first | rfl | exact absurd hq (by decide)
  refine q_if_ne hx 2085 dL_law_2070 (by decide) (fun _ => ?_) (fun he0 => ?_)
  · skip
    refine q_goto hx 2353 dL_law_2085 (by decide) ?_
    refine q_sub [2, 3, 4, 5, 6, 7] rfl ?_
    exact kk _
  replace he0 := hz he0
  refine q_aload_n hx dL_law_2073 5 rfl ?_
  refine q_iconst (v := 0) hx dL_law_2074 (by decide) ?_
  refine q_lald hx dL_law_2075 ?_
  refine q_iload hx dL_law_2076 0 rfl ?_
  refine q_i2l hx dL_law_2078 ?_
  refine q_lcmp hx dL_law_2079 ?_
  refine q_if_eq hx 2085 dL_law_2080 (by decide) (fun _ => ?_) (fun hn => absurd (q_cmp0 (by rw [if_pos he0, h4 he0])) hn)
  refine q_goto hx 2353 dL_law_2085 (by decide) ?_
  refine q_sub [2, 3, 4, 5, 6, 7] rfl ?_
  exact kk _
set_option maxHeartbeats 4000000 in
set_option maxRecDepth 100000 in
theorem w_case_30 {X : q_X} {G : q_G} {x : q_A} {Q : State → Prop} {k n b L i : Nat} {xs : Nat → Int32} {σ τ υ : q_S} {e : Nat} {v w : Int32} (hx : q_Cx X G RL cL_law 10 20) (hNc : q_NcX X) (hs : q_Sc X G b L xs) (hkR : q_kR X (k + 1) (n + 6)) (hfl : (q_Xl X).stackTraces = false) (hiL : i + 4 ≤ L) (hL : L ≤ 2048) (h1 : f_X9_account σ (xs (i + 1)) = some (e, v, τ)) (he : e = 0 ∨ e = 2) (h2 : f_X10_account τ (xs (i + 1)) = some (w, υ)) (h3 : f_X10_thrown υ = q_cd [2] e) (h4 : e = 0 → v = w) (kk : ∀ x : q_A, q_Wq X G x 10 Q (k + 1) (n + 6) 2353 [(0, .ref b), (1, .ref (G.2.1 + 0)), (2, .ref (G.2.1 + 292)), (3, .ref (G.2.1 + 303)), (4, .ref (G.2.1 + 304)), (5, .int (Int32.ofNat i))] [] υ) : q_Wq X G x 10 Q k n 2088 [(0, .ref b), (1, .ref (G.2.1 + 0)), (2, .ref (G.2.1 + 292)), (3, .ref (G.2.1 + 303)), (4, .ref (G.2.1 + 304)), (5, .int (Int32.ofNat i))] [] σ := by
  refine q_aload_n hx dL_law_2088 1 rfl ?_
  refine q_aload_n hx dL_law_2089 0 rfl ?_
  refine q_iload hx dL_law_2090 5 rfl ?_
  refine q_iconst (v := 1) hx dL_law_2092 (by decide) ?_
  refine q_iadd hx dL_law_2093 ?_
  refine q_sld (j := i + 1) hx hs (q_ixc (c := 1) (by omega)).1 (q_ixc (c := 1) (by omega)).2 (by omega) dL_law_2094 ?_
  refine q_aload_n hx dL_law_2095 3 rfl ?_
  refine q_callW (np := 3) (As := [.ref (G.2.1 + 0), .int (xs (i + 1)), .ref (G.2.1 + 303)]) (rest := []) hx hNc hkR (c_L_account (q_Xl X) G x σ (xs (i + 1)) h1 he hfl) q_lml_238 q_lcw_account q_lin (by decide) (by decide) (by decide) q_lst_account (by decide) rfl (Nat.le_of_ble_eq_true rfl) dL_law_2096 rfl ?_
  refine q_istore hx [(6, .int (q_cd [2] e)), (0, .ref b), (1, .ref (G.2.1 + 0)), (2, .ref (G.2.1 + 292)), (3, .ref (G.2.1 + 303)), (4, .ref (G.2.1 + 304)), (5, .int (Int32.ofNat i))] dL_law_2099 (by decide) rfl ?_
  refine q_aload_n hx dL_law_2101 3 rfl ?_
  refine q_aload_n hx dL_law_2102 1 rfl ?_
  refine q_iload hx dL_law_2103 6 rfl ?_
  refine q_iconst (v := 1) hx dL_law_2105 (by decide) ?_
  refine q_iadd hx dL_law_2106 ?_
  refine q_sld (j := i + 1) hx hs (q_ixc (c := 1) (by omega)).1 (q_ixc (c := 1) (by omega)).2 (by omega) dL_law_2107 ?_
  refine q_callVi (As := [.int (xs (i + 1))]) (rest := []) hx (q_kR_le hkR (by omega) (by omega)) (c_X10_account (q_Xl X) G (if e = 0 then (v.toInt64, x.2) else x) τ ((xs (i + 1))) h2) q_lmv_240 q_mn_X10_account q_mi_X10_account q_se_X10_account (by decide) rfl (Nat.le_of_ble_eq_true rfl) dL_law_2108 (q_ne kd_292 (by decide)) (q_e10 kd_292) rfl rfl rfl ?_
  refine q_istore hx [(7, .int w), (6, .int (q_cd [2] e)), (0, .ref b), (1, .ref (G.2.1 + 0)), (2, .ref (G.2.1 + 292)), (3, .ref (G.2.1 + 303)), (4, .ref (G.2.1 + 304)), (5, .int (Int32.ofNat i))] dL_law_2111 (by decide) rfl ?_
  refine q_aload_n hx dL_law_2113 4 rfl ?_
  refine q_callVi (As := []) (rest := []) hx (q_kR_le hkR (by omega) (by omega)) (c_X10_thrown (q_Xl X) G (if e = 0 then (v.toInt64, x.2) else x) υ) q_lmv_140 q_mn_X10_thrown q_mi_X10_thrown q_se_X10_thrown (by decide) rfl (Nat.le_of_ble_eq_true rfl) dL_law_2114 (q_ne kd_292 (by decide)) (q_e10 kd_292) rfl rfl rfl ?_
  refine q_iload hx dL_law_2117 1 rfl ?_
  refine q_icmp_eq hx 2124 dL_law_2119 (by decide) (fun _ => ?_) (fun hn => absurd h3 hn)
  refine q_iload hx dL_law_2124 1 rfl ?_
  have hz : q_cd [2] e = 0 → e = 0 := by
    rcases he with rfl | rfl <;> intro hq <;> first | rfl | exact absurd hq (by decide)
  refine q_if_ne hx 2141 dL_law_2126 (by decide) (fun _ => ?_) (fun he0 => ?_)
  · skip
    refine q_goto hx 2353 dL_law_2141 (by decide) ?_
    refine q_sub [2, 3, 4, 5, 6, 7] rfl ?_
    exact kk _
  replace he0 := hz he0
  refine q_aload_n hx dL_law_2129 5 rfl ?_
  refine q_iconst (v := 0) hx dL_law_2130 (by decide) ?_
  refine q_lald hx dL_law_2131 ?_
  refine q_iload hx dL_law_2132 0 rfl ?_
  refine q_i2l hx dL_law_2134 ?_
  refine q_lcmp hx dL_law_2135 ?_
  refine q_if_eq hx 2141 dL_law_2136 (by decide) (fun _ => ?_) (fun hn => absurd (q_cmp0 (by rw [if_pos he0, h4 he0])) hn)
  refine q_goto hx 2353 dL_law_2141 (by decide) ?_
  refine q_sub [2, 3, 4, 5, 6, 7] rfl ?_
  exact kk _
set_option maxHeartbeats 4000000 in
set_option maxRecDepth 100000 in
theorem w_case_31 {X : q_X} {G : q_G} {x : q_A} {Q : State → Prop} {k n b L i : Nat} {xs : Nat → Int32} {σ υ : q_S} {e : Nat} {v w : UInt64} (hx : q_Cx X G RL cL_law 10 20) (hNc : q_NcX X) (hs : q_Sc X G b L xs) (hkR : q_kR X (k + 1) (n + 6)) (hfl : (q_Xl X).stackTraces = false) (hiL : i + 4 ≤ L) (hL : L ≤ 2048) (h1 : f_X9_meanDepth σ = some (e, v)) (he : e = 0 ∨ e = 6) (h2 : f_X10_meanDepth σ = some (w, υ)) (h3 : f_X10_thrown υ = q_cd [6] e) (h4 : e = 0 → v = w) (h5 : e = 0 → q_n64 v = true) (kk : ∀ x : q_A, q_Wq X G x 10 Q (k + 1) (n + 6) 2353 [(0, .ref b), (1, .ref (G.2.1 + 0)), (2, .ref (G.2.1 + 292)), (3, .ref (G.2.1 + 303)), (4, .ref (G.2.1 + 304)), (5, .int (Int32.ofNat i))] [] υ) : q_Wq X G x 10 Q k n 2144 [(0, .ref b), (1, .ref (G.2.1 + 0)), (2, .ref (G.2.1 + 292)), (3, .ref (G.2.1 + 303)), (4, .ref (G.2.1 + 304)), (5, .int (Int32.ofNat i))] [] σ := by
  refine q_aload_n hx dL_law_2144 1 rfl ?_
  refine q_aload hx dL_law_2145 4 rfl ?_
  refine q_callW (np := 2) (As := [.ref (G.2.1 + 0), .ref (G.2.1 + 304)]) (rest := []) hx hNc hkR (c_L_meanDepth (q_Xl X) G x σ  h1 he hfl) q_lml_241 q_lcw_meanDepth q_lin (by decide) (by decide) (by decide) q_lst_meanDepth (by decide) rfl (Nat.le_of_ble_eq_true rfl) dL_law_2147 rfl ?_
  refine q_istore hx [(6, .int (q_cd [6] e)), (0, .ref b), (1, .ref (G.2.1 + 0)), (2, .ref (G.2.1 + 292)), (3, .ref (G.2.1 + 303)), (4, .ref (G.2.1 + 304)), (5, .int (Int32.ofNat i))] dL_law_2150 (by decide) rfl ?_
  refine q_aload_n hx dL_law_2152 3 rfl ?_
  refine q_callVd (As := []) (rest := []) hx (q_kR_le hkR (by omega) (by omega)) (c_X10_meanDepth (q_Xl X) G (if e = 0 then (x.1, v) else x) σ  h2) q_lmv_244 q_mn_X10_meanDepth q_mi_X10_meanDepth q_se_X10_meanDepth (by decide) rfl (Nat.le_of_ble_eq_true rfl) dL_law_2153 (q_ne kd_292 (by decide)) (q_e10 kd_292) rfl rfl rfl ?_
  refine q_dstore hx [(7, .double w), (6, .int (q_cd [6] e)), (0, .ref b), (1, .ref (G.2.1 + 0)), (2, .ref (G.2.1 + 292)), (3, .ref (G.2.1 + 303)), (4, .ref (G.2.1 + 304)), (5, .int (Int32.ofNat i))] dL_law_2156 (by decide) rfl ?_
  refine q_aload_n hx dL_law_2158 4 rfl ?_
  refine q_callVi (As := []) (rest := []) hx (q_kR_le hkR (by omega) (by omega)) (c_X10_thrown (q_Xl X) G (if e = 0 then (x.1, v) else x) υ) q_lmv_140 q_mn_X10_thrown q_mi_X10_thrown q_se_X10_thrown (by decide) rfl (Nat.le_of_ble_eq_true rfl) dL_law_2159 (q_ne kd_292 (by decide)) (q_e10 kd_292) rfl rfl rfl ?_
  refine q_iload hx dL_law_2162 1 rfl ?_
  refine q_icmp_eq hx 2169 dL_law_2164 (by decide) (fun _ => ?_) (fun hn => absurd h3 hn)
  refine q_iload hx dL_law_2169 1 rfl ?_
  have hz : q_cd [6] e = 0 → e = 0 := by
    rcases he with rfl | rfl <;> intro hq <;> first | rfl | exact absurd hq (by decide)
  refine q_if_ne hx 2206 dL_law_2171 (by decide) (fun _ => ?_) (fun he0 => ?_)
  · skip
    refine q_goto hx 2353 dL_law_2206 (by decide) ?_
    refine q_sub [2, 3, 4, 5, 6, 7] rfl ?_
    exact kk _
  replace he0 := hz he0
  refine q_aload hx dL_law_2174 6 rfl ?_
  refine q_iconst (v := 0) hx dL_law_2176 (by decide) ?_
  refine q_dald hx dL_law_2177 ?_
  refine q_dload hx dL_law_2178 0 rfl ?_
  refine q_dcmp hx dL_law_2180 ?_
  refine q_if_eq hx 2206 dL_law_2181 (by decide) (fun _ => ?_) (fun hn => absurd (by rw [if_pos he0, h4 he0]; exact q_dc0 (by rw [← h4 he0]; exact h5 he0)) hn)
  refine q_goto hx 2353 dL_law_2206 (by decide) ?_
  refine q_sub [2, 3, 4, 5, 6, 7] rfl ?_
  exact kk _
set_option maxHeartbeats 4000000 in
set_option maxRecDepth 100000 in
theorem w_case_32 {X : q_X} {G : q_G} {x : q_A} {Q : State → Prop} {k n b L i : Nat} {xs : Nat → Int32} {σ τ υ : q_S} {v w : UInt32} (hx : q_Cx X G RL cL_law 10 20) (hNc : q_NcX X) (hs : q_Sc X G b L xs) (hkR : q_kR X (k + 1) (n + 6)) (hfl : (q_Xl X).stackTraces = false) (hiL : i + 4 ≤ L) (hL : L ≤ 2048) (h1 : f_X9_ownedShare σ = some (v, τ)) (h2 : f_X10_ownedShare τ = some (w, υ)) (h4 : v = w) (h5 : q_n64 (FP.f2d v) = true) (kk : ∀ x : q_A, q_Wq X G x 10 Q (k + 1) (n + 6) 2353 [(0, .ref b), (1, .ref (G.2.1 + 0)), (2, .ref (G.2.1 + 292)), (3, .ref (G.2.1 + 303)), (4, .ref (G.2.1 + 304)), (5, .int (Int32.ofNat i))] [] υ) : q_Wq X G x 10 Q k n 2209 [(0, .ref b), (1, .ref (G.2.1 + 0)), (2, .ref (G.2.1 + 292)), (3, .ref (G.2.1 + 303)), (4, .ref (G.2.1 + 304)), (5, .int (Int32.ofNat i))] [] σ := by
  refine q_aload_n hx dL_law_2209 1 rfl ?_
  refine q_callVf (As := []) (rest := []) hx (q_kR_le hkR (by omega) (by omega)) (c_X9_ownedShare (q_Xl X) G x σ  h1) q_lmv_245 q_mn_X9_ownedShare q_mi_X9_ownedShare q_se_X9_ownedShare (by decide) rfl (Nat.le_of_ble_eq_true rfl) dL_law_2210 (q_ne kd_0 (by decide)) (q_e9 kd_0) rfl rfl rfl ?_
  refine q_f2d hx dL_law_2213 (q_n64.v h5) ?_
  refine q_dstore hx [(6, .double (FP.f2d v)), (0, .ref b), (1, .ref (G.2.1 + 0)), (2, .ref (G.2.1 + 292)), (3, .ref (G.2.1 + 303)), (4, .ref (G.2.1 + 304)), (5, .int (Int32.ofNat i))] dL_law_2214 (by decide) rfl ?_
  refine q_aload_n hx dL_law_2216 3 rfl ?_
  refine q_callVf (As := []) (rest := []) hx (q_kR_le hkR (by omega) (by omega)) (c_X10_ownedShare (q_Xl X) G x τ  h2) q_lmv_249 q_mn_X10_ownedShare q_mi_X10_ownedShare q_se_X10_ownedShare (by decide) rfl (Nat.le_of_ble_eq_true rfl) dL_law_2217 (q_ne kd_292 (by decide)) (q_e10 kd_292) rfl rfl rfl ?_
  refine q_f2d hx dL_law_2220 (q_n64.v (by rw [← h4]; exact h5)) ?_
  refine q_dstore hx [(8, .double (FP.f2d w)), (6, .double (FP.f2d v)), (0, .ref b), (1, .ref (G.2.1 + 0)), (2, .ref (G.2.1 + 292)), (3, .ref (G.2.1 + 303)), (4, .ref (G.2.1 + 304)), (5, .int (Int32.ofNat i))] dL_law_2221 (by decide) rfl ?_
  refine q_dload hx dL_law_2223 1 rfl ?_
  refine q_dload hx dL_law_2225 0 rfl ?_
  refine q_dcmp hx dL_law_2227 ?_
  refine q_if_eq hx 2249 dL_law_2228 (by decide) (fun _ => ?_) (fun hn => absurd (by rw [h4]; exact q_dc0 (by rw [← h4]; exact h5)) hn)
  refine q_goto hx 2353 dL_law_2249 (by decide) ?_
  refine q_sub [2, 3, 4, 5, 6, 7] rfl ?_
  refine q_Wq.widen (k2 := k + 1) (n2 := n + 6) (Nat.le_add_right _ _) (Nat.le_add_right _ _) ?_
  exact kk _
set_option maxHeartbeats 4000000 in
set_option maxRecDepth 100000 in
theorem w_case_33 {X : q_X} {G : q_G} {x : q_A} {Q : State → Prop} {k n b L i : Nat} {xs : Nat → Int32} {σ τ υ : q_S} {e : Nat} {v w : Int32} (hx : q_Cx X G RL cL_law 10 20) (hNc : q_NcX X) (hs : q_Sc X G b L xs) (hkR : q_kR X (k + 1) (n + 6)) (hfl : (q_Xl X).stackTraces = false) (hiL : i + 4 ≤ L) (hL : L ≤ 2048) (h1 : f_X9_undo σ = some (e, v, τ)) (he : e = 0 ∨ e = 5) (h2 : f_X10_undo τ = some (w, υ)) (h3 : f_X10_thrown υ = q_cd [5] e) (h4 : e = 0 → v = w) (kk : ∀ x : q_A, q_Wq X G x 10 Q (k + 1) (n + 6) 2353 [(0, .ref b), (1, .ref (G.2.1 + 0)), (2, .ref (G.2.1 + 292)), (3, .ref (G.2.1 + 303)), (4, .ref (G.2.1 + 304)), (5, .int (Int32.ofNat i))] [] υ) : q_Wq X G x 10 Q k n 2252 [(0, .ref b), (1, .ref (G.2.1 + 0)), (2, .ref (G.2.1 + 292)), (3, .ref (G.2.1 + 303)), (4, .ref (G.2.1 + 304)), (5, .int (Int32.ofNat i))] [] σ := by
  refine q_aload_n hx dL_law_2252 1 rfl ?_
  refine q_aload_n hx dL_law_2253 3 rfl ?_
  refine q_callW (np := 2) (As := [.ref (G.2.1 + 0), .ref (G.2.1 + 303)]) (rest := []) hx hNc hkR (c_L_undo (q_Xl X) G x σ  h1 he hfl) q_lml_250 q_lcw_undo q_lin (by decide) (by decide) (by decide) q_lst_undo (by decide) rfl (Nat.le_of_ble_eq_true rfl) dL_law_2254 rfl ?_
  refine q_istore hx [(6, .int (q_cd [5] e)), (0, .ref b), (1, .ref (G.2.1 + 0)), (2, .ref (G.2.1 + 292)), (3, .ref (G.2.1 + 303)), (4, .ref (G.2.1 + 304)), (5, .int (Int32.ofNat i))] dL_law_2257 (by decide) rfl ?_
  refine q_aload_n hx dL_law_2259 3 rfl ?_
  refine q_callVi (As := []) (rest := []) hx (q_kR_le hkR (by omega) (by omega)) (c_X10_undo (q_Xl X) G (if e = 0 then (v.toInt64, x.2) else x) τ  h2) q_lmv_252 q_mn_X10_undo q_mi_X10_undo q_se_X10_undo (by decide) rfl (Nat.le_of_ble_eq_true rfl) dL_law_2260 (q_ne kd_292 (by decide)) (q_e10 kd_292) rfl rfl rfl ?_
  refine q_istore hx [(7, .int w), (6, .int (q_cd [5] e)), (0, .ref b), (1, .ref (G.2.1 + 0)), (2, .ref (G.2.1 + 292)), (3, .ref (G.2.1 + 303)), (4, .ref (G.2.1 + 304)), (5, .int (Int32.ofNat i))] dL_law_2263 (by decide) rfl ?_
  refine q_aload_n hx dL_law_2265 4 rfl ?_
  refine q_callVi (As := []) (rest := []) hx (q_kR_le hkR (by omega) (by omega)) (c_X10_thrown (q_Xl X) G (if e = 0 then (v.toInt64, x.2) else x) υ) q_lmv_140 q_mn_X10_thrown q_mi_X10_thrown q_se_X10_thrown (by decide) rfl (Nat.le_of_ble_eq_true rfl) dL_law_2266 (q_ne kd_292 (by decide)) (q_e10 kd_292) rfl rfl rfl ?_
  refine q_iload hx dL_law_2269 1 rfl ?_
  refine q_icmp_eq hx 2276 dL_law_2271 (by decide) (fun _ => ?_) (fun hn => absurd h3 hn)
  refine q_iload hx dL_law_2276 1 rfl ?_
  have hz : q_cd [5] e = 0 → e = 0 := by
    rcases he with rfl | rfl <;> intro hq <;> first | rfl | exact absurd hq (by decide)
  refine q_if_ne hx 2293 dL_law_2278 (by decide) (fun _ => ?_) (fun he0 => ?_)
  · skip
    refine q_goto hx 2353 dL_law_2293 (by decide) ?_
    refine q_sub [2, 3, 4, 5, 6, 7] rfl ?_
    exact kk _
  replace he0 := hz he0
  refine q_aload_n hx dL_law_2281 5 rfl ?_
  refine q_iconst (v := 0) hx dL_law_2282 (by decide) ?_
  refine q_lald hx dL_law_2283 ?_
  refine q_iload hx dL_law_2284 0 rfl ?_
  refine q_i2l hx dL_law_2286 ?_
  refine q_lcmp hx dL_law_2287 ?_
  refine q_if_eq hx 2293 dL_law_2288 (by decide) (fun _ => ?_) (fun hn => absurd (q_cmp0 (by rw [if_pos he0, h4 he0])) hn)
  refine q_goto hx 2353 dL_law_2293 (by decide) ?_
  refine q_sub [2, 3, 4, 5, 6, 7] rfl ?_
  exact kk _
set_option maxHeartbeats 4000000 in
set_option maxRecDepth 100000 in
theorem w_case_34 {X : q_X} {G : q_G} {x : q_A} {Q : State → Prop} {k n b L i : Nat} {xs : Nat → Int32} {σ τ υ : q_S} {v w : Int32} (hx : q_Cx X G RL cL_law 10 20) (hNc : q_NcX X) (hs : q_Sc X G b L xs) (hkR : q_kR X (k + 1) (n + 6)) (hfl : (q_Xl X).stackTraces = false) (hiL : i + 4 ≤ L) (hL : L ≤ 2048) (h1 : f_X9_save σ = some (v, τ)) (h2 : f_X10_save τ = some (w, υ)) (h4 : v = w) (kk : ∀ x : q_A, q_Wq X G x 10 Q (k + 1) (n + 6) 2353 [(0, .ref b), (1, .ref (G.2.1 + 0)), (2, .ref (G.2.1 + 292)), (3, .ref (G.2.1 + 303)), (4, .ref (G.2.1 + 304)), (5, .int (Int32.ofNat i))] [] υ) : q_Wq X G x 10 Q k n 2296 [(0, .ref b), (1, .ref (G.2.1 + 0)), (2, .ref (G.2.1 + 292)), (3, .ref (G.2.1 + 303)), (4, .ref (G.2.1 + 304)), (5, .int (Int32.ofNat i))] [] σ := by
  refine q_aload_n hx dL_law_2296 1 rfl ?_
  refine q_callVi (As := []) (rest := []) hx (q_kR_le hkR (by omega) (by omega)) (c_X9_save (q_Xl X) G x σ  h1) q_lmv_253 q_mn_X9_save q_mi_X9_save q_se_X9_save (by decide) rfl (Nat.le_of_ble_eq_true rfl) dL_law_2297 (q_ne kd_0 (by decide)) (q_e9 kd_0) rfl rfl rfl ?_
  refine q_aload_n hx dL_law_2300 2 rfl ?_
  refine q_callVi (As := []) (rest := [.int v]) hx (q_kR_le hkR (by omega) (by omega)) (c_X10_save (q_Xl X) G x τ  h2) q_lmv_256 q_mn_X10_save q_mi_X10_save q_se_X10_save (by decide) rfl (Nat.le_of_ble_eq_true rfl) dL_law_2301 (q_ne kd_292 (by decide)) (q_e10 kd_292) rfl rfl rfl ?_
  refine q_icmp_eq hx 2353 dL_law_2304 (by decide) (fun _ => ?_) (fun hn => absurd h4 hn)
  refine q_sub [0, 1, 2, 3, 4, 5] rfl ?_
  refine q_Wq.widen (k2 := k + 1) (n2 := n + 6) (Nat.le_add_right _ _) (Nat.le_add_right _ _) ?_
  exact kk _
set_option maxHeartbeats 4000000 in
set_option maxRecDepth 100000 in
theorem w_case_35 {X : q_X} {G : q_G} {x : q_A} {Q : State → Prop} {k n b L i : Nat} {xs : Nat → Int32} {σ τ υ : q_S} {e : Nat} {v w : Int32} (hx : q_Cx X G RL cL_law 10 20) (hNc : q_NcX X) (hs : q_Sc X G b L xs) (hkR : q_kR X (k + 1) (n + 6)) (hfl : (q_Xl X).stackTraces = false) (hiL : i + 4 ≤ L) (hL : L ≤ 2048) (h1 : f_X9_restore σ = some (e, v, τ)) (he : e = 0 ∨ e = 5) (h2 : f_X10_restore τ = some (w, υ)) (h3 : f_X10_thrown υ = q_cd [5] e) (h4 : e = 0 → v = w) (kk : ∀ x : q_A, q_Wq X G x 10 Q (k + 1) (n + 6) 2353 [(0, .ref b), (1, .ref (G.2.1 + 0)), (2, .ref (G.2.1 + 292)), (3, .ref (G.2.1 + 303)), (4, .ref (G.2.1 + 304)), (5, .int (Int32.ofNat i))] [] υ) : q_Wq X G x 10 Q k n 2309 [(0, .ref b), (1, .ref (G.2.1 + 0)), (2, .ref (G.2.1 + 292)), (3, .ref (G.2.1 + 303)), (4, .ref (G.2.1 + 304)), (5, .int (Int32.ofNat i))] [] σ := by
  refine q_aload_n hx dL_law_2309 1 rfl ?_
  refine q_aload_n hx dL_law_2310 3 rfl ?_
  refine q_callW (np := 2) (As := [.ref (G.2.1 + 0), .ref (G.2.1 + 303)]) (rest := []) hx hNc hkR (c_L_restore (q_Xl X) G x σ  h1 he hfl) q_lml_257 q_lcw_restore q_lin (by decide) (by decide) (by decide) q_lst_restore (by decide) rfl (Nat.le_of_ble_eq_true rfl) dL_law_2311 rfl ?_
  refine q_istore hx [(6, .int (q_cd [5] e)), (0, .ref b), (1, .ref (G.2.1 + 0)), (2, .ref (G.2.1 + 292)), (3, .ref (G.2.1 + 303)), (4, .ref (G.2.1 + 304)), (5, .int (Int32.ofNat i))] dL_law_2314 (by decide) rfl ?_
  refine q_aload_n hx dL_law_2316 3 rfl ?_
  refine q_callVi (As := []) (rest := []) hx (q_kR_le hkR (by omega) (by omega)) (c_X10_restore (q_Xl X) G (if e = 0 then (v.toInt64, x.2) else x) τ  h2) q_lmv_259 q_mn_X10_restore q_mi_X10_restore q_se_X10_restore (by decide) rfl (Nat.le_of_ble_eq_true rfl) dL_law_2317 (q_ne kd_292 (by decide)) (q_e10 kd_292) rfl rfl rfl ?_
  refine q_istore hx [(7, .int w), (6, .int (q_cd [5] e)), (0, .ref b), (1, .ref (G.2.1 + 0)), (2, .ref (G.2.1 + 292)), (3, .ref (G.2.1 + 303)), (4, .ref (G.2.1 + 304)), (5, .int (Int32.ofNat i))] dL_law_2320 (by decide) rfl ?_
  refine q_aload_n hx dL_law_2322 4 rfl ?_
  refine q_callVi (As := []) (rest := []) hx (q_kR_le hkR (by omega) (by omega)) (c_X10_thrown (q_Xl X) G (if e = 0 then (v.toInt64, x.2) else x) υ) q_lmv_140 q_mn_X10_thrown q_mi_X10_thrown q_se_X10_thrown (by decide) rfl (Nat.le_of_ble_eq_true rfl) dL_law_2323 (q_ne kd_292 (by decide)) (q_e10 kd_292) rfl rfl rfl ?_
  refine q_iload hx dL_law_2326 1 rfl ?_
  refine q_icmp_eq hx 2333 dL_law_2328 (by decide) (fun _ => ?_) (fun hn => absurd h3 hn)
  refine q_iload hx dL_law_2333 1 rfl ?_
  have hz : q_cd [5] e = 0 → e = 0 := by
    rcases he with rfl | rfl <;> intro hq <;> first | rfl | exact absurd hq (by decide)
  refine q_if_ne hx 2350 dL_law_2335 (by decide) (fun _ => ?_) (fun he0 => ?_)
  · skip
    refine q_goto hx 2353 dL_law_2350 (by decide) ?_
    refine q_sub [2, 3, 4, 5, 6, 7] rfl ?_
    exact kk _
  replace he0 := hz he0
  refine q_aload_n hx dL_law_2338 5 rfl ?_
  refine q_iconst (v := 0) hx dL_law_2339 (by decide) ?_
  refine q_lald hx dL_law_2340 ?_
  refine q_iload hx dL_law_2341 0 rfl ?_
  refine q_i2l hx dL_law_2343 ?_
  refine q_lcmp hx dL_law_2344 ?_
  refine q_if_eq hx 2350 dL_law_2345 (by decide) (fun _ => ?_) (fun hn => absurd (q_cmp0 (by rw [if_pos he0, h4 he0])) hn)
  refine q_goto hx 2353 dL_law_2350 (by decide) ?_
  refine q_sub [2, 3, 4, 5, 6, 7] rfl ?_
  exact kk _
