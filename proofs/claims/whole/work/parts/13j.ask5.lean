/-! the owned cells; accounts; means -/
section
variable {σ : q_S} {D : Nat → Int} {B : Int}
theorem ab_cn_b {h s : Int} : 0 ≤ ab_cn D h s ∧ ab_cn D h s ≤ 96 := by
  unfold ab_cn ab_cells
  have h1 : ∀ v : Int, 0 ≤ ab_is v s ∧ ab_is v s ≤ 1 := fun v => by unfold ab_is; split <;> decide
  refine ⟨ab_S_nonneg (fun j hj => ab_S_nonneg (fun i hi => (h1 _).1)), ?_⟩
  have h2 : ∀ j : Nat, j < 8 → ab_S (fun x => ab_is (ab_ow D x j h) s) 12 ≤ 12 := fun j hj => by
    have := ab_S_le (f := fun x : Nat => ab_is (ab_ow D x j h) s) (n := 12) (c := 1) (fun i hi => (h1 _).2)
    omega
  exact Int.le_trans (ab_S_le (f := fun y : Nat => ab_S (fun x => ab_is (ab_ow D x y h) s) 12) (n := 8) (c := 12) h2) (by decide)
theorem ab_owned_sum (hW : ab_WD B D) {h : Int} : ab_S (fun s => ab_cn D h s) 5 = 96 - ab_cn D h (-1) := by
  have e : ∀ v : Int, (v = -1 ∨ ∃ s : Nat, s < 5 ∧ v = s) → ab_S (fun s => ab_is v s) 5 = 1 - ab_is v (-1) := fun v hv => by
    rcases hv with rfl | ⟨s, hs, rfl⟩
    · decide
    · rcases (show s = 0 ∨ s = 1 ∨ s = 2 ∨ s = 3 ∨ s = 4 by omega) with rfl | rfl | rfl | rfl | rfl <;> decide
  unfold ab_cn ab_cells
  rw [ab_S_swap]
  have e2 : ∀ y : Nat, ab_S (fun s => ab_S (fun x => ab_is (ab_ow D x y h) s) 12) 5 = 12 - ab_S (fun x => ab_is (ab_ow D x y h) (-1)) 12 := fun y => by
    rw [ab_S_swap]
    have e3 : ab_S (fun x => ab_S (fun s => ab_is (ab_ow D x y h) s) 5) 12 = ab_S (fun x => 1 - ab_is (ab_ow D x y h) (-1)) 12 := ab_S_congr (fun x hx => e _ (by
      rcases ab_ow_b hW x y h with q | ⟨s, q1, q2, q⟩
      · exact .inl q
      · exact .inr ⟨s, q2, q⟩))
    rw [e3, ab_S_sub (f := fun _ => 1), ab_S_const]
    rfl
  rw [ab_S_congr (fun y _ => e2 y), ab_S_sub (f := fun _ => 12), ab_S_const]
  rfl
theorem ab_cOwned_lp {v : Nat → Int} (h : ∀ s, s < 5 → σ 282 s = ab_I (v s)) : ∀ r k : Nat, k + r = 5 → ∀ f, r < f → f_X0_countOwned_4 σ f (ab_I (ab_S v k)) (ab_I k) = some (ab_I (ab_S v 5)) := by
  intro r
  induction r with
  | zero =>
    intro k hk f hf
    obtain ⟨f, rfl⟩ : ∃ g, f = g + 1 := ⟨f - 1, by omega⟩
    have : k = 5 := by omega
    subst this
    rw [f_X0_countOwned_4, if_pos (show (5 : Int32) ≤ ab_I ((5 : Nat) : Int) by decide)]
  | succ r ih =>
    intro k hk f hf
    obtain ⟨f, rfl⟩ : ∃ g, f = g + 1 := ⟨f - 1, by omega⟩
    rw [f_X0_countOwned_4, if_neg (by rw [show (5 : Int32) = ab_I 5 from rfl, ab_Ile (by omega) (by omega) (by omega) (by omega)]; omega), ab_Icl (by omega) (by omega), Int.toNat_natCast, if_neg (by rw [ab_Iltc (by omega) (by omega)]; exact fun h => h.elim id (fun h => by omega)), h k (by omega), ab_Iadd, ab_I1]
    exact ih (k + 1) (by omega) f (by omega)
/-- both count the owned cells alike -/
theorem ab_ownedC (hC : ab_CR σ 2 D) (hW : ab_WD B D) : ∃ τ, f_X0_survey σ 2 0 = some τ ∧ f_X0_countOwned τ = some (ab_I (96 - ab_cn D 0 (-1))) ∧ ∀ c, c ≠ 281 → c ≠ 282 → τ c = σ c := by
  obtain ⟨τ, t1, t2, t3, t4⟩ := ab_survey hC hW (h := 0) (by decide) (by decide)
  refine ⟨τ, t1, ?_, t4⟩
  unfold f_X0_countOwned
  rw [← ab_owned_sum hW]
  exact ab_cOwned_lp (v := fun s => ab_cn D 0 s) t3 5 0 (by decide) q_fu (by unfold q_fu; omega)
theorem ab_ownedR (hM : ab_MR σ 293 0 D) (hW : ab_WD B D) : f_X10_owned σ = some (ab_I (96 - ab_cn D 0 (-1))) := by
  unfold f_X10_owned
  rw [show (-1 : Int32) = ab_I (-1) from rfl, show (0 : Int32) = ab_I 0 from rfl, ab_cellsIn hM hW (h := 0) (s := -1) (by decide) (by decide) (by decide) (by decide), Option.bind_some, show (96 : Int32) - ab_I (ab_cn D 0 (-1)) = ab_I (96 - ab_cn D 0 (-1)) from ab_Isub (a := 96)]
theorem ab_cLit_lp (hC : ab_CR σ 2 D) (hW : ab_WD B D) (hB : B ≤ 1000000000) : ∀ r k : Nat, ((k + r : Nat) : Int) = D 1 → ∀ f, r < f → f_X5_countLit_4 8 σ f (ab_I (D 2)) (ab_I (ab_S (fun p => if ab_lt D p = 0 then (1 : Int) else 0) k)) (ab_I k) = some (ab_I (ab_S (fun p => if ab_lt D p = 0 then (1 : Int) else 0) (D 1).toNat)) := by
  have w3 := hW.2.2.1
  have w4 := hW.2.2.2.1
  intro r
  induction r with
  | zero =>
    intro k hk f hf
    obtain ⟨f, rfl⟩ : ∃ g, f = g + 1 := ⟨f - 1, by omega⟩
    rw [f_X5_countLit_4, show σ 8 0 = _ from hC.2.1, if_pos (by rw [ab_Ile (by omega) (by omega) (by omega) (by omega)]; omega), show (D 1).toNat = k by omega]
  | succ r ih =>
    intro k hk f hf
    obtain ⟨f, rfl⟩ : ∃ g, f = g + 1 := ⟨f - 1, by omega⟩
    have b := ab_lt_b hW (p := k) (by omega)
    have hI := ih (k + 1) (by omega) f (by omega)
    have hs : ab_S (fun p => if ab_lt D p = 0 then (1 : Int) else 0) (k + 1) = ab_S (fun p => if ab_lt D p = 0 then (1 : Int) else 0) k + (if ab_lt D k = 0 then (1 : Int) else 0) := rfl
    rw [hs] at hI
    rw [f_X5_countLit_4, show σ 8 0 = _ from hC.2.1, if_neg (by rw [ab_Ile (by omega) (by omega) (by omega) (by omega)]; omega), show f_X5_hoursUntilLit σ 8 (ab_I k) (ab_I (D 2)) = _ from ab_until hC hW hB (by omega) (by omega), Option.bind_some, ab_I1]
    by_cases q : ab_lt D k = 0
    · rw [if_pos q] at hI
      rw [if_pos (by rw [q]; rfl), show (1 : Int32) = ab_I 1 from rfl, ab_Iadd]
      exact hI
    · rw [if_neg q, Int.add_zero] at hI
      rw [if_neg (by rw [show (0 : Int32) = ab_I 0 from rfl, ab_Ieq (by omega) (by omega) (by omega) (by omega)]; exact q)]
      exact hI
theorem ab_rLit_lp (hM : ab_MR σ 293 0 D) (hW : ab_WD B D) (hB : B ≤ 1000000000) : ∀ r k : Nat, ((k + r : Nat) : Int) = D 1 → ∀ f, r < f → f_X10_lit_4 σ f (ab_I (ab_S (fun p => if ab_lt D p = 0 then (1 : Int) else 0) k)) (ab_I k) = some (ab_I (ab_S (fun p => if ab_lt D p = 0 then (1 : Int) else 0) (D 1).toNat)) := by
  have w3 := hW.2.2.1
  have w4 := hW.2.2.2.1
  have m1 : σ 293 1 = ab_I (D 1) := hM 1 (by decide)
  intro r
  induction r with
  | zero =>
    intro k hk f hf
    obtain ⟨f, rfl⟩ : ∃ g, f = g + 1 := ⟨f - 1, by omega⟩
    rw [f_X10_lit_4, m1, if_pos (by rw [ab_Ile (by omega) (by omega) (by omega) (by omega)]; omega), show (D 1).toNat = k by omega]
  | succ r ih =>
    intro k hk f hf
    obtain ⟨f, rfl⟩ : ∃ g, f = g + 1 := ⟨f - 1, by omega⟩
    have hI := ih (k + 1) (by omega) f (by omega)
    have hs : ab_S (fun p => if ab_lt D p = 0 then (1 : Int) else 0) (k + 1) = ab_S (fun p => if ab_lt D p = 0 then (1 : Int) else 0) k + (if ab_lt D k = 0 then (1 : Int) else 0) := rfl
    rw [hs] at hI
    rw [f_X10_lit_4, m1, if_neg (by rw [ab_Ile (by omega) (by omega) (by omega) (by omega)]; omega), ab_isLit hM hW hB (by omega) (by omega), Option.bind_some, ab_I1]
    by_cases q : ab_lt D k = 0
    · rw [if_pos q] at hI ⊢
      rw [if_neg (show ¬ ab_I 1 = 0 by decide), show (1 : Int32) = ab_I 1 from rfl, ab_Iadd]
      exact hI
    · rw [if_neg q] at hI ⊢
      rw [if_pos (show ab_I 0 = 0 from rfl), show (0 : Int32) = ab_I 0 from rfl, ab_Iadd]
      exact hI
end
theorem ab_ok_30 {t : Nat} {σ : q_S} (hI : ab_Inv t σ) (_ht : t < 512) (a b c : Int32) : w_ok_30 σ a b c (ab_Inv (t + 1)) := by
  have hI2 := hI
  obtain ⟨D, ⟨hC, hM, hW⟩, hO⟩ := hI
  have hO2 := hO
  obtain ⟨⟨nx, ct, E, ⟨c1, c2, c3⟩, ⟨m1, m2⟩, hw⟩, hS, hR, hm, ⟨n, n60, t1, t2, t3⟩, hL⟩ := hO2
  have hB : (200 * t : Int) ≤ 1000000000 := by omega
  have w0 := hW.1
  have w5 := hW.2.1
  have w3 := hW.2.2.1
  have w4 := hW.2.2.2.1
  have hM' : ab_MR (q_up σ 292 4 0) 293 0 D := hM
  unfold w_ok_30
  have fin : ∀ v : Int32, f_X9_account σ a = some (0, v, σ) → f_X10_account σ a = some (v, q_up σ 292 4 0) → ∃ (e : Nat) (v w : Int32) (τ υ : q_S), f_X9_account σ a = some (e, v, τ) ∧ (e = 0 ∨ e = 2) ∧ f_X10_account τ a = some (w, υ) ∧ f_X10_thrown υ = q_cd [2] e ∧ (e = 0 → v = w) ∧ ab_Inv (t + 1) υ := fun v h1 h2 => ⟨0, v, v, σ, _, h1, .inl rfl, h2, rfl, fun _ => rfl, ab_sI hI2 0⟩
  by_cases q7 : a = 7
  · subst q7
    obtain ⟨τ, o1, o2, o3⟩ := ab_ownedC hC hW
    have hMτ : ab_MR (q_up τ 292 4 0) 293 0 D := fun k hk => by rw [ab_up_ne (by decide), o3 293 (by decide) (by decide)]; exact hM k hk
    refine ⟨0, ab_I (96 - ab_cn D 0 (-1)), ab_I (96 - ab_cn D 0 (-1)), τ, q_up τ 292 4 0, ?_, .inl rfl, ?_, rfl, fun _ => rfl, hI2.same ((ab_svq o3).trans (ab_eq.up (.inr ⟨rfl, .inl rfl⟩)))⟩
    · unfold f_X9_account
      rw [if_neg (by decide), if_neg (by decide), if_neg (by decide), if_neg (by decide), if_neg (by decide), if_neg (by decide), if_neg (by decide), if_pos rfl, o1, Option.bind_some, o2, Option.bind_some]
    · unfold f_X10_account
      rw [if_neg (by decide), if_neg (by decide), if_neg (by decide), if_neg (by decide), if_neg (by decide), if_neg (by decide), if_neg (by decide), if_pos rfl, ab_ownedR hMτ hW, Option.bind_some]
  have eC : f_X9_account σ a = if a = 0 then some (0, ab_I (D 0), σ) else if a = 1 then some (0, ab_I (ab_S (fun s => if D (30 + 37 * s) = 0 then (1 : Int) else 0) (D 0).toNat), σ) else if a = 2 then some (0, ab_I (D 1), σ) else if a = 3 then some (0, ab_I (ab_S (fun p => if ab_lt D p = 0 then (1 : Int) else 0) (D 1).toNat), σ) else if a = 4 then some (0, ab_I (ab_S (fun s => if 1 ≤ D (31 + 37 * s) then (1 : Int) else 0) (D 0).toNat), σ) else if a = 5 then some (0, ab_I (ab_S (fun s => if D (31 + 37 * s) = 2 then (1 : Int) else 0) (D 0).toNat), σ) else if a = 6 then some (0, ab_I (ab_S (fun s => D (34 + 37 * s)) (D 0).toNat), σ) else if a = 8 then some (0, ab_I (D 2), σ) else if a = 9 then some (0, ab_I (D 3), σ) else if a = 10 then some (0, ab_I n, σ) else if a = 11 then some (0, ab_I ct, σ) else some (2, 0, σ) := by
    unfold f_X9_account
    have hl : f_X5_countLit σ 8 (ab_I (D 2)) = some (ab_I (ab_S (fun p => if ab_lt D p = 0 then (1 : Int) else 0) (D 1).toNat)) := by
      unfold f_X5_countLit
      exact ab_cLit_lp hC hW hB (D 1).toNat 0 (by omega) q_fu (by unfold q_fu; omega)
    rw [if_neg q7, hC.1, hC.2.2.1, hC.2.2.2.1, show σ 8 0 = _ from hC.2.1, ab_cAwake hC hW w0 w5, hl, ab_cPlots hC hW w0 w5, ab_cClosed hC hW w0 w5, ab_cChains hC hW w0 w5, t1, c2]
    rfl
  have eR : f_X10_account σ a = if a = 0 then some (ab_I (D 0), q_up σ 292 4 0) else if a = 1 then some (ab_I (ab_S (fun s => if D (30 + 37 * s) = 0 then (1 : Int) else 0) (D 0).toNat), q_up σ 292 4 0) else if a = 2 then some (ab_I (D 1), q_up σ 292 4 0) else if a = 3 then some (ab_I (ab_S (fun p => if ab_lt D p = 0 then (1 : Int) else 0) (D 1).toNat), q_up σ 292 4 0) else if a = 4 then some (ab_I (ab_S (fun s => if 1 ≤ D (31 + 37 * s) then (1 : Int) else 0) (D 0).toNat), q_up σ 292 4 0) else if a = 5 then some (ab_I (ab_S (fun s => if D (31 + 37 * s) = 2 then (1 : Int) else 0) (D 0).toNat), q_up σ 292 4 0) else if a = 6 then some (ab_I (ab_S (fun s => D (34 + 37 * s)) (D 0).toNat), q_up σ 292 4 0) else if a = 8 then some (ab_I (D 2), q_up σ 292 4 0) else if a = 9 then some (ab_I (D 3), q_up σ 292 4 0) else if a = 10 then some (ab_I n, q_up σ 292 4 0) else if a = 11 then some (ab_I ct, q_up σ 292 4 0) else some (0, q_up (q_up σ 292 4 0) 292 4 1) := by
    unfold f_X10_account
    have hl : f_X10_lit (q_up σ 292 4 0) = some (ab_I (ab_S (fun p => if ab_lt D p = 0 then (1 : Int) else 0) (D 1).toNat)) := by
      unfold f_X10_lit
      exact ab_rLit_lp hM' hW hB (D 1).toNat 0 (by omega) q_fu (by unfold q_fu; omega)
    have p2 : f_X10_plots (q_up σ 292 4 0) 2 = some (ab_I (ab_S (fun s => if D (31 + 37 * s) = 2 then (1 : Int) else 0) (D 0).toNat)) := by
      have h := ab_rPlots hM' hW w0 w5 (m := 2) (by decide) (by decide)
      rw [show f_X10_plots (q_up σ 292 4 0) 2 = _ from h]
      refine congrArg (fun z => some (ab_I z)) (ab_S_congr (fun j hj => ?_))
      have w := hW.2.2.2.2.2.2.2.2.1 j (by omega)
      have e1 : ab_sl D j 1 = D (31 + 37 * j) := congrArg D (by omega)
      have w2 := w.2.2.2.1
      rw [e1] at w2
      (repeat' split) <;> omega
    rw [if_neg q7, show q_up σ 292 4 0 293 0 = _ from hM' 0 (by decide), show q_up σ 292 4 0 293 1 = _ from hM' 1 (by decide), show q_up σ 292 4 0 293 2 = _ from hM' 2 (by decide), show q_up σ 292 4 0 293 3 = _ from hM' 3 (by decide), ab_rAwake hM' hW w0 w5, hl, show f_X10_plots (q_up σ 292 4 0) 1 = _ from ab_rPlots hM' hW w0 w5 (m := 1) (by decide) (by decide), p2, ab_rChains hM' hW w0 w5, ab_up_nk (show (22 : Nat) ≠ 4 by decide), ab_up_nk (show (5 : Nat) ≠ 4 by decide), t2, m1]
    rfl
  by_cases q0 : a = 0
  · exact fin _ (by rw [eC, if_pos q0]) (by rw [eR, if_pos q0])
  by_cases q1 : a = 1
  · exact fin _ (by rw [eC, if_neg q0, if_pos q1]) (by rw [eR, if_neg q0, if_pos q1])
  by_cases q2 : a = 2
  · exact fin _ (by rw [eC, if_neg q0, if_neg q1, if_pos q2]) (by rw [eR, if_neg q0, if_neg q1, if_pos q2])
  by_cases q3 : a = 3
  · exact fin _ (by rw [eC, if_neg q0, if_neg q1, if_neg q2, if_pos q3]) (by rw [eR, if_neg q0, if_neg q1, if_neg q2, if_pos q3])
  by_cases q4 : a = 4
  · exact fin _ (by rw [eC, if_neg q0, if_neg q1, if_neg q2, if_neg q3, if_pos q4]) (by rw [eR, if_neg q0, if_neg q1, if_neg q2, if_neg q3, if_pos q4])
  by_cases q5 : a = 5
  · exact fin _ (by rw [eC, if_neg q0, if_neg q1, if_neg q2, if_neg q3, if_neg q4, if_pos q5]) (by rw [eR, if_neg q0, if_neg q1, if_neg q2, if_neg q3, if_neg q4, if_pos q5])
  by_cases q6 : a = 6
  · exact fin _ (by rw [eC, if_neg q0, if_neg q1, if_neg q2, if_neg q3, if_neg q4, if_neg q5, if_pos q6]) (by rw [eR, if_neg q0, if_neg q1, if_neg q2, if_neg q3, if_neg q4, if_neg q5, if_pos q6])
  by_cases q8 : a = 8
  · exact fin _ (by rw [eC, if_neg q0, if_neg q1, if_neg q2, if_neg q3, if_neg q4, if_neg q5, if_neg q6, if_pos q8]) (by rw [eR, if_neg q0, if_neg q1, if_neg q2, if_neg q3, if_neg q4, if_neg q5, if_neg q6, if_pos q8])
  by_cases q9 : a = 9
  · exact fin _ (by rw [eC, if_neg q0, if_neg q1, if_neg q2, if_neg q3, if_neg q4, if_neg q5, if_neg q6, if_neg q8, if_pos q9]) (by rw [eR, if_neg q0, if_neg q1, if_neg q2, if_neg q3, if_neg q4, if_neg q5, if_neg q6, if_neg q8, if_pos q9])
  by_cases q10 : a = 10
  · exact fin _ (by rw [eC, if_neg q0, if_neg q1, if_neg q2, if_neg q3, if_neg q4, if_neg q5, if_neg q6, if_neg q8, if_neg q9, if_pos q10]) (by rw [eR, if_neg q0, if_neg q1, if_neg q2, if_neg q3, if_neg q4, if_neg q5, if_neg q6, if_neg q8, if_neg q9, if_pos q10])
  by_cases q11 : a = 11
  · exact fin _ (by rw [eC, if_neg q0, if_neg q1, if_neg q2, if_neg q3, if_neg q4, if_neg q5, if_neg q6, if_neg q8, if_neg q9, if_neg q10, if_pos q11]) (by rw [eR, if_neg q0, if_neg q1, if_neg q2, if_neg q3, if_neg q4, if_neg q5, if_neg q6, if_neg q8, if_neg q9, if_neg q10, if_pos q11])
  exact ⟨2, 0, 0, σ, _, by rw [eC, if_neg q0, if_neg q1, if_neg q2, if_neg q3, if_neg q4, if_neg q5, if_neg q6, if_neg q8, if_neg q9, if_neg q10, if_neg q11], .inr rfl, by rw [eR, if_neg q0, if_neg q1, if_neg q2, if_neg q3, if_neg q4, if_neg q5, if_neg q6, if_neg q8, if_neg q9, if_neg q10, if_neg q11], rfl, fun z => absurd z (by decide), ab_sI2 hI2 0 1⟩
/-! the means: never no number -/
theorem ab_f96 : ∀ v : Fin 97, q_n32 (FP.fdiv (FP.i2f (ab_I (v.val : Nat))) 1119879168) = true ∧ q_n64 (FP.f2d (FP.fdiv (FP.i2f (ab_I (v.val : Nat))) 1119879168)) = true := by decide +kernel
theorem ab_d45 : ∀ v : Fin 46, ∀ n : Fin 6, n.val = 0 ∨ q_n64 (FP.ddiv (FP.i2d (ab_I (v.val : Nat))) (FP.i2d (ab_I (n.val : Nat)))) = true := by decide +kernel
theorem ab_ok_32 {t : Nat} {σ : q_S} (hI : ab_Inv t σ) (_ht : t < 512) (a b c : Int32) : w_ok_32 σ a b c (ab_Inv (t + 1)) := by
  have hI2 := hI
  obtain ⟨D, ⟨hC, hM, hW⟩, hO⟩ := hI
  unfold w_ok_32
  obtain ⟨τ, o1, o2, o3⟩ := ab_ownedC hC hW
  have hMτ : ab_MR (q_up τ 292 4 0) 293 0 D := fun k hk => by rw [ab_up_ne (by decide), o3 293 (by decide) (by decide)]; exact hM k hk
  have b := ab_cn_b (D := D) (h := 0) (s := -1)
  obtain ⟨n, hn⟩ : ∃ n : Nat, 96 - ab_cn D 0 (-1) = n := ⟨(96 - ab_cn D 0 (-1)).toNat, by omega⟩
  have f := ab_f96 ⟨n, by omega⟩
  rw [hn] at o2
  have oR := ab_ownedR hMτ hW
  rw [hn] at oR
  refine ⟨_, _, τ, q_up τ 292 4 0, ?_, ?_, rfl, f.2, hI2.same ((ab_svq o3).trans (ab_eq.up (.inr ⟨rfl, .inl rfl⟩)))⟩
  · unfold f_X9_ownedShare
    rw [o1, Option.bind_some, o2, Option.bind_some, if_pos f.1]
  · unfold f_X10_ownedShare
    rw [oR, Option.bind_some, if_pos f.1]
theorem ab_ok_31 {t : Nat} {σ : q_S} (hI : ab_Inv t σ) (_ht : t < 512) (a b c : Int32) : w_ok_31 σ a b c (ab_Inv (t + 1)) := by
  have hI2 := hI
  obtain ⟨D, ⟨hC, hM, hW⟩, hO⟩ := hI
  have hM' : ab_MR (q_up σ 292 4 0) 293 0 D := hM
  have m0 : σ 293 0 = ab_I (D 0) := hM 0 (by decide)
  obtain ⟨n, hn, hn5⟩ := ab_hn hW
  unfold w_ok_31
  by_cases q : n = 0
  · subst q
    refine ⟨6, 0, FP.dconst0, q_up σ 292 4 1, ?_, .inr rfl, ?_, rfl, fun z => absurd z (by decide), fun z => absurd z (by decide), ab_sI hI2 1⟩
    · unfold f_X9_meanDepth
      rw [hC.1, hn, if_pos (show ab_I ((0 : Nat) : Int) = 0 from rfl)]
    · unfold f_X10_meanDepth
      rw [m0, hn, if_pos (show ab_I ((0 : Nat) : Int) = 0 from rfl)]
      unfold f_X10_meanDepth_17
      rw [if_pos (show ab_I ((0 : Nat) : Int) = 0 from rfl)]
  · have s0 : 0 ≤ ab_S (fun s => D (30 + 37 * s)) (D 0).toNat := ab_S_nonneg (fun j hj => (hW.2.2.2.2.2.2.2.2.1 j (by omega)).1)
    have s9 : ab_S (fun s => D (30 + 37 * s)) (D 0).toNat ≤ ((D 0).toNat : Int) * 9 := ab_S_le (fun j hj => (hW.2.2.2.2.2.2.2.2.1 j (by omega)).2.1)
    obtain ⟨m, hm⟩ : ∃ m : Nat, ab_S (fun s => D (30 + 37 * s)) (D 0).toNat = m := ⟨(ab_S (fun s => D (30 + 37 * s)) (D 0).toNat).toNat, by omega⟩
    have f := (ab_d45 ⟨m, by omega⟩ ⟨n, by omega⟩).resolve_left q
    have nz : ¬ ab_I (n : Int) = 0 := by rw [show (0 : Int32) = ab_I 0 from rfl, ab_Ieq (by omega) (by omega) (by omega) (by omega)]; omega
    have g1 := ab_cDepths hC hW hW.1 hW.2.1
    have g2 := ab_rDepths hM' hW hW.1 hW.2.1
    rw [hm] at g1 g2
    refine ⟨0, FP.ddiv (FP.i2d (ab_I m)) (FP.i2d (ab_I n)), _, q_up σ 292 4 0, ?_, .inl rfl, ?_, rfl, fun _ => rfl, fun _ => f, ab_sI hI2 0⟩
    · unfold f_X9_meanDepth
      rw [hC.1, hn, if_neg nz, g1, Option.bind_some, if_pos f]
    · unfold f_X10_meanDepth
      rw [m0, hn, if_neg nz]
      unfold f_X10_meanDepth_17
      rw [if_neg nz, g2, Option.bind_some, if_pos f]
