/-! bending: both walks -/
theorem ab_opC {e : Int} (h0 : 0 ≤ e) (h3 : e ≤ 3) : f_X9_oppositeOf (ab_I e) = ab_I (ab_op e) := by
  rcases ab_dir h0 h3 with rfl | rfl | rfl | rfl <;> decide
theorem ab_opR {e : Int} (h0 : 0 ≤ e) (h3 : e ≤ 3) : (ab_I e + 2) - (ab_I e + 2) / 4 * 4 = ab_I (ab_op e) := by
  rcases ab_dir h0 h3 with rfl | rfl | rfl | rfl <;> decide +kernel
/-- the side towards which a chain is bent -/
def ab_sd (a v : Int) : Int := if v ≤ 0 then (if a = 3 then 0 else a + 1) else (if a = 0 then 3 else a - 1)
theorem ab_sd_b {a v : Int} (h0 : 0 ≤ a) (h3 : a ≤ 3) : 0 ≤ ab_sd a v ∧ ab_sd a v ≤ 3 ∧ ab_pp a (ab_sd a v) := by
  unfold ab_sd ab_pp
  rcases ab_dir h0 h3 with rfl | rfl | rfl | rfl <;> split <;> simp
theorem ab_sdL {a : Int} (h0 : 0 ≤ a) (h3 : a ≤ 3) {v : Int} (hv : ¬ v ≤ 0) : f_X9_leftOf (ab_I a) = ab_I (ab_sd a v) := by
  unfold ab_sd
  rw [if_neg hv]
  rcases ab_dir h0 h3 with rfl | rfl | rfl | rfl <;> decide
theorem ab_sdR {a : Int} (h0 : 0 ≤ a) (h3 : a ≤ 3) {v : Int} (hv : v ≤ 0) : f_X9_oppositeOf (f_X9_leftOf (ab_I a)) = ab_I (ab_sd a v) := by
  unfold ab_sd
  rw [if_pos hv]
  rcases ab_dir h0 h3 with rfl | rfl | rfl | rfl <;> decide
theorem ab_sdS {a v : Int} (h0 : 0 ≤ a) (h3 : a ≤ 3) (v0 : -1000 ≤ v) (v1 : v ≤ 1000) : f_X10_sideOf (ab_I a) (ab_I v) = ab_I (ab_sd a v) := by
  unfold ab_sd f_X10_sideOf
  rw [show (0 : Int32) = ab_I 0 from rfl]
  simp only [ab_Ile (a := v) (b := 0) (by omega) (by omega) (by omega) (by omega)]
  by_cases hv : v ≤ 0
  · rw [if_pos hv, if_pos hv]
    rcases ab_dir h0 h3 with rfl | rfl | rfl | rfl <;> decide +kernel
  · rw [if_neg hv, if_neg hv]
    rcases ab_dir h0 h3 with rfl | rfl | rfl | rfl <;> decide +kernel
/-- in which direction the way around goes on after g corners -/
def ab_wd3 (e a f z g : Int) : Int := if g < f then e else if g < f + z then a else ab_op e
theorem ab_wd3_b {e a f z g : Int} (he0 : 0 ≤ e) (he3 : e ≤ 3) (ha0 : 0 ≤ a) (ha3 : a ≤ 3) : 0 ≤ ab_wd3 e a f z g ∧ ab_wd3 e a f z g ≤ 3 := by
  have := ab_op_b he0 he3
  unfold ab_wd3
  (repeat' split) <;> omega
theorem ab_wstep {s0 se sd so sn f z g : Int} (hz : 1 ≤ z) (ho : so = - se) (hn : sn = if g < f then se else if g < f + z then sd else so) : ab_wy s0 se sd f z g + sn = ab_wy s0 se sd f z (g + 1) := by
  subst ho
  by_cases c1 : g < f
  · rw [if_pos c1] at hn
    rw [ab_wy_1 (by omega), ab_wy_1 (by omega), hn, Int.mul_add, Int.mul_one]
    omega
  rw [if_neg c1] at hn
  by_cases c2 : g < f + z
  · rw [if_pos c2] at hn
    by_cases c3 : g = f
    · rw [ab_wy_1 (by omega), ab_wy_2 (by omega) (by omega) (by omega), hn, c3, show f + 1 - f = 1 by omega, Int.mul_one]
    · rw [ab_wy_2 (by omega) (by omega) (by omega), ab_wy_2 (by omega) (by omega) (by omega), hn, show g + 1 - f = g - f + 1 by omega, Int.mul_add, Int.mul_one]
      omega
  rw [if_neg c2] at hn
  by_cases c3 : g = f + z
  · rw [ab_wy_2 (by omega) (by omega) (by omega), ab_wy_3 (by omega) (by omega), hn, c3, show f + z - f = z by omega, show f + z + 1 - f - z = 1 by omega, Int.mul_one]
    omega
  · rw [ab_wy_3 (by omega) (by omega), ab_wy_3 (by omega) (by omega), hn, show g + 1 - f - z = g - f - z + 1 by omega, Int.mul_add, Int.mul_one]
    omega
theorem ab_wd3_x {e a f z g : Int} : ab_sx (ab_wd3 e a f z g) = if g < f then ab_sx e else if g < f + z then ab_sx a else ab_sx (ab_op e) := by
  unfold ab_wd3
  (repeat' split) <;> rfl
theorem ab_wd3_y {e a f z g : Int} : ab_sy (ab_wd3 e a f z g) = if g < f then ab_sy e else if g < f + z then ab_sy a else ab_sy (ab_op e) := by
  unfold ab_wd3
  (repeat' split) <;> rfl
theorem ab_wy_b {s0 e a f z g : Int} (h0 : 0 ≤ s0) (h1 : s0 ≤ 12) (he0 : 0 ≤ e) (he3 : e ≤ 3) (ha0 : 0 ≤ a) (ha3 : a ≤ 3) (hf1 : 1 ≤ f) (hf9 : f ≤ 9) (hz1 : 1 ≤ z) (hz9 : z ≤ 9) (g0 : 0 ≤ g) (g1 : g ≤ 2 * f + z) : (-100 ≤ ab_wy s0 (ab_sx e) (ab_sx a) f z g ∧ ab_wy s0 (ab_sx e) (ab_sx a) f z g ≤ 100) ∧ -100 ≤ ab_wy s0 (ab_sy e) (ab_sy a) f z g ∧ ab_wy s0 (ab_sy e) (ab_sy a) f z g ≤ 100 := by
  unfold ab_wy
  rcases ab_dir he0 he3 with h | h | h | h <;> rcases ab_dir ha0 ha3 with q | q | q | q <;> rw [h, q] <;> simp [ab_sx, ab_sy] <;> (repeat' split) <;> omega
section
variable {σ σ' τ : q_S} {c : Nat} {P D : Nat → Int} {B : Int}
theorem ab_bendC_step (h : ab_CP σ c P) (hW : ab_WP P) (h1 : 1 ≤ P 1) {k : Nat} (hk : (k : Int) < P 4) {e f : Int} (he0 : 0 ≤ e) (he3 : e ≤ 3) (hf1 : 1 ≤ f) (hf9 : f ≤ 9) {g : Nat} (hg : (g : Int) < 2 * f + ab_ls P k - 1) {x y : Int} (hx0 : -500 ≤ x) (hx1 : x ≤ 500) (hy0 : -500 ≤ y) (hy1 : y ≤ 500) {fu : Nat} : f_X8_isBendingBarred_27 c (fu + 1) (ab_I k) (ab_I e) (ab_I f) (ab_I x) (ab_I y) (ab_I (f + ab_ls P k)) (ab_I g) σ = Option.bind (f_X8_isBarred σ (ab_I (x + ab_sx (ab_wd3 e (ab_ds P k) f (ab_ls P k) g))) (ab_I (y + ab_sy (ab_wd3 e (ab_ds P k) f (ab_ls P k) g))) (ab_I g) (ab_I (ab_b (ab_go P (x + ab_sx (ab_wd3 e (ab_ds P k) f (ab_ls P k) g)) (y + ab_sy (ab_wd3 e (ab_ds P k) f (ab_ls P k) g)) k)))) (fun q7 => if q7.1 = 0 then f_X8_isBendingBarred_27 c fu (ab_I k) (ab_I e) (ab_I f) (ab_I (x + ab_sx (ab_wd3 e (ab_ds P k) f (ab_ls P k) g))) (ab_I (y + ab_sy (ab_wd3 e (ab_ds P k) f (ab_ls P k) g))) (ab_I (f + ab_ls P k)) (ab_I ((g + 1 : Nat) : Int)) q7.2 else some (1, q7.2)) := by
  have w := hW.ch hk
  have w16 := hW.2.2.2.2.2.1
  have hb := ab_wd3_b (f := f) (z := ab_ls P k) (g := g) he0 he3 w.2.1 w.2.2.1
  have e1 : ab_I (f + ab_ls P k) + ab_I f - 1 = ab_I (f + ab_ls P k + f - 1) := by rw [ab_Iadd]; exact ab_Isub (b := 1)
  have h69 : ∀ s0 : Int32, s0 = ab_I (ab_wd3 e (ab_ds P k) f (ab_ls P k) g) → f_X8_isBendingBarred_69 c (f_X8_isBendingBarred_27 c fu) (ab_I k) (ab_I e) (ab_I f) (ab_I x) (ab_I y) (ab_I (f + ab_ls P k)) (ab_I g) s0 σ = Option.bind (f_X8_isBarred σ (ab_I (x + ab_sx (ab_wd3 e (ab_ds P k) f (ab_ls P k) g))) (ab_I (y + ab_sy (ab_wd3 e (ab_ds P k) f (ab_ls P k) g))) (ab_I g) (ab_I (ab_b (ab_go P (x + ab_sx (ab_wd3 e (ab_ds P k) f (ab_ls P k) g)) (y + ab_sy (ab_wd3 e (ab_ds P k) f (ab_ls P k) g)) k)))) (fun q7 => if q7.1 = 0 then f_X8_isBendingBarred_27 c fu (ab_I k) (ab_I e) (ab_I f) (ab_I (x + ab_sx (ab_wd3 e (ab_ds P k) f (ab_ls P k) g))) (ab_I (y + ab_sy (ab_wd3 e (ab_ds P k) f (ab_ls P k) g))) (ab_I (f + ab_ls P k)) (ab_I ((g + 1 : Nat) : Int)) q7.2 else some (1, q7.2)) := by
    intro s0 hs0
    have hbx : (-1 ≤ ab_sx (ab_wd3 e (ab_ds P k) f (ab_ls P k) g) ∧ ab_sx (ab_wd3 e (ab_ds P k) f (ab_ls P k) g) ≤ 1) ∧ (-1 ≤ ab_sy (ab_wd3 e (ab_ds P k) f (ab_ls P k) g) ∧ ab_sy (ab_wd3 e (ab_ds P k) f (ab_ls P k) g) ≤ 1) := by
      rcases ab_dir hb.1 hb.2 with h | h | h | h <;> rw [h] <;> decide
    unfold f_X8_isBendingBarred_69
    rw [hs0, ab_stepX hb.1 hb.2, ab_stepY hb.1 hb.2, ab_Iadd, ab_Iadd, ab_goesOver h hW h1 (by omega) (by omega) (by omega) (by omega) (by omega) (by omega), Option.bind_some, ab_I1]
  rw [f_X8_isBendingBarred_27, e1, if_neg (by rw [ab_Ile (by omega) (by omega) (by omega) (by omega)]; omega)]
  unfold ab_wd3 at h69 ⊢
  by_cases c1 : (g : Int) < f
  · rw [if_neg (by rw [ab_Ile (by omega) (by omega) (by omega) (by omega)]; omega)]
    exact h69 _ (by rw [if_pos c1])
  · rw [if_pos (by rw [ab_Ile (by omega) (by omega) (by omega) (by omega)]; omega)]
    by_cases c2 : (g : Int) < f + ab_ls P k
    · rw [if_neg (by rw [ab_Ile (by omega) (by omega) (by omega) (by omega)]; omega), (ab_dir_at h hW hk).1]
      exact h69 _ (by rw [if_neg c1, if_pos c2])
    · rw [if_pos (by rw [ab_Ile (by omega) (by omega) (by omega) (by omega)]; omega), ab_opC he0 he3]
      exact h69 _ (by rw [if_neg c1, if_neg c2])
theorem ab_bendR_step (hM : ab_MR τ 293 0 D) {s : Nat} (hs : s < 5) (hW : ab_WP (ab_sl D s)) {k : Nat} (hk : (k : Int) < ab_sl D s 4) {v e f : Int} (hv0 : -9 ≤ v) (hv9 : v ≤ 9) (hvf : ab_av v = f) (he0 : 0 ≤ e) (he3 : e ≤ 3) (hf1 : 1 ≤ f) (hf9 : f ≤ 9) {g : Nat} (hg : (g : Int) < 2 * f + ab_ls (ab_sl D s) k - 1) {x y : Int} {fu : Nat} : f_X10_isRefusedBend_107 (fu + 1) (ab_I s) (ab_I k) (ab_I v) (ab_I (ab_ds (ab_sl D s) k)) (ab_I e) (ab_I (2 * f + ab_ls (ab_sl D s) k)) (ab_I x) (ab_I y) (ab_I ((g + 1 : Nat) : Int)) τ = Option.bind (f_X10_isBarred τ (ab_I (x + ab_sx (ab_wd3 e (ab_ds (ab_sl D s) k) f (ab_ls (ab_sl D s) k) g))) (ab_I (y + ab_sy (ab_wd3 e (ab_ds (ab_sl D s) k) f (ab_ls (ab_sl D s) k) g))) 0) (fun q13 => if q13.1 = 0 then f_X10_isRefusedBend_107 fu (ab_I s) (ab_I k) (ab_I v) (ab_I (ab_ds (ab_sl D s) k)) (ab_I e) (ab_I (2 * f + ab_ls (ab_sl D s) k)) (ab_I (x + ab_sx (ab_wd3 e (ab_ds (ab_sl D s) k) f (ab_ls (ab_sl D s) k) g))) (ab_I (y + ab_sy (ab_wd3 e (ab_ds (ab_sl D s) k) f (ab_ls (ab_sl D s) k) g))) (ab_I ((g + 1 + 1 : Nat) : Int)) (q_up q13.2 292 17 (q13.2 292 17 + 1)) else some (1, q13.2)) := by
  have w := hW.ch hk
  have w16 := hW.2.2.2.2.2.1
  have hb := ab_wd3_b (f := f) (z := ab_ls (ab_sl D s) k) (g := g) he0 he3 w.2.1 w.2.2.1
  have h155 : ∀ s0 : Int32, s0 = ab_I (ab_wd3 e (ab_ds (ab_sl D s) k) f (ab_ls (ab_sl D s) k) g) → f_X10_isRefusedBend_155 (f_X10_isRefusedBend_107 fu) (ab_I s) (ab_I k) (ab_I v) (ab_I (ab_ds (ab_sl D s) k)) (ab_I e) (ab_I (2 * f + ab_ls (ab_sl D s) k)) (ab_I x) (ab_I y) (ab_I ((g + 1 : Nat) : Int)) s0 τ = Option.bind (f_X10_isBarred τ (ab_I (x + ab_sx (ab_wd3 e (ab_ds (ab_sl D s) k) f (ab_ls (ab_sl D s) k) g))) (ab_I (y + ab_sy (ab_wd3 e (ab_ds (ab_sl D s) k) f (ab_ls (ab_sl D s) k) g))) 0) (fun q13 => if q13.1 = 0 then f_X10_isRefusedBend_107 fu (ab_I s) (ab_I k) (ab_I v) (ab_I (ab_ds (ab_sl D s) k)) (ab_I e) (ab_I (2 * f + ab_ls (ab_sl D s) k)) (ab_I (x + ab_sx (ab_wd3 e (ab_ds (ab_sl D s) k) f (ab_ls (ab_sl D s) k) g))) (ab_I (y + ab_sy (ab_wd3 e (ab_ds (ab_sl D s) k) f (ab_ls (ab_sl D s) k) g))) (ab_I ((g + 1 + 1 : Nat) : Int)) (q_up q13.2 292 17 (q13.2 292 17 + 1)) else some (1, q13.2)) := by
    intro s0 hs0
    unfold f_X10_isRefusedBend_155
    rw [hs0, ab_rstepX hb.1 hb.2, ab_rstepY hb.1 hb.2, ab_Iadd, ab_Iadd, ab_I1]
  rw [f_X10_isRefusedBend_107, if_neg (by rw [ab_Ile (by omega) (by omega) (by omega) (by omega)]; omega), ab_Isize (by omega) (by omega), hvf, ab_len hM hs (by omega), Option.bind_some, ab_Iadd]
  unfold ab_wd3 at h155 ⊢
  by_cases c1 : (g : Int) < f
  · rw [if_neg (by rw [ab_Ilt (by omega) (by omega) (by omega) (by omega)]; omega)]
    exact h155 _ (by rw [if_pos c1])
  · rw [if_pos (by rw [ab_Ilt (by omega) (by omega) (by omega) (by omega)]; omega)]
    by_cases c2 : (g : Int) < f + ab_ls (ab_sl D s) k
    · rw [if_neg (by rw [ab_Ilt (by omega) (by omega) (by omega) (by omega)]; omega)]
      exact h155 _ (by rw [if_neg c1, if_pos c2])
    · rw [if_pos (by rw [ab_Ilt (by omega) (by omega) (by omega) (by omega)]; omega), ab_opR he0 he3]
      exact h155 _ (by rw [if_neg c1, if_neg c2])
/-- what the way around is, by its corners -/
def ab_wfree (P : Nat → Int) (k : Nat) (e f : Int) : Prop := ∀ g : Int, 1 ≤ g → g ≤ 2 * f + ab_ls P k - 1 → (0 ≤ ab_wy (ab_px (P 2) (ab_ds P) (ab_ls P) k) (ab_sx e) (ab_sx (ab_ds P k)) f (ab_ls P k) g ∧ ab_wy (ab_px (P 2) (ab_ds P) (ab_ls P) k) (ab_sx e) (ab_sx (ab_ds P k)) f (ab_ls P k) g ≤ 12 ∧ 0 ≤ ab_wy (ab_py (P 3) (ab_ds P) (ab_ls P) k) (ab_sy e) (ab_sy (ab_ds P k)) f (ab_ls P k) g ∧ ab_wy (ab_py (P 3) (ab_ds P) (ab_ls P) k) (ab_sy e) (ab_sy (ab_ds P k)) f (ab_ls P k) g ≤ 8) ∧
  ∀ (j : Nat) (b : Int), j < (P 4).toNat → j ≠ k → 0 ≤ b → b ≤ ab_ls P j → ab_cx (P 2) (ab_ds P) (ab_ls P) j b = ab_wy (ab_px (P 2) (ab_ds P) (ab_ls P) k) (ab_sx e) (ab_sx (ab_ds P k)) f (ab_ls P k) g → ab_cy (P 3) (ab_ds P) (ab_ls P) j b = ab_wy (ab_py (P 3) (ab_ds P) (ab_ls P) k) (ab_sy e) (ab_sy (ab_ds P k)) f (ab_ls P k) g → False
theorem ab_bending (hC : ab_CR σ 2 D) (hM : ab_MR σ' 293 0 D) (hW : ab_WD B D) (hB : B ≤ 1000000000) {s : Nat} (hs : (s : Int) < D 0) (h1 : ab_sl D s 1 = 2) {k : Nat} (hk : (k : Int) < ab_sl D s 4) (h14 : ab_sl D s 4 ≤ 14) {v f : Int} (hv0 : -9 ≤ v) (hv9 : v ≤ 9) (hvf : ab_av v = f) (hf1 : 1 ≤ f) (hf9 : f ≤ 9) :
    (∃ (w m : Int32) (υ : q_S), w ≠ 0 ∧ f_X8_isBendingBarred σ (2 + (10 + 3 * s)) (ab_I k) (ab_I (ab_sd (ab_ds (ab_sl D s) k) v)) (ab_I f) = some (1, (f_X7_refuse σ w m).2) ∧ f_X10_isRefusedBend σ' (ab_I s) (ab_I k) (ab_I v) = some (1, υ) ∧ ab_fR σ' υ ∧ υ 292 6 = w ∧ υ 292 7 = m) ∨
    (f_X8_isBendingBarred σ (2 + (10 + 3 * s)) (ab_I k) (ab_I (ab_sd (ab_ds (ab_sl D s) k) v)) (ab_I f) = some (0, σ) ∧ ∃ υ, f_X10_isRefusedBend σ' (ab_I s) (ab_I k) (ab_I v) = some (0, υ) ∧ ab_fR σ' υ ∧ ab_wfree (ab_sl D s) k (ab_sd (ab_ds (ab_sl D s) k) v) f) := by
  have w5 := hW.2.1
  have s5 : s < 5 := by omega
  have hWP := hW.2.2.2.2.2.2.2.2.1 s hs
  have hcp := (hC.2.2.2.2.1 s hs).2
  have hp := hWP.pos (by omega) (k := k) (by omega)
  have hch := hWP.ch hk
  have hsb := ab_sd_b (v := v) hch.2.1 hch.2.2.1
  have hWW : ab_W (ab_sl D s 2) (ab_sl D s 3) (ab_sl D s 4).toNat (ab_ds (ab_sl D s)) (ab_ls (ab_sl D s)) True := by
    have h := hWP.2.2.2.2.2.2.2 (by omega)
    rw [eq_true h1] at h
    exact h
  have hend := hWW.2.2.2.2 trivial
  obtain ⟨υ0, m1, m2, m3⟩ := ab_marks hM s5 hWP (by omega) (m := (k : Int)) (by omega) (by omega)
  have hM0 := m3.M hM
  have gt := ab_goesTo hM0 s5 hWP (m := k) (by omega)
  have gX := ab_startX hcp hWP (by omega) (m := k) (by omega)
  have gY := ab_startY hcp hWP (by omega) (m := k) (by omega)
  have gL := (ab_dir_at hcp hWP hk).2
  unfold ab_wfree
  generalize he : ab_sd (ab_ds (ab_sl D s) k) v = e at *
  generalize hpx : ab_px (ab_sl D s 2) (ab_ds (ab_sl D s)) (ab_ls (ab_sl D s)) k = px at *
  generalize hpy : ab_py (ab_sl D s 3) (ab_ds (ab_sl D s)) (ab_ls (ab_sl D s)) k = py at *
  generalize hρ : ab_g υ0 (ab_I px) (ab_I py) = ρ at *
  have hMρ : ∀ v : Int32, ab_MR (q_up ρ 292 17 v) 293 0 D := fun v k hk => by
    rw [ab_up_ne (by decide), ← hρ]
    exact hM0 k hk
  have hFρ : ∀ v : Int32, ab_fl (q_up ρ 292 17 v) (fun x y => (x = ab_sl D s 2 ∧ y = ab_sl D s 3) ∨ ab_Mk (ab_sl D s) k x y) := fun v => m2.same (by rw [ab_up_ne (by decide), ← hρ]; rfl)
  have hRρ : ab_fR σ' ρ := by
    rw [← hρ]
    exact (m3.trans ab_fk.g).R
  obtain ⟨N, hN⟩ : ∃ N : Nat, 2 * f + ab_ls (ab_sl D s) k - 1 = N := ⟨(2 * f + ab_ls (ab_sl D s) k - 1).toNat, by omega⟩
  have ho := ab_op_b hsb.1 hsb.2.1
  have ex : ∀ g : Nat, ab_wy px (ab_sx e) (ab_sx (ab_ds (ab_sl D s) k)) f (ab_ls (ab_sl D s) k) g + ab_sx (ab_wd3 e (ab_ds (ab_sl D s) k) f (ab_ls (ab_sl D s) k) g) = ab_wy px (ab_sx e) (ab_sx (ab_ds (ab_sl D s) k)) f (ab_ls (ab_sl D s) k) ((g + 1 : Nat) : Int) := fun g => by
    rw [ab_wd3_x, Int.natCast_add, Int.natCast_one]
    exact ab_wstep hch.2.2.2.1 ho.2.2.1 rfl
  have ey : ∀ g : Nat, ab_wy py (ab_sy e) (ab_sy (ab_ds (ab_sl D s) k)) f (ab_ls (ab_sl D s) k) g + ab_sy (ab_wd3 e (ab_ds (ab_sl D s) k) f (ab_ls (ab_sl D s) k) g) = ab_wy py (ab_sy e) (ab_sy (ab_ds (ab_sl D s) k)) f (ab_ls (ab_sl D s) k) ((g + 1 : Nat) : Int) := fun g => by
    rw [ab_wd3_y, Int.natCast_add, Int.natCast_one]
    exact ab_wstep hch.2.2.2.1 ho.2.2.2 rfl
  have bx : ∀ g : Nat, g ≤ N → -100 ≤ ab_wy px (ab_sx e) (ab_sx (ab_ds (ab_sl D s) k)) f (ab_ls (ab_sl D s) k) g ∧ ab_wy px (ab_sx e) (ab_sx (ab_ds (ab_sl D s) k)) f (ab_ls (ab_sl D s) k) g ≤ 100 := fun g hg => (ab_wy_b hp.1 hp.2.1 hsb.1 hsb.2.1 hch.2.1 hch.2.2.1 hf1 hf9 hch.2.2.2.1 hch.2.2.2.2 (by omega) (by omega)).1
  have by' : ∀ g : Nat, g ≤ N → -100 ≤ ab_wy py (ab_sy e) (ab_sy (ab_ds (ab_sl D s) k)) f (ab_ls (ab_sl D s) k) g ∧ ab_wy py (ab_sy e) (ab_sy (ab_ds (ab_sl D s) k)) f (ab_ls (ab_sl D s) k) g ≤ 100 := fun g hg => (ab_wy_b hp.2.2.1 (by omega) hsb.1 hsb.2.1 hch.2.1 hch.2.2.1 hf1 hf9 hch.2.2.2.1 hch.2.2.2.2 (by omega) (by omega)).2
  -- where the plot begins is a corner of another chain too
  have tkM : ∀ x y : Int, (ab_go (ab_sl D s) x y k = true ↔ ((x = ab_sl D s 2 ∧ y = ab_sl D s 3) ∨ ab_Mk (ab_sl D s) k x y) ∧ (0 : Int32) = 0) := by
    intro x y
    rw [ab_go_iff hWP]
    refine ⟨fun h => ⟨.inr h, rfl⟩, fun h => ?_⟩
    rcases h.1 with ⟨q1, q2⟩ | q
    · by_cases q : k = 0
      · obtain ⟨m, hm⟩ : ∃ m, (ab_sl D s 4).toNat = m + 1 := ⟨(ab_sl D s 4).toNat - 1, by omega⟩
        have := hWP.ch (k := m) (by omega)
        exact ⟨m, ab_ls (ab_sl D s) m, by omega, by omega, by omega, Int.le_refl _, by rw [ab_cx_e, ← hm, hend.2.1, q1], by rw [ab_cy_e, ← hm, hend.2.2, q2]⟩
      · have := hWP.ch (k := 0) (by omega)
        exact ⟨0, 0, by omega, by omega, by omega, by omega, by rw [ab_cx_0, q1]; rfl, by rw [ab_cy_0, q2]; rfl⟩
    · exact q
  have hwalk := ab_walk (D := D) (σ := σ) (ρ := ρ) (N := N) (x := fun g => ab_wy px (ab_sx e) (ab_sx (ab_ds (ab_sl D s) k)) f (ab_ls (ab_sl D s) k) ((g + 1 : Nat) : Int)) (y := fun g => ab_wy py (ab_sy e) (ab_sy (ab_ds (ab_sl D s) k)) f (ab_ls (ab_sl D s) k) ((g + 1 : Nat) : Int)) (tk := fun g => ab_go (ab_sl D s) (ab_wy px (ab_sx e) (ab_sx (ab_ds (ab_sl D s) k)) f (ab_ls (ab_sl D s) k) ((g + 1 : Nat) : Int)) (ab_wy py (ab_sy e) (ab_sy (ab_ds (ab_sl D s) k)) f (ab_ls (ab_sl D s) k) ((g + 1 : Nat) : Int)) k)
    (fc := fun fu g => f_X8_isBendingBarred_27 (2 + (10 + 3 * s)) fu (ab_I k) (ab_I e) (ab_I f) (ab_I (ab_wy px (ab_sx e) (ab_sx (ab_ds (ab_sl D s) k)) f (ab_ls (ab_sl D s) k) g)) (ab_I (ab_wy py (ab_sy e) (ab_sy (ab_ds (ab_sl D s) k)) f (ab_ls (ab_sl D s) k) g)) (ab_I (f + ab_ls (ab_sl D s) k)) (ab_I g) σ)
    (fr := fun fu g => f_X10_isRefusedBend_107 fu (ab_I s) (ab_I k) (ab_I v) (ab_I (ab_ds (ab_sl D s) k)) (ab_I e) (ab_I (2 * f + ab_ls (ab_sl D s) k)) (ab_I (ab_wy px (ab_sx e) (ab_sx (ab_ds (ab_sl D s) k)) f (ab_ls (ab_sl D s) k) g)) (ab_I (ab_wy py (ab_sy e) (ab_sy (ab_ds (ab_sl D s) k)) f (ab_ls (ab_sl D s) k) g)) (ab_I ((g + 1 : Nat) : Int)) (q_up ρ 292 17 (ab_I g)))
    (fun fu => by
      show f_X8_isBendingBarred_27 _ (fu + 1) _ _ _ _ _ _ _ σ = _
      rw [f_X8_isBendingBarred_27, ab_Iadd, show ab_I (f + ab_ls (ab_sl D s) k + f) - 1 = _ from ab_Isub (b := 1), if_pos (by rw [ab_Ile (by omega) (by omega) (by omega) (by omega)]; omega)])
    (fun fu g hg => by
      have b1 := bx g (by omega)
      have b2 := by' g (by omega)
      have b3 := bx (g + 1) (by omega)
      have b4 := by' (g + 1) (by omega)
      show f_X8_isBendingBarred_27 _ (fu + 1) _ _ _ _ _ _ _ σ = _
      rw [ab_bendC_step hcp hWP (by omega) hk hsb.1 hsb.2.1 hf1 hf9 (by omega) (by omega) (by omega) (by omega) (by omega), ex, ey, ab_barC hC hW hB (by omega) (by omega) (by omega) (by omega), Option.bind_some]
      split
      · rw [if_pos (show ((0 : Int32), σ).1 = 0 from rfl)]
      · rfl)
    (fun fu => by
      show f_X10_isRefusedBend_107 (fu + 1) _ _ _ _ _ _ _ _ _ _ = _
      rw [f_X10_isRefusedBend_107, if_pos (by rw [ab_Ile (by omega) (by omega) (by omega) (by omega)]; omega)])
    (fun fu g hg => by
      have b1 := bx g (by omega)
      have b2 := by' g (by omega)
      have b3 := bx (g + 1) (by omega)
      have b4 := by' (g + 1) (by omega)
      show f_X10_isRefusedBend_107 (fu + 1) _ _ _ _ _ _ _ _ _ _ = _
      rw [ab_bendR_step (hMρ _) s5 hWP hk hv0 hv9 hvf hsb.1 hsb.2.1 hf1 hf9 (by omega), ex, ey, ab_barR (hFρ _) (hMρ _) hW hB (by omega) (by omega) (by omega) (by omega) (ab_go (ab_sl D s) (ab_wy px (ab_sx e) (ab_sx (ab_ds (ab_sl D s) k)) f (ab_ls (ab_sl D s) k) ((g + 1 : Nat) : Int)) (ab_wy py (ab_sy e) (ab_sy (ab_ds (ab_sl D s) k)) f (ab_ls (ab_sl D s) k) ((g + 1 : Nat) : Int)) k) (g := g) ab_up_at (fun _ => tkM _ _), Option.bind_some]
      split
      · rw [if_pos (show ((0 : Int32), q_up ρ 292 17 (ab_I (g : Int))).1 = 0 from rfl)]
        dsimp only
        rw [ab_up_at, ab_up_up, ab_I1]
      · rfl) N 0 (by omega) q_fu q_fu (by unfold q_fu; omega) (by unfold q_fu; omega)
  have wy0 : ∀ a b c : Int, ab_wy a b c f (ab_ls (ab_sl D s) k) ((0 : Nat) : Int) = a := fun a b c => by
    rw [ab_wy_1 (by omega), show ((0 : Nat) : Int) = 0 from rfl, Int.mul_zero, Int.add_zero]
  have fc0 : f_X8_isBendingBarred σ (2 + (10 + 3 * s)) (ab_I k) (ab_I e) (ab_I f) = f_X8_isBendingBarred_27 (2 + (10 + 3 * s)) q_fu (ab_I k) (ab_I e) (ab_I f) (ab_I (ab_wy px (ab_sx e) (ab_sx (ab_ds (ab_sl D s) k)) f (ab_ls (ab_sl D s) k) ((0 : Nat) : Int))) (ab_I (ab_wy py (ab_sy e) (ab_sy (ab_ds (ab_sl D s) k)) f (ab_ls (ab_sl D s) k) ((0 : Nat) : Int))) (ab_I (f + ab_ls (ab_sl D s) k)) (ab_I ((0 : Nat) : Int)) σ := by
    unfold f_X8_isBendingBarred
    rw [gX, Option.bind_some, gY, Option.bind_some, gL, ab_Iadd, wy0, wy0]
    rfl
  have fr0 : f_X10_isRefusedBend σ' (ab_I s) (ab_I k) (ab_I v) = f_X10_isRefusedBend_107 q_fu (ab_I s) (ab_I k) (ab_I v) (ab_I (ab_ds (ab_sl D s) k)) (ab_I e) (ab_I (2 * f + ab_ls (ab_sl D s) k)) (ab_I (ab_wy px (ab_sx e) (ab_sx (ab_ds (ab_sl D s) k)) f (ab_ls (ab_sl D s) k) ((0 : Nat) : Int))) (ab_I (ab_wy py (ab_sy e) (ab_sy (ab_ds (ab_sl D s) k)) f (ab_ls (ab_sl D s) k) ((0 : Nat) : Int))) (ab_I ((0 + 1 : Nat) : Int)) (q_up ρ 292 17 (ab_I ((0 : Nat) : Int))) := by
    obtain ⟨_, v1, _, _, v4⟩ := ab_svn hM s5
    have hMz : ab_MR (q_up ρ 292 17 0) 293 0 D := hMρ 0
    have g14 : q_up ρ 292 17 0 292 14 = ab_I px := by rw [ab_up_nk (by decide), ← hρ]; rfl
    have g15 : q_up ρ 292 17 0 292 15 = ab_I py := by rw [ab_up_nk (by decide), ← hρ]; rfl
    unfold f_X10_isRefusedBend
    rw [v1, Option.bind_some, h1, if_pos (show ab_I 2 = 2 from rfl), v4, Option.bind_some, show ab_I (ab_sl D s 4) + 2 = _ from ab_Iadd (b := 2), if_pos (by rw [show (16 : Int32) = ab_I 16 from rfl, ab_Ile (by omega) (by omega) (by omega) (by omega)]; omega), m1, Option.bind_some, gt, Option.bind_some, ab_way hMz s5 (by omega), Option.bind_some, ab_len hMz s5 (by omega), Option.bind_some, ab_sdS hch.2.1 hch.2.2.1 (by omega) (by omega), he, ab_Isize (by omega) (by omega), hvf, show (2 : Int32) = ab_I 2 from rfl, ab_Imul, ab_Iadd, g14, g15, wy0, wy0]
    rfl
  rcases hwalk with ⟨w, m, g, hw, k1, k2⟩ | ⟨k1, k2, k3⟩
  · refine .inl ⟨ab_I w, ab_I m, _, ?_, fc0.trans k1, fr0.trans k2, hRρ.trans ab_badR, rfl, rfl⟩
    rcases hw with rfl | rfl | rfl <;> decide
  · refine .inr ⟨fc0.trans k1, _, fr0.trans k2, hRρ.trans (ab_fR.up (.inr (.inr (.inr (.inl (by decide))))) (by decide)), fun a ha haz => ?_⟩
    obtain ⟨g, hg⟩ : ∃ g : Nat, a = ((g + 1 : Nat) : Int) := ⟨(a - 1).toNat, by omega⟩
    have q := ab_br0 (k3 g (by omega) (by omega))
    rw [hg]
    refine ⟨⟨q.1.1, q.1.2, q.2.1.1, q.2.1.2⟩, fun j b hj hjk hb0 hb1 hx hy => ?_⟩
    have q := q.2.2
    have := (ab_go_iff hWP _ _ (k : Int)).mpr ⟨j, b, by omega, by omega, hb0, hb1, hx, hy⟩
    rw [this] at q
    exact absurd q (by decide)
end
