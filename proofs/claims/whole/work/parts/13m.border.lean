/-! borders -/
def ab_bt (D : Nat → Int) (p q x y : Int) : Int := if ab_oa D x y = p then ab_st D q x y else 0
section
variable {σ τ : q_S} {D : Nat → Int} {B : Int}
theorem ab_shift {P Q : Int → Int} {n : Nat} (hP : P (-1) = 0) (hQ : Q n = 0) : ab_S (fun x => P x * Q (x + 1)) n = ab_S (fun x => Q x * P (x - 1)) n := by
  have t := ab_S_tele (f := fun x : Nat => Q x * P (x - 1)) (n := n)
  rw [ab_S_sub (f := fun x : Nat => Q ((x + 1 : Nat) : Int) * P (((x + 1 : Nat) : Int) - 1)) (g := fun x : Nat => Q x * P (x - 1))] at t
  have e : ab_S (fun x : Nat => Q ((x + 1 : Nat) : Int) * P (((x + 1 : Nat) : Int) - 1)) n = ab_S (fun x : Nat => P x * Q (x + 1)) n := ab_S_congr (fun j _ => by
    rw [show (((j + 1 : Nat) : Int) - 1) = j by omega, show ((j + 1 : Nat) : Int) = (j : Int) + 1 by omega, Int.mul_comm])
  rw [e] at t
  have z1 : Q ((n : Nat) : Int) * P ((n : Nat) - 1) = 0 := by rw [hQ, Int.zero_mul]
  have z2 : Q ((0 : Nat) : Int) * P (((0 : Nat) : Int) - 1) = 0 := by rw [show (((0 : Nat) : Int) - 1) = -1 by omega, hP, Int.mul_zero]
  have t : ab_S (fun x : Nat => P x * Q (x + 1)) n - ab_S (fun x : Nat => Q x * P (x - 1)) n = Q ((n : Nat) : Int) * P ((n : Nat) - 1) - Q ((0 : Nat) : Int) * P (((0 : Nat) : Int) - 1) := t
  rw [z1, z2] at t
  omega
/-- the pairs of cells that lie side by side: east, south; and what p and q own of them -/
def ab_pe (D : Nat → Int) (p q : Int) : Int := ab_cells (fun x y => ab_is (ab_oa D x y) p * ab_is (ab_oa D (x + 1) y) q)
def ab_ps (D : Nat → Int) (p q : Int) : Int := ab_cells (fun x y => ab_is (ab_oa D x y) p * ab_is (ab_oa D x (y + 1)) q)
theorem ab_out {x y p : Int} (hp : 0 ≤ p) (h : ¬ ((0 ≤ x ∧ x ≤ 11) ∧ (0 ≤ y ∧ y ≤ 7))) : ab_is (ab_oa D x y) p = 0 := by
  unfold ab_oa ab_is
  rw [if_neg h, if_neg (by omega)]
theorem ab_pw {p q : Int} (hp : 0 ≤ p) (hq : 0 ≤ q) : ab_cells (fun x y => ab_is (ab_oa D x y) p * ab_is (ab_oa D (x - 1) y) q) = ab_pe D q p := by
  unfold ab_pe ab_cells
  refine ab_S_congr (fun y hy => ?_)
  exact (ab_shift (P := fun x => ab_is (ab_oa D x y) q) (Q := fun x => ab_is (ab_oa D x y) p) (n := 12) (ab_out hq (by omega)) (ab_out hp (by omega))).symm
theorem ab_pn {p q : Int} (hp : 0 ≤ p) (hq : 0 ≤ q) : ab_cells (fun x y => ab_is (ab_oa D x y) p * ab_is (ab_oa D x (y - 1)) q) = ab_ps D q p := by
  unfold ab_ps ab_cells
  rw [ab_S_swap, ab_S_swap (f := fun y x : Nat => ab_is (ab_oa D x y) q * ab_is (ab_oa D x (y + 1)) p)]
  refine ab_S_congr (fun x hx => ?_)
  exact (ab_shift (P := fun y => ab_is (ab_oa D x y) q) (Q := fun y => ab_is (ab_oa D x y) p) (n := 8) (ab_out hq (by omega)) (ab_out hp (by omega))).symm
theorem ab_bt_sum {p q : Int} (hp : 0 ≤ p) (hq : 0 ≤ q) : ab_cells (fun x y => ab_bt D p q x y) = (ab_ps D q p + ab_pe D p q) + (ab_ps D p q + ab_pe D q p) := by
  rw [← ab_pw hp hq, ← ab_pn hp hq]
  unfold ab_pe ab_ps ab_cells
  rw [← ab_S_add, ← ab_S_add, ← ab_S_add]
  refine ab_S_congr (fun y hy => ?_)
  rw [← ab_S_add, ← ab_S_add, ← ab_S_add]
  refine ab_S_congr (fun x hx => ?_)
  unfold ab_bt ab_st
  have e : ab_S (fun d => ab_is (ab_oa D ((x : Int) + ab_sx d) ((y : Int) + ab_sy d)) q) 4 = ab_is (ab_oa D x ((y : Int) - 1)) q + ab_is (ab_oa D ((x : Int) + 1) y) q + (ab_is (ab_oa D x ((y : Int) + 1)) q + ab_is (ab_oa D ((x : Int) - 1) y) q) := by
    have e0 : ab_S (fun d => ab_is (ab_oa D ((x : Int) + ab_sx d) ((y : Int) + ab_sy d)) q) 4 = (((0 + ab_is (ab_oa D ((x : Int) + 0) ((y : Int) + -1)) q) + ab_is (ab_oa D ((x : Int) + 1) ((y : Int) + 0)) q) + ab_is (ab_oa D ((x : Int) + 0) ((y : Int) + 1)) q) + ab_is (ab_oa D ((x : Int) + -1) ((y : Int) + 0)) q := rfl
    rw [e0, Int.add_zero, Int.add_zero, ← Int.sub_eq_add_neg, ← Int.sub_eq_add_neg]
    omega
  show (if ab_oa D x y = p then ab_S (fun d => ab_is (ab_oa D ((x : Int) + ab_sx d) ((y : Int) + ab_sy d)) q) 4 else 0) = (ab_is (ab_oa D x y) p * ab_is (ab_oa D x ((y : Int) - 1)) q + ab_is (ab_oa D x y) p * ab_is (ab_oa D ((x : Int) + 1) y) q) + (ab_is (ab_oa D x y) p * ab_is (ab_oa D x ((y : Int) + 1)) q + ab_is (ab_oa D x y) p * ab_is (ab_oa D ((x : Int) - 1) y) q)
  rw [e]
  by_cases h : ab_oa D x y = p
  · rw [if_pos h, show ab_is (ab_oa D x y) p = 1 by unfold ab_is; rw [if_pos h]]
    simp only [Int.one_mul]
  · rw [if_neg h, show ab_is (ab_oa D x y) p = 0 by unfold ab_is; rw [if_neg h]]
    simp only [Int.zero_mul]
    rfl
theorem ab_bt_sym {p q : Int} (hp : 0 ≤ p) (hq : 0 ≤ q) : ab_cells (fun x y => ab_bt D p q x y) = ab_cells (fun x y => ab_bt D q p x y) := by
  rw [ab_bt_sum hp hq, ab_bt_sum hq hp]
  omega
theorem ab_aroX_lp (hW : ab_WD B D) (h : ∀ y x : Nat, x < 12 → y < 8 → τ 281 (12 * y + x) = ab_I (ab_ow D x y 0)) {p q : Int} (hp0 : -1000 ≤ p) (hp1 : p ≤ 1000) (hq0 : -1000 ≤ q) (hq1 : q ≤ 1000) {k4 : Int32 → Int32 → Int32 → Int32 → Option Int32} {y : Nat} (hy : y < 8) {v : Int} : ∀ r k : Nat, k + r = 12 → ∀ f, r < f → f_X0_borderAround_22 τ k4 f (ab_I p) (ab_I q) (ab_I (v + ab_S (fun x => ab_bt D q p x y) k)) (ab_I y) (ab_I k) = k4 (ab_I p) (ab_I q) (ab_I (v + ab_S (fun x => ab_bt D q p x y) 12)) (ab_I ((y + 1 : Nat) : Int)) := by
  intro r
  induction r with
  | zero =>
    intro k hk f hf
    obtain ⟨f, rfl⟩ : ∃ g, f = g + 1 := ⟨f - 1, by omega⟩
    have : k = 12 := by omega
    subst this
    rw [f_X0_borderAround_22, if_pos (show (12 : Int32) ≤ ab_I ((12 : Nat) : Int) by decide), ab_I1]
  | succ r ih =>
    intro k hk f hf
    obtain ⟨f, rfl⟩ : ∃ g, f = g + 1 := ⟨f - 1, by omega⟩
    have hI := ih (k + 1) (by omega) f (by omega)
    have hsum : ab_S (fun x => ab_bt D q p x y) (k + 1) = ab_S (fun x => ab_bt D q p x y) k + ab_bt D q p k y := rfl
    rw [hsum, ← Int.add_assoc] at hI
    rw [f_X0_borderAround_22, if_neg (by rw [show (12 : Int32) = ab_I 12 from rfl, ab_Ile (by omega) (by omega) (by omega) (by omega)]; omega), ab_ownerC h (by omega) (by omega) (by omega) (by omega), ab_sides hW h hp0 hp1 (by omega) (by omega) (by omega) (by omega), Option.bind_some, ab_I1]
    by_cases z : ab_oa D k y = q
    · rw [show ab_bt D q p k y = ab_st D p k y by unfold ab_bt; rw [if_pos z]] at hI
      rw [if_pos ((ab_oIeq hW hq0 hq1).mpr z), ab_Iadd]
      exact hI
    · rw [show ab_bt D q p k y = 0 by unfold ab_bt; rw [if_neg z], Int.add_zero] at hI
      rw [if_neg (fun w => z ((ab_oIeq hW hq0 hq1).mp w))]
      exact hI
theorem ab_aroY_lp (hW : ab_WD B D) (h : ∀ y x : Nat, x < 12 → y < 8 → τ 281 (12 * y + x) = ab_I (ab_ow D x y 0)) {p q : Int} (hp0 : -1000 ≤ p) (hp1 : p ≤ 1000) (hq0 : -1000 ≤ q) (hq1 : q ≤ 1000) : ∀ r k : Nat, k + r = 8 → ∀ f, r < f → f_X0_borderAround_12 τ f (ab_I p) (ab_I q) (ab_I (ab_S (fun y => ab_S (fun x => ab_bt D q p x y) 12) k)) (ab_I k) = some (ab_I (ab_cells (fun x y => ab_bt D q p x y))) := by
  intro r
  induction r with
  | zero =>
    intro k hk f hf
    obtain ⟨f, rfl⟩ : ∃ g, f = g + 1 := ⟨f - 1, by omega⟩
    have : k = 8 := by omega
    subst this
    rw [f_X0_borderAround_12, if_pos (show (8 : Int32) ≤ ab_I ((8 : Nat) : Int) by decide)]
    rfl
  | succ r ih =>
    intro k hk f hf
    obtain ⟨f, rfl⟩ : ∃ g, f = g + 1 := ⟨f - 1, by omega⟩
    rw [f_X0_borderAround_12, if_neg (by rw [show (8 : Int32) = ab_I 8 from rfl, ab_Ile (by omega) (by omega) (by omega) (by omega)]; omega)]
    have hx := ab_aroX_lp hW h hp0 hp1 hq0 hq1 (k4 := f_X0_borderAround_12 τ f) (y := k) (by omega) (v := ab_S (fun y => ab_S (fun x => ab_bt D q p x y) 12) k) 12 0 (by decide) q_fu (by unfold q_fu; omega)
    rw [show ab_S (fun x => ab_bt D q p x k) 0 = 0 from rfl, Int.add_zero] at hx
    exact hx.trans (ih (k + 1) (by omega) f (by omega))
theorem ab_borD_lp (hM : ab_MR σ 293 0 D) (hW : ab_WD B D) {p s : Int} (hs0 : -1000 ≤ s) (hs1 : s ≤ 1000) {k30 : Int32 → Int32 → Int32 → Int32 → q_S → Option (Int32 × q_S)} {j : Nat} (hj : j < 96) {v : Int} : ∀ r k : Nat, k + r = 4 → ∀ f, r < f → f_X10_borderOf_75 k30 f (ab_I p) (ab_I s) (ab_I (v + ab_S (fun d => ab_is (ab_oa D (((j % 12 : Nat) : Int) + ab_sx d) (((j / 12 : Nat) : Int) + ab_sy d)) s) k)) (ab_I j) (ab_I k) σ = k30 (ab_I p) (ab_I s) (ab_I (v + ab_st D s ((j % 12 : Nat) : Int) ((j / 12 : Nat) : Int))) (ab_I ((j + 1 : Nat) : Int)) σ := by
  intro r
  induction r with
  | zero =>
    intro k hk f hf
    obtain ⟨f, rfl⟩ : ∃ g, f = g + 1 := ⟨f - 1, by omega⟩
    have : k = 4 := by omega
    subst this
    rw [f_X10_borderOf_75, if_pos (show (4 : Int32) ≤ ab_I ((4 : Nat) : Int) by decide), ab_I1]
    rfl
  | succ r ih =>
    intro k hk f hf
    obtain ⟨f, rfl⟩ : ∃ g, f = g + 1 := ⟨f - 1, by omega⟩
    have hI := ih (k + 1) (by omega) f (by omega)
    have hs : ab_S (fun d => ab_is (ab_oa D (((j % 12 : Nat) : Int) + ab_sx d) (((j / 12 : Nat) : Int) + ab_sy d)) s) (k + 1) = ab_S (fun d => ab_is (ab_oa D (((j % 12 : Nat) : Int) + ab_sx d) (((j / 12 : Nat) : Int) + ab_sy d)) s) k + ab_is (ab_oa D (((j % 12 : Nat) : Int) + ab_sx k) (((j / 12 : Nat) : Int) + ab_sy k)) s := rfl
    rw [hs, ← Int.add_assoc] at hI
    have b := ab_sxy k
    have e1 : ab_I j - ab_I j / 12 * 12 = ab_I ((j % 12 : Nat) : Int) := (ab_Imod (a := j) (b := 12) (by omega) (by omega) (by omega) (by omega)).trans (congrArg ab_I (by omega))
    have e2 : ab_I j / 12 = ab_I ((j / 12 : Nat) : Int) := (ab_Itdiv (a := j) (b := 12) (by omega) (by omega) (by omega) (by omega)).trans (congrArg ab_I (by omega))
    rw [f_X10_borderOf_75, if_neg (by rw [show (4 : Int32) = ab_I 4 from rfl, ab_Ile (by omega) (by omega) (by omega) (by omega)]; omega), e1, e2, ab_rstepX (by omega) (by omega), ab_rstepY (by omega) (by omega), ab_Iadd, ab_Iadd, ab_ownerR hM hW (by omega) (by omega) (by omega) (by omega), Option.bind_some, ab_I1]
    by_cases q : ab_oa D (((j % 12 : Nat) : Int) + ab_sx k) (((j / 12 : Nat) : Int) + ab_sy k) = s
    · rw [show ab_is (ab_oa D (((j % 12 : Nat) : Int) + ab_sx k) (((j / 12 : Nat) : Int) + ab_sy k)) s = 1 by unfold ab_is; rw [if_pos q]] at hI
      rw [if_pos ((ab_oIeq hW hs0 hs1).mpr q), show (1 : Int32) = ab_I 1 from rfl, ab_Iadd]
      exact hI
    · rw [show ab_is (ab_oa D (((j % 12 : Nat) : Int) + ab_sx k) (((j / 12 : Nat) : Int) + ab_sy k)) s = 0 by unfold ab_is; rw [if_neg q]] at hI
      rw [if_neg (fun z => q ((ab_oIeq hW hs0 hs1).mp z)), show (0 : Int32) = ab_I 0 from rfl, ab_Iadd]
      exact hI
theorem ab_borK_lp (hM : ab_MR σ 293 0 D) (hW : ab_WD B D) {p s : Int} (hp0 : -1000 ≤ p) (hp1 : p ≤ 1000) (hs0 : -1000 ≤ s) (hs1 : s ≤ 1000) : ∀ r k : Nat, k + r = 96 → ∀ f, r < f → f_X10_borderOf_44 f (ab_I p) (ab_I s) (ab_I (ab_S (fun k => ab_bt D p s ((k % 12 : Nat) : Int) ((k / 12 : Nat) : Int)) k)) (ab_I k) σ = some (ab_I (ab_cells (fun x y => ab_bt D p s x y)), σ) := by
  intro r
  induction r with
  | zero =>
    intro k hk f hf
    obtain ⟨f, rfl⟩ : ∃ g, f = g + 1 := ⟨f - 1, by omega⟩
    have : k = 96 := by omega
    subst this
    rw [f_X10_borderOf_44, if_pos (show (96 : Int32) ≤ ab_I ((96 : Nat) : Int) by decide)]
    have g := ab_grid (f := fun x y => ab_bt D p s x y) (n := 12) (by decide) 8
    rw [show ab_S (fun k => ab_bt D p s ((k % 12 : Nat) : Int) ((k / 12 : Nat) : Int)) 96 = _ from g]
    rfl
  | succ r ih =>
    intro k hk f hf
    obtain ⟨f, rfl⟩ : ∃ g, f = g + 1 := ⟨f - 1, by omega⟩
    have hI := ih (k + 1) (by omega) f (by omega)
    have hsum : ab_S (fun k => ab_bt D p s ((k % 12 : Nat) : Int) ((k / 12 : Nat) : Int)) (k + 1) = ab_S (fun k => ab_bt D p s ((k % 12 : Nat) : Int) ((k / 12 : Nat) : Int)) k + ab_bt D p s ((k % 12 : Nat) : Int) ((k / 12 : Nat) : Int) := rfl
    rw [hsum] at hI
    have e1 : ab_I k - ab_I k / 12 * 12 = ab_I ((k % 12 : Nat) : Int) := (ab_Imod (a := k) (b := 12) (by omega) (by omega) (by omega) (by omega)).trans (congrArg ab_I (by omega))
    have e2 : ab_I k / 12 = ab_I ((k / 12 : Nat) : Int) := (ab_Itdiv (a := k) (b := 12) (by omega) (by omega) (by omega) (by omega)).trans (congrArg ab_I (by omega))
    rw [f_X10_borderOf_44, if_neg (by rw [show (96 : Int32) = ab_I 96 from rfl, ab_Ile (by omega) (by omega) (by omega) (by omega)]; omega), e1, e2, ab_ownerR hM hW (by omega) (by omega) (by omega) (by omega), Option.bind_some]
    by_cases q : ab_oa D ((k % 12 : Nat) : Int) ((k / 12 : Nat) : Int) = p
    · rw [show ab_bt D p s ((k % 12 : Nat) : Int) ((k / 12 : Nat) : Int) = ab_st D s ((k % 12 : Nat) : Int) ((k / 12 : Nat) : Int) by unfold ab_bt; rw [if_pos q]] at hI
      rw [if_pos ((ab_oIeq hW hp0 hp1).mpr q)]
      have hd := ab_borD_lp hM hW (p := p) hs0 hs1 (k30 := f_X10_borderOf_44 f) (j := k) (by omega) (v := ab_S (fun k => ab_bt D p s ((k % 12 : Nat) : Int) ((k / 12 : Nat) : Int)) k) 4 0 (by decide) q_fu (by unfold q_fu; omega)
      rw [show ∀ g : Nat → Int, ab_S g 0 = 0 from fun g => rfl, Int.add_zero] at hd
      exact hd.trans hI
    · rw [show ab_bt D p s ((k % 12 : Nat) : Int) ((k / 12 : Nat) : Int) = 0 by unfold ab_bt; rw [if_neg q], Int.add_zero] at hI
      rw [if_neg (fun z => q ((ab_oIeq hW hp0 hp1).mp z)), ab_I1]
      exact hI
/-- what the second program answers -/
theorem ab_borderOf (hM : ab_MR σ 293 0 D) (hW : ab_WD B D) {p s : Nat} (hp : (p : Int) < D 0) (hs : (s : Int) < D 0) (h1 : f_X10_isSleeper σ (ab_I p) = some 1) (h2 : f_X10_isSleeper σ (ab_I s) = some 1) : f_X10_borderOf σ (ab_I p) (ab_I s) = some (ab_I (if p = s then 0 else ab_cells (fun x y => ab_bt D p s x y)), q_up σ 292 4 0) := by
  have w5 := hW.2.1
  have hM' : ab_MR (q_up σ 292 4 0) 293 0 D := hM
  unfold f_X10_borderOf
  rw [h1, Option.bind_some, if_neg (show ¬ ((1 : Int32) = 0) by decide), h2, Option.bind_some, if_neg (show ¬ ((1 : Int32) = 0) by decide)]
  unfold f_X10_borderOf_22
  rw [ab_up_at, if_neg (show ¬ ((0 : Int32) < 0) by decide)]
  by_cases q : p = s
  · rw [if_pos (by rw [q]), if_pos q]
    rfl
  · rw [if_neg (by rw [ab_Ieq (by omega) (by omega) (by omega) (by omega)]; omega), if_neg q]
    exact ab_borK_lp hM' hW (p := p) (s := s) (by omega) (by omega) (by omega) (by omega) 96 0 (by decide) q_fu (by unfold q_fu; omega)
end
theorem ab_borderAsk {t : Nat} {σ : q_S} (hI : ab_Inv t σ) (a b : Int32) : ((f_X2_hasSleeper σ 2 a = 0 ∨ (f_X2_hasSleeper σ 2 a = 1 ∧ f_X2_hasSleeper σ 2 b = 0)) ∧ f_X10_borderOf σ a b = some (0, q_up σ 292 4 1)) ∨ (f_X2_hasSleeper σ 2 a = 1 ∧ f_X2_hasSleeper σ 2 b = 1 ∧ ∃ (D : Nat → Int) (B : Int) (p s : Nat) (τ : q_S), ab_WD B D ∧ p < 5 ∧ s < 5 ∧ a = ab_I p ∧ b = ab_I s ∧ f_X0_survey σ 2 0 = some τ ∧ (∀ y x : Nat, x < 12 → y < 8 → τ 281 (12 * y + x) = ab_I (ab_ow D x y 0)) ∧ ab_eq σ τ ∧ f_X10_borderOf τ a b = some (ab_I (if p = s then 0 else ab_cells (fun x y => ab_bt D p s x y)), q_up τ 292 4 0)) := by
  obtain ⟨D, ⟨hC, hM, hW⟩, hO⟩ := hI
  have hM0 : σ 293 0 = ab_I (D 0) := hM 0 (by decide)
  have w5 := hW.2.1
  have bad : ∀ σ : q_S, f_X10_borderOf_21 a b σ = some (0, q_up σ 292 4 1) := fun σ => by
    unfold f_X10_borderOf_21 f_X10_borderOf_22
    rw [ab_up_at, if_pos (show (0 : Int32) < 1 by decide)]
  rcases ab_hasS (a := a) hC.1 hM0 hW.1 hW.2.1 with ⟨h1, h2⟩ | ⟨h1, h2, p, hp, rfl⟩
  · left
    refine ⟨.inl h1, ?_⟩
    unfold f_X10_borderOf
    rw [h2, Option.bind_some, if_pos rfl, bad]
  · rcases ab_hasS (a := b) hC.1 hM0 hW.1 hW.2.1 with ⟨g1, g2⟩ | ⟨g1, g2, s, hs, rfl⟩
    · left
      refine ⟨.inr ⟨h1, g1⟩, ?_⟩
      unfold f_X10_borderOf
      rw [h2, Option.bind_some, if_neg (show ¬ ((1 : Int32) = 0) by decide), g2, Option.bind_some, if_pos rfl, bad]
    · right
      obtain ⟨τ, t1, t2, t3, t4⟩ := ab_survey hC hW (h := 0) (by decide) (by decide)
      have hMτ : ab_MR τ 293 0 D := fun k hk => by rw [t4 293 (by decide) (by decide)]; exact hM k hk
      have is : ∀ z : Int32, f_X10_isSleeper τ z = f_X10_isSleeper σ z := fun z => by
        unfold f_X10_isSleeper
        rw [t4 293 (by decide) (by decide)]
      exact ⟨h1, g1, D, 200 * t, p, s, τ, hW, by omega, by omega, rfl, rfl, t1, t2, ab_svq t4, ab_borderOf hMτ hW hp hs (by rw [is]; exact h2) (by rw [is]; exact g2)⟩
theorem ab_ok_16 {t : Nat} {σ : q_S} (hI : ab_Inv t σ) (_ht : t < 512) (a b c : Int32) : w_ok_16 σ a b c (ab_Inv (t + 1)) := by
  unfold w_ok_16
  rcases ab_borderAsk hI a b with ⟨h1, h2⟩ | ⟨h1, h2, D, B, p, s, τ, hW, hp, hs, rfl, rfl, t1, t2, t3, t4⟩
  · refine ⟨1, 0, 0, σ, q_up σ 292 4 1, ?_, .inr rfl, ?_, rfl, fun z => absurd z (by decide), ab_sI hI 1⟩
    · unfold f_X9_borderAgain
      rcases h1 with h1 | ⟨h1, h3⟩
      · rw [h1, if_pos rfl]
      · rw [h1, if_neg (show ¬ ((1 : Int32) = 0) by decide), h3, if_pos rfl]
    · unfold f_X10_borderAgain
      rw [h2, Option.bind_some]
  · refine ⟨0, ab_I (if p = s then 0 else ab_cells (fun x y => ab_bt D p s x y)), ab_I (if p = s then 0 else ab_cells (fun x y => ab_bt D p s x y)), τ, q_up τ 292 4 0, ?_, .inl rfl, ?_, rfl, fun _ => rfl, hI.same (t3.trans (ab_eq.up (.inr ⟨rfl, .inl rfl⟩)))⟩
    · unfold f_X9_borderAgain f_X0_borderAround
      rw [h1, if_neg (show ¬ ((1 : Int32) = 0) by decide), h2, if_neg (show ¬ ((1 : Int32) = 0) by decide), t1, Option.bind_some]
      by_cases q : p = s
      · rw [if_pos (by rw [q]), if_pos q, Option.bind_some]
        rfl
      · rw [if_neg (by rw [ab_Ieq (by omega) (by omega) (by omega) (by omega)]; omega), if_neg q, ab_bt_sym (by omega) (by omega), show f_X0_borderAround_12 τ q_fu (ab_I p) (ab_I s) 0 0 = _ from ab_aroY_lp hW t2 (p := p) (q := s) (by omega) (by omega) (by omega) (by omega) 8 0 (by decide) q_fu (by unfold q_fu; omega), Option.bind_some]
    · unfold f_X10_borderAgain
      rw [t4, Option.bind_some]
