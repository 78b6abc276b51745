/-! the class finds itself well -/
section
variable {σ τ : q_S} {D : Nat → Int} {B : Int}
theorem ab_own_good {x y : Int} : ∀ r k : Nat, ∀ b m : Int, 0 ≤ m → (b = -1 ∨ ∃ s : Nat, b = s ∧ 0 < D (30 + 37 * s) ∧ ab_inP (ab_sl D s) x y = 1) → (ab_own D x y 0 r k b m = -1 ∨ ∃ s : Nat, ab_own D x y 0 r k b m = s ∧ 0 < D (30 + 37 * s) ∧ ab_inP (ab_sl D s) x y = 1) := by
  intro r
  induction r with
  | zero => exact fun k b m _ hb => hb
  | succ r ih =>
    intro k b m hm hb
    rw [ab_own]
    by_cases q : m < D (30 + 37 * k) - 0 ∧ ab_inP (ab_sl D k) x y = 1
    · rw [if_pos q]
      exact ih (k + 1) k _ (by omega) (.inr ⟨k, rfl, by omega, q.2⟩)
    · rw [if_neg q]
      exact ih (k + 1) b m hm hb
theorem ab_areas_lp (hC : ab_CR τ 2 D) (hW : ab_WD B D) : ∀ r k : Nat, ((k + r : Nat) : Int) = D 0 → ∀ f, r < f → f_X9_areAreasAlike_2 τ f (ab_I k) = some 1 := by
  have w5 := hW.2.1
  intro r
  induction r with
  | zero =>
    intro k hk f hf
    obtain ⟨f, rfl⟩ : ∃ g, f = g + 1 := ⟨f - 1, by omega⟩
    rw [f_X9_areAreasAlike_2, hC.1, if_pos (by rw [ab_Ile (by omega) (by omega) (by omega) (by omega)]; omega)]
  | succ r ih =>
    intro k hk f hf
    obtain ⟨f, rfl⟩ : ∃ g, f = g + 1 := ⟨f - 1, by omega⟩
    have w := hW.2.2.2.2.2.2.2.2.1 k (by omega)
    have hp := (hC.2.2.2.2.1 k (by omega)).2
    rw [f_X9_areAreasAlike_2, hC.1, if_neg (by rw [ab_Ile (by omega) (by omega) (by omega) (by omega)]; omega), ab_plotOf (by omega), ab_areaByChains hp w, ab_areaByCells hp w, ab_ar_ca w, Option.bind_some, Option.bind_some, if_pos rfl, ab_I1]
    exact ih (k + 1) (by omega) f (by omega)
theorem ab_borders_lp2 (hC : ab_CR τ 2 D) (hW : ab_WD B D) (h : ∀ y x : Nat, x < 12 → y < 8 → τ 281 (12 * y + x) = ab_I (ab_ow D x y 0)) {k2 : Int32 → Option Int32} {p : Nat} (hp : p < 5) : ∀ r k : Nat, ((k + r : Nat) : Int) = D 0 → ∀ f, r < f → f_X9_areBordersAlike_15 τ k2 f (ab_I p) (ab_I k) = k2 (ab_I ((p + 1 : Nat) : Int)) := by
  have w5 := hW.2.1
  intro r
  induction r with
  | zero =>
    intro k hk f hf
    obtain ⟨f, rfl⟩ : ∃ g, f = g + 1 := ⟨f - 1, by omega⟩
    rw [f_X9_areBordersAlike_15, hC.1, if_pos (by rw [ab_Ile (by omega) (by omega) (by omega) (by omega)]; omega), ab_I1]
  | succ r ih =>
    intro k hk f hf
    obtain ⟨f, rfl⟩ : ∃ g, f = g + 1 := ⟨f - 1, by omega⟩
    have e : f_X0_borderAround τ (ab_I p) (ab_I k) = some (ab_I (if p = k then 0 else ab_cells (fun x y => ab_bt D p k x y))) := by
      unfold f_X0_borderAround
      by_cases q : p = k
      · rw [if_pos (by rw [q]), if_pos q]
        rfl
      · rw [if_neg (by rw [ab_Ieq (by omega) (by omega) (by omega) (by omega)]; omega), if_neg q, ab_bt_sym (by omega) (by omega)]
        exact ab_aroY_lp hW h (p := p) (q := k) (by omega) (by omega) (by omega) (by omega) 8 0 (by decide) q_fu (by unfold q_fu; omega)
    rw [f_X9_areBordersAlike_15, hC.1, if_neg (by rw [ab_Ile (by omega) (by omega) (by omega) (by omega)]; omega), ab_byCells hW h hp (by omega), Option.bind_some, e, Option.bind_some, if_pos rfl, ab_I1]
    exact ih (k + 1) (by omega) f (by omega)
theorem ab_borders_lp (hC : ab_CR τ 2 D) (hW : ab_WD B D) (h : ∀ y x : Nat, x < 12 → y < 8 → τ 281 (12 * y + x) = ab_I (ab_ow D x y 0)) : ∀ r k : Nat, ((k + r : Nat) : Int) = D 0 → ∀ f, r < f → f_X9_areBordersAlike_2 τ f (ab_I k) = some 1 := by
  have w5 := hW.2.1
  intro r
  induction r with
  | zero =>
    intro k hk f hf
    obtain ⟨f, rfl⟩ : ∃ g, f = g + 1 := ⟨f - 1, by omega⟩
    rw [f_X9_areBordersAlike_2, hC.1, if_pos (by rw [ab_Ile (by omega) (by omega) (by omega) (by omega)]; omega)]
  | succ r ih =>
    intro k hk f hf
    obtain ⟨f, rfl⟩ : ∃ g, f = g + 1 := ⟨f - 1, by omega⟩
    rw [f_X9_areBordersAlike_2, hC.1, if_neg (by rw [ab_Ile (by omega) (by omega) (by omega) (by omega)]; omega)]
    have hx := ab_borders_lp2 hC hW h (k2 := f_X9_areBordersAlike_2 τ f) (p := k) (by omega) (D 0).toNat 0 (by omega) q_fu (by unfold q_fu; omega)
    exact hx.trans (ih (k + 1) (by omega) f (by omega))
theorem ab_owners_lp2 (hC : ab_CR τ 2 D) (hW : ab_WD B D) (h : ∀ y x : Nat, x < 12 → y < 8 → τ 281 (12 * y + x) = ab_I (ab_ow D x y 0)) {k2 : Int32 → Option Int32} {y : Nat} (hy : y < 8) : ∀ r k : Nat, k + r = 12 → ∀ f, r < f → f_X9_areOwnersRight_10 τ k2 f (ab_I y) (ab_I k) = k2 (ab_I ((y + 1 : Nat) : Int)) := by
  have w0 := hW.1
  have w5 := hW.2.1
  intro r
  induction r with
  | zero =>
    intro k hk f hf
    obtain ⟨f, rfl⟩ : ∃ g, f = g + 1 := ⟨f - 1, by omega⟩
    have : k = 12 := by omega
    subst this
    rw [f_X9_areOwnersRight_10, if_pos (show (12 : Int32) ≤ ab_I ((12 : Nat) : Int) by decide), ab_I1]
  | succ r ih =>
    intro k hk f hf
    obtain ⟨f, rfl⟩ : ∃ g, f = g + 1 := ⟨f - 1, by omega⟩
    have hI := ih (k + 1) (by omega) f (by omega)
    have eo : ab_oa D k y = ab_ow D k y 0 := by unfold ab_oa; rw [if_pos (by omega)]
    rw [f_X9_areOwnersRight_10, if_neg (by rw [show (12 : Int32) = ab_I 12 from rfl, ab_Ile (by omega) (by omega) (by omega) (by omega)]; omega), ab_ownerC h (by omega) (by omega) (by omega) (by omega), eo]
    rcases ab_own_good (D := D) (x := k) (y := y) (D 0).toNat 0 (-1) 0 (by omega) (.inl rfl) with q | ⟨s, q, q1, q2⟩
    · rw [show ab_ow D k y 0 = -1 from q, if_pos (show ab_I (-1) = -1 from rfl), ab_I1]
      exact hI
    · have q : ab_ow D k y 0 = s := q
      have hs : (s : Int) < D 0 := by
        rcases ab_ow_b hW k y 0 with z | ⟨z, z1, z2, z3⟩ <;> omega
      have w := hW.2.2.2.2.2.2.2.2.1 s hs
      have d9 : D (30 + 37 * s) ≤ 9 := w.2.1
      rw [q, if_neg (by rw [show (-1 : Int32) = ab_I (-1) from rfl, ab_Ieq (by omega) (by omega) (by omega) (by omega)]; omega), ab_depthOf hC hs (by omega), if_neg (by rw [show (0 : Int32) = ab_I 0 from rfl, ab_Ieq (by omega) (by omega) (by omega) (by omega)]; omega), ab_plotOf (by omega), ab_holds (hC.2.2.2.2.1 s hs).2 w (by omega) (by omega) (by omega) (by omega), Option.bind_some, q2, if_neg (show ¬ ab_I 1 = 0 by decide), ab_I1]
      exact hI
theorem ab_owners_lp (hC : ab_CR τ 2 D) (hW : ab_WD B D) (h : ∀ y x : Nat, x < 12 → y < 8 → τ 281 (12 * y + x) = ab_I (ab_ow D x y 0)) : ∀ r k : Nat, k + r = 8 → ∀ f, r < f → f_X9_areOwnersRight_2 τ f (ab_I k) = some 1 := by
  intro r
  induction r with
  | zero =>
    intro k hk f hf
    obtain ⟨f, rfl⟩ : ∃ g, f = g + 1 := ⟨f - 1, by omega⟩
    have : k = 8 := by omega
    subst this
    rw [f_X9_areOwnersRight_2, if_pos (show (8 : Int32) ≤ ab_I ((8 : Nat) : Int) by decide)]
  | succ r ih =>
    intro k hk f hf
    obtain ⟨f, rfl⟩ : ∃ g, f = g + 1 := ⟨f - 1, by omega⟩
    rw [f_X9_areOwnersRight_2, if_neg (by rw [show (8 : Int32) = ab_I 8 from rfl, ab_Ile (by omega) (by omega) (by omega) (by omega)]; omega)]
    have hx := ab_owners_lp2 hC hW h (k2 := f_X9_areOwnersRight_2 τ f) (y := k) (by omega) 12 0 (by decide) q_fu (by unfold q_fu; omega)
    exact hx.trans (ih (k + 1) (by omega) f (by omega))
end
theorem ab_ok_22 {t : Nat} {σ : q_S} (hI : ab_Inv t σ) (_ht : t < 512) (a b c : Int32) : w_ok_22 σ a b c (ab_Inv (t + 1)) := by
  have hI2 := hI
  obtain ⟨D, ⟨hC, hM, hW⟩, hO⟩ := hI
  have w0 := hW.1
  have w5 := hW.2.1
  obtain ⟨τ, t1, t2, t3, t4⟩ := ab_survey hC hW (h := 0) (by decide) (by decide)
  have hC2 : ab_CR τ 2 D := hC.same w5 (fun c a b => t4 c (by omega) (by omega))
  unfold w_ok_22
  refine ⟨1, 1, τ, q_up τ 292 4 0, ?_, rfl, rfl, hI2.same ((ab_svq t4).trans (ab_eq.up (.inr ⟨rfl, .inl rfl⟩)))⟩
  have e1 : f_X9_areAreasAlike τ = some 1 := ab_areas_lp hC2 hW (D 0).toNat 0 (by omega) q_fu (by unfold q_fu; omega)
  have e2 : f_X9_areBordersAlike τ = some 1 := ab_borders_lp hC2 hW t2 (D 0).toNat 0 (by omega) q_fu (by unfold q_fu; omega)
  have e3 : f_X9_areOwnersRight τ = some 1 := ab_owners_lp hC2 hW t2 8 0 (by decide) q_fu (by unfold q_fu; omega)
  unfold f_X9_isWell
  rw [show f_X0_survey σ 2 0 = _ from t1, Option.bind_some, e1, Option.bind_some, if_neg (show ¬ ((1 : Int32) = 0) by decide), e2, Option.bind_some, if_neg (show ¬ ((1 : Int32) = 0) by decide), e3, Option.bind_some, if_neg (show ¬ ((1 : Int32) = 0) by decide)]
