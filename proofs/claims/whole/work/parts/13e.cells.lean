/-! cells: inside, areas, owners -/
theorem ab_grid {f : Int → Int → Int} {n : Nat} (hn : 0 < n) : ∀ m, ab_S (fun k => f ((k % n : Nat) : Int) ((k / n : Nat) : Int)) (n * m) = ab_S (fun y => ab_S (fun x => f x y) n) m := by
  intro m
  induction m with
  | zero => rfl
  | succ m ih =>
    rw [Nat.mul_succ, ab_S_split, ih]
    show _ = ab_S (fun y => ab_S (fun x => f x y) n) m + ab_S (fun x => f x m) n
    congr 1
    refine ab_S_congr (fun j hj => ?_)
    rw [Nat.mul_add_mod, Nat.mod_eq_of_lt hj, Nat.mul_add_div hn, Nat.div_eq_of_lt hj, Nat.add_zero]
theorem ab_inP_01 (P : Nat → Int) (x y : Int) : ab_inP P x y = 0 ∨ ab_inP P x y = 1 := by
  unfold ab_inP ab_in
  (repeat' split) <;> first | exact .inl rfl | exact .inr rfl
/-- the cells inside of a plot -/
def ab_ca (P : Nat → Int) : Int := ab_cells (fun x y => ab_inP P x y)
theorem ab_ar_ca {P : Nat → Int} (hW : ab_WP P) : ab_ar P = ab_ca P := by
  unfold ab_ar ab_ca ab_inP
  have h4 := hW.2.2.2.2.1
  by_cases q : P 1 = 2
  · simp only [if_pos q]
    have w := hW.2.2.2.2.2.2.2 (by omega)
    rw [eq_true q] at w
    exact ab_area w
  · simp only [if_neg q]
    unfold ab_cells
    rw [ab_S_zero (fun j hj => ab_S_zero (fun i hi => rfl))]
section
variable {σ : q_S} {D : Nat → Int} {B : Int}
theorem ab_areaOf_lp (hM : ab_MR σ 293 0 D) {s : Nat} (hs : s < 5) (hW : ab_WP (ab_sl D s)) : ∀ r k : Nat, k + r = 96 → ∀ f, r < f → f_X10_areaOf_4 σ f (ab_I s) (ab_I (ab_S (fun k => ab_inP (ab_sl D s) ((k % 12 : Nat) : Int) ((k / 12 : Nat) : Int)) k)) (ab_I k) = some (ab_I (ab_S (fun k => ab_inP (ab_sl D s) ((k % 12 : Nat) : Int) ((k / 12 : Nat) : Int)) 96)) := by
  intro r
  induction r with
  | zero =>
    intro k hk f hf
    obtain ⟨f, rfl⟩ : ∃ g, f = g + 1 := ⟨f - 1, by omega⟩
    have : k = 96 := by omega
    subst this
    rw [f_X10_areaOf_4, if_pos (show (96 : Int32) ≤ ab_I ((96 : Nat) : Int) by decide)]
  | succ r ih =>
    intro k hk f hf
    obtain ⟨f, rfl⟩ : ∃ g, f = g + 1 := ⟨f - 1, by omega⟩
    have hI := ih (k + 1) (by omega) f (by omega)
    have hsum : ab_S (fun k => ab_inP (ab_sl D s) ((k % 12 : Nat) : Int) ((k / 12 : Nat) : Int)) (k + 1) = ab_S (fun k => ab_inP (ab_sl D s) ((k % 12 : Nat) : Int) ((k / 12 : Nat) : Int)) k + ab_inP (ab_sl D s) ((k % 12 : Nat) : Int) ((k / 12 : Nat) : Int) := rfl
    rw [hsum] at hI
    have e1 : ab_I k - ab_I k / 12 * 12 = ab_I ((k % 12 : Nat) : Int) := (ab_Imod (a := k) (b := 12) (by omega) (by omega) (by omega) (by omega)).trans (congrArg ab_I (by omega))
    have e2 : ab_I k / 12 = ab_I ((k / 12 : Nat) : Int) := (ab_Itdiv (a := k) (b := 12) (by omega) (by omega) (by omega) (by omega)).trans (congrArg ab_I (by omega))
    rw [f_X10_areaOf_4, if_neg (by rw [show (96 : Int32) = ab_I 96 from rfl, ab_Ile (by omega) (by omega) (by omega) (by omega)]; omega), e1, e2, ab_isIn hM hs hW (by omega) (by omega) (by omega) (by omega), Option.bind_some]
    rcases ab_inP_01 (ab_sl D s) ((k % 12 : Nat) : Int) ((k / 12 : Nat) : Int) with q | q
    · rw [q] at hI ⊢
      rw [if_pos (show ab_I 0 = 0 from rfl), ab_I1, show (0 : Int32) = ab_I 0 from rfl, ab_Iadd]
      exact hI
    · rw [q] at hI ⊢
      rw [if_neg (show ¬ ab_I 1 = 0 by decide), ab_I1, show (1 : Int32) = ab_I 1 from rfl, ab_Iadd]
      exact hI
theorem ab_areaOf (hM : ab_MR σ 293 0 D) {s : Nat} (hs : s < 5) (hW : ab_WP (ab_sl D s)) : f_X10_areaOf σ (ab_I s) = some (ab_I (ab_ca (ab_sl D s))) := by
  unfold f_X10_areaOf ab_ca ab_cells
  rw [← ab_grid (f := fun x y => ab_inP (ab_sl D s) x y) (n := 12) (by decide) 8]
  exact ab_areaOf_lp hM hs hW 96 0 (by decide) q_fu (by unfold q_fu; omega)
theorem ab_aCx_lp {c : Nat} {P : Nat → Int} (h : ab_CP σ c P) (hW : ab_WP P) {k4 : Int32 → Int32 → Option Int32} {y : Nat} (hy : y < 8) {v : Int} : ∀ r k : Nat, k + r = 12 → ∀ f, r < f → f_X6_areaByCells_12 c σ k4 f (ab_I (v + ab_S (fun x => ab_inP P x y) k)) (ab_I y) (ab_I k) = k4 (ab_I (v + ab_S (fun x => ab_inP P x y) 12)) (ab_I ((y + 1 : Nat) : Int)) := by
  intro r
  induction r with
  | zero =>
    intro k hk f hf
    obtain ⟨f, rfl⟩ : ∃ g, f = g + 1 := ⟨f - 1, by omega⟩
    have : k = 12 := by omega
    subst this
    rw [f_X6_areaByCells_12, if_pos (show (12 : Int32) ≤ ab_I ((12 : Nat) : Int) by decide), ab_I1]
  | succ r ih =>
    intro k hk f hf
    obtain ⟨f, rfl⟩ : ∃ g, f = g + 1 := ⟨f - 1, by omega⟩
    have hI := ih (k + 1) (by omega) f (by omega)
    have hsum : ab_S (fun x => ab_inP P x y) (k + 1) = ab_S (fun x => ab_inP P x y) k + ab_inP P k y := rfl
    rw [hsum] at hI
    rw [f_X6_areaByCells_12, if_neg (by rw [show (12 : Int32) = ab_I 12 from rfl, ab_Ile (by omega) (by omega) (by omega) (by omega)]; omega), ab_holds h hW (by omega) (by omega) (by omega) (by omega), Option.bind_some]
    rcases ab_inP_01 P k y with q | q
    · rw [q, Int.add_zero] at hI
      rw [q, if_pos (show ab_I 0 = 0 from rfl), ab_I1]
      exact hI
    · rw [q, ← Int.add_assoc] at hI
      rw [q, if_neg (show ¬ ab_I 1 = 0 by decide), ab_I1, show (1 : Int32) = ab_I 1 from rfl, ab_Iadd]
      exact hI
theorem ab_aCy_lp {c : Nat} {P : Nat → Int} (h : ab_CP σ c P) (hW : ab_WP P) : ∀ r k : Nat, k + r = 8 → ∀ f, r < f → f_X6_areaByCells_4 c σ f (ab_I (ab_S (fun y => ab_S (fun x => ab_inP P x y) 12) k)) (ab_I k) = some (ab_I (ab_ca P)) := by
  intro r
  induction r with
  | zero =>
    intro k hk f hf
    obtain ⟨f, rfl⟩ : ∃ g, f = g + 1 := ⟨f - 1, by omega⟩
    have : k = 8 := by omega
    subst this
    rw [f_X6_areaByCells_4, if_pos (show (8 : Int32) ≤ ab_I ((8 : Nat) : Int) by decide)]
    rfl
  | succ r ih =>
    intro k hk f hf
    obtain ⟨f, rfl⟩ : ∃ g, f = g + 1 := ⟨f - 1, by omega⟩
    rw [f_X6_areaByCells_4, if_neg (by rw [show (8 : Int32) = ab_I 8 from rfl, ab_Ile (by omega) (by omega) (by omega) (by omega)]; omega)]
    have hx := ab_aCx_lp h hW (k4 := f_X6_areaByCells_4 c σ f) (y := k) (by omega) (v := ab_S (fun y => ab_S (fun x => ab_inP P x y) 12) k) 12 0 (by decide) q_fu (by unfold q_fu; omega)
    rw [show ab_S (fun x => ab_inP P x k) 0 = 0 from rfl, Int.add_zero] at hx
    exact hx.trans (ih (k + 1) (by omega) f (by omega))
theorem ab_areaByCells {c : Nat} {P : Nat → Int} (h : ab_CP σ c P) (hW : ab_WP P) : f_X6_areaByCells σ c = some (ab_I (ab_ca P)) := by
  unfold f_X6_areaByCells
  exact ab_aCy_lp h hW 8 0 (by decide) q_fu (by unfold q_fu; omega)
/-! owners -/
def ab_own (D : Nat → Int) (x y h : Int) : Nat → Nat → Int → Int → Int
  | 0, _, b, _ => b
  | r + 1, k, b, m => if m < D (30 + 37 * k) - h ∧ ab_inP (ab_sl D k) x y = 1 then ab_own D x y h r (k + 1) k (D (30 + 37 * k) - h) else ab_own D x y h r (k + 1) b m
def ab_ow (D : Nat → Int) (x y h : Int) : Int := ab_own D x y h (D 0).toNat 0 (-1) 0
theorem ab_own_b {x y h : Int} : ∀ r k : Nat, ∀ b m : Int, (b = -1 ∨ ∃ s : Nat, s < k ∧ b = s) → (ab_own D x y h r k b m = -1 ∨ ∃ s : Nat, s < k + r ∧ ab_own D x y h r k b m = s) := by
  intro r
  induction r with
  | zero => exact fun k b m hb => hb
  | succ r ih =>
    intro k b m hb
    rw [ab_own]
    split
    · rcases ih (k + 1) k (D (30 + 37 * k) - h) (.inr ⟨k, by omega, rfl⟩) with q | ⟨s, q1, q2⟩
      · exact .inl q
      · exact .inr ⟨s, by omega, q2⟩
    · rcases ih (k + 1) b m (hb.imp id (fun ⟨s, q1, q2⟩ => ⟨s, by omega, q2⟩)) with q | ⟨s, q1, q2⟩
      · exact .inl q
      · exact .inr ⟨s, by omega, q2⟩
theorem ab_ow_b (hW : ab_WD B D) (x y h : Int) : ab_ow D x y h = -1 ∨ ∃ s : Nat, (s : Int) < D 0 ∧ s < 5 ∧ ab_ow D x y h = s := by
  have w0 := hW.1
  have w5 := hW.2.1
  rcases ab_own_b (D := D) (x := x) (y := y) (h := h) (D 0).toNat 0 (-1) 0 (.inl rfl) with q | ⟨s, q1, q2⟩
  · exact .inl q
  · exact .inr ⟨s, by omega, by omega, q2⟩
theorem ab_deep_lp {z : Nat} (hC : ab_CR σ z D) (hW : ab_WD B D) {x y h : Int} (hx0 : -1000 ≤ x) (hx1 : x ≤ 1000) (hy0 : -1000 ≤ y) (hy1 : y ≤ 1000) (hh0 : 0 ≤ h) (hh1 : h ≤ 1000) : ∀ r k : Nat, ((k + r : Nat) : Int) = D 0 → ∀ f, r < f → ∀ b m : Int, 0 ≤ m → m ≤ 1000 → f_X2_deepestAt_9 z σ f (ab_I x) (ab_I y) (ab_I h) (ab_I b) (ab_I m) (ab_I k) = some (ab_I (ab_own D x y h r k b m)) := by
  have w0 := hW.1
  have w5 := hW.2.1
  intro r
  induction r with
  | zero =>
    intro k hk f hf b m hm0 hm1
    obtain ⟨f, rfl⟩ : ∃ g, f = g + 1 := ⟨f - 1, by omega⟩
    rw [f_X2_deepestAt_9, hC.1, if_pos (by rw [ab_Ile (by omega) (by omega) (by omega) (by omega)]; omega)]
    rfl
  | succ r ih =>
    intro k hk f hf b m hm0 hm1
    obtain ⟨f, rfl⟩ : ∃ g, f = g + 1 := ⟨f - 1, by omega⟩
    have w := hW.2.2.2.2.2.2.2.2.1 k (by omega)
    have d0 : 0 ≤ D (30 + 37 * k) := w.1
    have d9 : D (30 + 37 * k) ≤ 9 := w.2.1
    rw [f_X2_deepestAt_9, hC.1, if_neg (by rw [ab_Ile (by omega) (by omega) (by omega) (by omega)]; omega), ab_depthOf hC (by omega) (by omega), ab_Isub, ab_plotOf (by omega), ab_holds (hC.2.2.2.2.1 k (by omega)).2 w hx0 hx1 hy0 hy1, Option.bind_some, ab_I1, ab_own]
    by_cases q1 : m < D (30 + 37 * k) - h
    · rw [if_neg (by rw [ab_Ile (by omega) (by omega) (by omega) (by omega)]; omega)]
      rcases ab_inP_01 (ab_sl D k) x y with q | q
      · rw [q, if_pos (show ab_I 0 = 0 from rfl), if_neg (by omega)]
        exact ih (k + 1) (by omega) f (by omega) b m hm0 hm1
      · rw [q, if_neg (show ¬ ab_I 1 = 0 by decide), if_pos ⟨q1, rfl⟩]
        exact ih (k + 1) (by omega) f (by omega) k _ (by omega) (by omega)
    · rw [if_pos (by rw [ab_Ile (by omega) (by omega) (by omega) (by omega)]; omega), if_neg (fun z => q1 z.1)]
      exact ih (k + 1) (by omega) f (by omega) b m hm0 hm1
theorem ab_deepestAt {z : Nat} (hC : ab_CR σ z D) (hW : ab_WD B D) {x y h : Int} (hx0 : -1000 ≤ x) (hx1 : x ≤ 1000) (hy0 : -1000 ≤ y) (hy1 : y ≤ 1000) (hh0 : 0 ≤ h) (hh1 : h ≤ 1000) : f_X2_deepestAt σ z (ab_I x) (ab_I y) (ab_I h) = some (ab_I (ab_ow D x y h)) := by
  have w0 := hW.1
  have w5 := hW.2.1
  unfold f_X2_deepestAt ab_ow
  show f_X2_deepestAt_9 z σ q_fu (ab_I x) (ab_I y) (ab_I h) (ab_I (-1)) (ab_I 0) (ab_I ((0 : Nat) : Int)) = _
  exact ab_deep_lp hC hW hx0 hx1 hy0 hy1 hh0 hh1 (D 0).toNat 0 (by omega) q_fu (by unfold q_fu; omega) (-1) 0 (by omega) (by omega)
theorem ab_depthIn (hM : ab_MR σ 293 0 D) {s : Nat} (hs : s < 5) {h : Int} (d0 : 0 ≤ D (30 + 37 * s)) (d9 : D (30 + 37 * s) ≤ 9) (hh0 : 0 ≤ h) (hh1 : h ≤ 1000) : f_X10_depthIn σ (ab_I s) (ab_I h) = some (ab_I (ab_d (D (30 + 37 * s)) h)) := by
  unfold f_X10_depthIn ab_d
  rw [show f_X10_sv σ (ab_I s) 0 = some (ab_I (D (30 + 37 * s))) from (ab_svn hM hs).1, Option.bind_some, Option.bind_some]
  by_cases q : h < D (30 + 37 * s)
  · rw [if_neg (by rw [ab_Ile (by omega) (by omega) (by omega) (by omega)]; omega), if_pos q, ab_Isub]
  · rw [if_pos (by rw [ab_Ile (by omega) (by omega) (by omega) (by omega)]; omega), if_neg q]
    rfl
theorem ab_ownIn_lp (hM : ab_MR σ 293 0 D) (hW : ab_WD B D) {x y h : Int} (hx0 : -1000 ≤ x) (hx1 : x ≤ 1000) (hy0 : -1000 ≤ y) (hy1 : y ≤ 1000) (hh0 : 0 ≤ h) (hh1 : h ≤ 1000) : ∀ r k : Nat, ((k + r : Nat) : Int) = D 0 → ∀ f, r < f → ∀ b m : Int, ((b = -1 ∧ m = 0) ∨ ∃ s : Nat, s < k ∧ b = s ∧ m = D (30 + 37 * s) - h ∧ 0 < m) → f_X10_ownerIn_6 σ f (ab_I x) (ab_I y) (ab_I h) (ab_I b) (ab_I k) = some (ab_I (ab_own D x y h r k b m)) := by
  have w0 := hW.1
  have w5 := hW.2.1
  have hg : σ 293 0 = ab_I (D 0) := hM 0 (by decide)
  intro r
  induction r with
  | zero =>
    intro k hk f hf b m hb
    obtain ⟨f, rfl⟩ : ∃ g, f = g + 1 := ⟨f - 1, by omega⟩
    rw [f_X10_ownerIn_6, hg, if_pos (by rw [ab_Ile (by omega) (by omega) (by omega) (by omega)]; omega)]
    rfl
  | succ r ih =>
    intro k hk f hf b m hb
    obtain ⟨f, rfl⟩ : ∃ g, f = g + 1 := ⟨f - 1, by omega⟩
    have w := hW.2.2.2.2.2.2.2.2.1 k (by omega)
    have d0 : 0 ≤ D (30 + 37 * k) := w.1
    have d9 : D (30 + 37 * k) ≤ 9 := w.2.1
    have hb2 : ((b = -1 ∧ m = 0) ∨ ∃ s : Nat, s < k + 1 ∧ b = s ∧ m = D (30 + 37 * s) - h ∧ 0 < m) := hb.imp id (fun ⟨s, q1, q2⟩ => ⟨s, by omega, q2⟩)
    have i1 := ih (k + 1) (by omega) f (by omega) b m hb2
    have eb := ab_d_b (h := h) d0 d9 hh0
    rw [f_X10_ownerIn_6, hg, if_neg (by rw [ab_Ile (by omega) (by omega) (by omega) (by omega)]; omega), ab_depthIn hM (by omega) d0 d9 hh0 hh1, Option.bind_some, ab_isIn hM (by omega) w hx0 hx1 hy0 hy1, Option.bind_some, ab_I1, ab_own, i1]
    have m0 : 0 ≤ m := by rcases hb with ⟨q1, q2⟩ | ⟨s, q1, q2, q3, q4⟩ <;> omega
    by_cases qd : h < D (30 + 37 * k)
    · have ed : ab_d (D (30 + 37 * k)) h = D (30 + 37 * k) - h := by unfold ab_d; rw [if_pos qd]
      have i2 := ih (k + 1) (by omega) f (by omega) k (D (30 + 37 * k) - h) (.inr ⟨k, by omega, rfl, rfl, by omega⟩)
      rw [i2, ed, if_neg (by rw [show (0 : Int32) = ab_I 0 from rfl, ab_Ile (by omega) (by omega) (by omega) (by omega)]; omega)]
      rcases ab_inP_01 (ab_sl D k) x y with q | q
      · rw [q, if_pos (show ab_I 0 = 0 from rfl), if_neg (by omega)]
      · rw [q, if_neg (show ¬ ab_I 1 = 0 by decide)]
        rcases hb with ⟨q1, q2⟩ | ⟨s, q1, q2, q3, q4⟩
        · rw [q1, q2, if_pos (show ab_I (-1) < 0 by decide), if_pos ⟨by omega, rfl⟩]
        · have ws := hW.2.2.2.2.2.2.2.2.1 s (by omega)
          have s0 : 0 ≤ D (30 + 37 * s) := ws.1
          have s9 : D (30 + 37 * s) ≤ 9 := ws.2.1
          have es : ab_d (D (30 + 37 * s)) h = D (30 + 37 * s) - h := by unfold ab_d; rw [if_pos (by omega)]
          rw [q2, if_neg (by rw [ab_Iltc (by omega) (by omega)]; exact id), Option.bind_some, ab_depthIn hM (by omega) s0 s9 hh0 hh1, Option.bind_some, es, ← q3]
          by_cases q5 : m < D (30 + 37 * k) - h
          · rw [if_neg (by rw [ab_Ile (by omega) (by omega) (by omega) (by omega)]; omega), if_pos ⟨q5, rfl⟩]
          · rw [if_pos (by rw [ab_Ile (by omega) (by omega) (by omega) (by omega)]; omega), if_neg (fun z => q5 z.1)]
    · have ed : ab_d (D (30 + 37 * k)) h = 0 := by unfold ab_d; rw [if_neg qd]
      rw [ed, if_pos (show ab_I 0 ≤ 0 by decide), if_neg (by omega)]
theorem ab_ownerIn (hM : ab_MR σ 293 0 D) (hW : ab_WD B D) {x y h : Int} (hx0 : -1000 ≤ x) (hx1 : x ≤ 1000) (hy0 : -1000 ≤ y) (hy1 : y ≤ 1000) (hh0 : 0 ≤ h) (hh1 : h ≤ 1000) : f_X10_ownerIn σ (ab_I x) (ab_I y) (ab_I h) = some (ab_I (ab_ow D x y h)) := by
  have w0 := hW.1
  have w5 := hW.2.1
  unfold f_X10_ownerIn ab_ow
  show f_X10_ownerIn_6 σ q_fu (ab_I x) (ab_I y) (ab_I h) (ab_I (-1)) (ab_I ((0 : Nat) : Int)) = _
  exact ab_ownIn_lp hM hW hx0 hx1 hy0 hy1 hh0 hh1 (D 0).toNat 0 (by omega) q_fu (by unfold q_fu; omega) (-1) 0 (.inl ⟨rfl, rfl⟩)
end
