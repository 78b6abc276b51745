/-! borders counted by pairs -/
def ab_ab (o n p q : Int) : Int := if o ≠ n ∧ ((o = p ∧ n = q) ∨ (o = q ∧ n = p)) then 1 else 0
def ab_bc (D : Nat → Int) (p q x y : Int) : Int := ab_ab (ab_oa D x y) (ab_oa D (x + 1) y) p q + ab_ab (ab_oa D x y) (ab_oa D x (y + 1)) p q
section
variable {σ τ : q_S} {D : Nat → Int} {B : Int}
theorem ab_oa_s (hW : ab_WD B D) (x y : Int) : -1000 ≤ ab_oa D x y ∧ ab_oa D x y ≤ 1000 := by
  rcases ab_oa_b hW x y with o | ⟨z, z1, z2, o⟩ <;> omega
theorem ab_areBoth {o n p q : Int} (o0 : -1000 ≤ o) (o1 : o ≤ 1000) (n0 : -1000 ≤ n) (n1 : n ≤ 1000) (p0 : -1000 ≤ p) (p1 : p ≤ 1000) (q0 : -1000 ≤ q) (q1 : q ≤ 1000) : f_X0_areBoth (ab_I o) (ab_I n) (ab_I p) (ab_I q) = ab_I (ab_ab o n p q) := by
  unfold f_X0_areBoth f_X0_areBoth_15 ab_ab
  simp only [ab_Ieq (a := o) (b := n) (by omega) (by omega) (by omega) (by omega), ab_Ieq (a := o) (b := p) (by omega) (by omega) (by omega) (by omega), ab_Ieq (a := n) (b := q) (by omega) (by omega) (by omega) (by omega), ab_Ieq (a := o) (b := q) (by omega) (by omega) (by omega) (by omega), ab_Ieq (a := n) (b := p) (by omega) (by omega) (by omega) (by omega)]
  (repeat' split) <;> first | rfl | omega
theorem ab_ab_01 (o n p q : Int) : ab_ab o n p q = 0 ∨ ab_ab o n p q = 1 := by
  unfold ab_ab
  split
  · exact .inr rfl
  · exact .inl rfl
theorem ab_bc_sum {p q : Int} (hp : 0 ≤ p) (hq : 0 ≤ q) (hne : p ≠ q) : ab_cells (fun x y => ab_bc D p q x y) = ab_cells (fun x y => ab_bt D p q x y) := by
  rw [ab_bt_sum hp hq]
  have e : ab_cells (fun x y => ab_bc D p q x y) = (ab_pe D p q + ab_pe D q p) + (ab_ps D p q + ab_ps D q p) := by
    unfold ab_pe ab_ps ab_cells
    rw [← ab_S_add, ← ab_S_add, ← ab_S_add]
    refine ab_S_congr (fun y hy => ?_)
    rw [← ab_S_add, ← ab_S_add, ← ab_S_add]
    refine ab_S_congr (fun x hx => ?_)
    have f : ∀ o n : Int, ab_ab o n p q = ab_is o p * ab_is n q + ab_is o q * ab_is n p := fun o n => by
      unfold ab_ab ab_is
      (repeat' split) <;> omega
    show ab_ab (ab_oa D x y) (ab_oa D ((x : Int) + 1) y) p q + ab_ab (ab_oa D x y) (ab_oa D x ((y : Int) + 1)) p q = _
    rw [f, f]
  rw [e]
  omega
theorem ab_bc_eq {p : Int} : ab_cells (fun x y => ab_bc D p p x y) = 0 := by
  unfold ab_cells
  refine ab_S_zero (fun y hy => ab_S_zero (fun x hx => ?_))
  show ab_ab _ _ p p + ab_ab _ _ p p = 0
  unfold ab_ab
  rw [if_neg (by omega), if_neg (by omega)]
  rfl
theorem ab_byX_lp (hW : ab_WD B D) (h : ∀ y x : Nat, x < 12 → y < 8 → τ 281 (12 * y + x) = ab_I (ab_ow D x y 0)) {p q : Int} (hp0 : -1000 ≤ p) (hp1 : p ≤ 1000) (hq0 : -1000 ≤ q) (hq1 : q ≤ 1000) {k4 : Int32 → Int32 → Int32 → Int32 → Option Int32} {y : Nat} (hy : y < 8) {v : Int} : ∀ r k : Nat, k + r = 12 → ∀ f, r < f → f_X0_borderByCells_15 τ k4 f (ab_I p) (ab_I q) (ab_I (v + ab_S (fun x => ab_bc D p q x y) k)) (ab_I y) (ab_I k) = k4 (ab_I p) (ab_I q) (ab_I (v + ab_S (fun x => ab_bc D p q x y) 12)) (ab_I ((y + 1 : Nat) : Int)) := by
  intro r
  induction r with
  | zero =>
    intro k hk f hf
    obtain ⟨f, rfl⟩ : ∃ g, f = g + 1 := ⟨f - 1, by omega⟩
    have : k = 12 := by omega
    subst this
    rw [f_X0_borderByCells_15, if_pos (show (12 : Int32) ≤ ab_I ((12 : Nat) : Int) by decide), ab_I1]
  | succ r ih =>
    intro k hk f hf
    obtain ⟨f, rfl⟩ : ∃ g, f = g + 1 := ⟨f - 1, by omega⟩
    have hI := ih (k + 1) (by omega) f (by omega)
    have hsum : ab_S (fun x => ab_bc D p q x y) (k + 1) = ab_S (fun x => ab_bc D p q x y) k + (ab_ab (ab_oa D k y) (ab_oa D ((k : Int) + 1) y) p q + ab_ab (ab_oa D k y) (ab_oa D k ((y : Int) + 1)) p q) := rfl
    rw [hsum, ← Int.add_assoc] at hI
    have b1 := ab_oa_s hW k y
    have b2 := ab_oa_s hW ((k : Int) + 1) y
    have b3 := ab_oa_s hW k ((y : Int) + 1)
    rw [f_X0_borderByCells_15, if_neg (by rw [show (12 : Int32) = ab_I 12 from rfl, ab_Ile (by omega) (by omega) (by omega) (by omega)]; omega)]
    unfold f_X0_borderByCells_55
    rw [show ab_I (k : Int) + 1 = ab_I ((k : Int) + 1) from ab_Iadd (b := 1), show ab_I (y : Int) + 1 = ab_I ((y : Int) + 1) from ab_Iadd (b := 1), ab_ownerC h (by omega) (by omega) (by omega) (by omega), ab_ownerC h (by omega) (by omega) (by omega) (by omega), ab_ownerC h (by omega) (by omega) (by omega) (by omega), ab_areBoth b1.1 b1.2 b2.1 b2.2 hp0 hp1 hq0 hq1, ab_areBoth b1.1 b1.2 b3.1 b3.2 hp0 hp1 hq0 hq1]
    rw [show ((k + 1 : Nat) : Int) = (k : Int) + 1 by omega] at hI
    rcases ab_ab_01 (ab_oa D k y) (ab_oa D ((k : Int) + 1) y) p q with z1 | z1 <;> rcases ab_ab_01 (ab_oa D k y) (ab_oa D k ((y : Int) + 1)) p q with z2 | z2 <;> rw [z1, z2] at hI <;> rw [z1, z2]
    · rw [if_pos (show ab_I 0 = 0 from rfl), if_pos (show ab_I 0 = 0 from rfl), ← hI]
      congr 2
      omega
    · rw [if_pos (show ab_I 0 = 0 from rfl), if_neg (show ¬ ab_I 1 = 0 by decide), show (1 : Int32) = ab_I 1 from rfl, ab_Iadd, ← hI]
      congr 2
    · rw [if_neg (show ¬ ab_I 1 = 0 by decide), if_pos (show ab_I 0 = 0 from rfl), show (1 : Int32) = ab_I 1 from rfl, ab_Iadd, ← hI]
      congr 2
    · rw [if_neg (show ¬ ab_I 1 = 0 by decide), if_neg (show ¬ ab_I 1 = 0 by decide), show (1 : Int32) = ab_I 1 from rfl, ab_Iadd, ab_Iadd, ← hI]
      congr 2
      omega
theorem ab_byY_lp (hW : ab_WD B D) (h : ∀ y x : Nat, x < 12 → y < 8 → τ 281 (12 * y + x) = ab_I (ab_ow D x y 0)) {p q : Int} (hp0 : -1000 ≤ p) (hp1 : p ≤ 1000) (hq0 : -1000 ≤ q) (hq1 : q ≤ 1000) : ∀ r k : Nat, k + r = 8 → ∀ f, r < f → f_X0_borderByCells_5 τ f (ab_I p) (ab_I q) (ab_I (ab_S (fun y => ab_S (fun x => ab_bc D p q x y) 12) k)) (ab_I k) = some (ab_I (ab_cells (fun x y => ab_bc D p q x y))) := by
  intro r
  induction r with
  | zero =>
    intro k hk f hf
    obtain ⟨f, rfl⟩ : ∃ g, f = g + 1 := ⟨f - 1, by omega⟩
    have : k = 8 := by omega
    subst this
    rw [f_X0_borderByCells_5, if_pos (show (8 : Int32) ≤ ab_I ((8 : Nat) : Int) by decide)]
    rfl
  | succ r ih =>
    intro k hk f hf
    obtain ⟨f, rfl⟩ : ∃ g, f = g + 1 := ⟨f - 1, by omega⟩
    rw [f_X0_borderByCells_5, if_neg (by rw [show (8 : Int32) = ab_I 8 from rfl, ab_Ile (by omega) (by omega) (by omega) (by omega)]; omega)]
    have hx := ab_byX_lp hW h hp0 hp1 hq0 hq1 (k4 := f_X0_borderByCells_5 τ f) (y := k) (by omega) (v := ab_S (fun y => ab_S (fun x => ab_bc D p q x y) 12) k) 12 0 (by decide) q_fu (by unfold q_fu; omega)
    rw [show ab_S (fun x => ab_bc D p q x k) 0 = 0 from rfl, Int.add_zero] at hx
    exact hx.trans (ih (k + 1) (by omega) f (by omega))
/-- by pairs: the same as around -/
theorem ab_byCells (hW : ab_WD B D) (h : ∀ y x : Nat, x < 12 → y < 8 → τ 281 (12 * y + x) = ab_I (ab_ow D x y 0)) {p s : Nat} (hp : p < 5) (hs : s < 5) : f_X0_borderByCells τ (ab_I p) (ab_I s) = some (ab_I (if p = s then 0 else ab_cells (fun x y => ab_bt D p s x y))) := by
  unfold f_X0_borderByCells
  rw [show f_X0_borderByCells_5 τ q_fu (ab_I p) (ab_I s) 0 0 = _ from ab_byY_lp hW h (p := p) (q := s) (by omega) (by omega) (by omega) (by omega) 8 0 (by decide) q_fu (by unfold q_fu; omega)]
  by_cases q : p = s
  · rw [if_pos q, q, ab_bc_eq]
  · rw [if_neg q, ab_bc_sum (by omega) (by omega) (by omega)]
end
theorem ab_ok_15 {t : Nat} {σ : q_S} (hI : ab_Inv t σ) (_ht : t < 512) (a b c : Int32) : w_ok_15 σ a b c (ab_Inv (t + 1)) := by
  unfold w_ok_15
  rcases ab_borderAsk hI a b with ⟨h1, h2⟩ | ⟨h1, h2, D, B, p, s, τ, hW, hp, hs, rfl, rfl, t1, t2, t3, t4⟩
  · refine ⟨1, 0, 0, σ, q_up σ 292 4 1, ?_, .inr rfl, ?_, rfl, fun z => absurd z (by decide), ab_sI hI 1⟩
    · unfold f_X9_border
      rcases h1 with h1 | ⟨h1, h3⟩
      · rw [h1, if_pos rfl]
      · rw [h1, if_neg (show ¬ ((1 : Int32) = 0) by decide), h3, if_pos rfl]
    · unfold f_X10_border
      rw [h2, Option.bind_some]
  · refine ⟨0, ab_I (if p = s then 0 else ab_cells (fun x y => ab_bt D p s x y)), ab_I (if p = s then 0 else ab_cells (fun x y => ab_bt D p s x y)), τ, q_up τ 292 4 0, ?_, .inl rfl, ?_, rfl, fun _ => rfl, hI.same (t3.trans (ab_eq.up (.inr ⟨rfl, .inl rfl⟩)))⟩
    · unfold f_X9_border
      rw [h1, if_neg (show ¬ ((1 : Int32) = 0) by decide), h2, if_neg (show ¬ ((1 : Int32) = 0) by decide), t1, Option.bind_some, ab_byCells hW t2 hp hs, Option.bind_some]
    · unfold f_X10_border
      rw [t4, Option.bind_some]
