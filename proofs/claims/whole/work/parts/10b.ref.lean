/-! the second program's numbers -/
section
variable {σ : q_S} {D : Nat → Int}
theorem ab_sv (hR : ab_MR σ 293 0 D) {s w : Nat} (hs : s < 5) (hw : w < 37) : f_X10_sv σ (ab_I s) (ab_I w) = some (ab_I (ab_sl D s w)) := by
  unfold f_X10_sv ab_sl
  have e : (30 : Int32) + 37 * ab_I s + ab_I w = ab_I ((30 + 37 * s + w : Nat) : Int) := by
    rw [show (30 : Int32) = ab_I 30 from rfl, show (37 : Int32) = ab_I 37 from rfl, ab_Imul, ab_Iadd, ab_Iadd]
    exact congrArg ab_I (by omega)
  rw [e, ab_Icl (by omega) (by omega), Int.toNat_natCast, if_neg (by rw [ab_Iltc (by omega) (by omega)]; exact fun h => h.elim id (fun h => by omega))]
  have h := hR (30 + 37 * s + w) (by omega)
  rw [Nat.zero_add] at h
  rw [h]
theorem ab_svn (hR : ab_MR σ 293 0 D) {s : Nat} (hs : s < 5) : f_X10_sv σ (ab_I s) 0 = some (ab_I (ab_sl D s 0)) ∧ f_X10_sv σ (ab_I s) 1 = some (ab_I (ab_sl D s 1)) ∧ f_X10_sv σ (ab_I s) 2 = some (ab_I (ab_sl D s 2)) ∧ f_X10_sv σ (ab_I s) 3 = some (ab_I (ab_sl D s 3)) ∧ f_X10_sv σ (ab_I s) 4 = some (ab_I (ab_sl D s 4)) :=
  ⟨ab_sv (w := 0) hR hs (by decide), ab_sv (w := 1) hR hs (by decide), ab_sv (w := 2) hR hs (by decide), ab_sv (w := 3) hR hs (by decide), ab_sv (w := 4) hR hs (by decide)⟩
/-- one number of a sleeper put -/
theorem ab_ls_put {s w : Nat} {v : Int32} (hs : s < 5) (hw : w < 37) : f_X10_ls σ (ab_I s) (ab_I w) v = some (q_up σ 293 (30 + 37 * s + w) v) := by
  unfold f_X10_ls
  have e : (30 : Int32) + 37 * ab_I s + ab_I w = ab_I ((30 + 37 * s + w : Nat) : Int) := by
    rw [show (30 : Int32) = ab_I 30 from rfl, show (37 : Int32) = ab_I 37 from rfl, ab_Imul, ab_Iadd, ab_Iadd]
    exact congrArg ab_I (by omega)
  rw [e, ab_Icl (by omega) (by omega), Int.toNat_natCast, if_neg (by rw [ab_Iltc (by omega) (by omega)]; exact fun h => h.elim id (fun h => by omega))]
theorem ab_way (hR : ab_MR σ 293 0 D) {s k : Nat} (hs : s < 5) (hk : k < 16) : f_X10_way σ (ab_I s) (ab_I k) = some (ab_I (ab_ds (ab_sl D s) k)) := by
  unfold f_X10_way
  have e : (5 : Int32) + 2 * ab_I k = ab_I ((5 + 2 * k : Nat) : Int) := by
    rw [show (5 : Int32) = ab_I 5 from rfl, show (2 : Int32) = ab_I 2 from rfl, ab_Imul, ab_Iadd]
    exact congrArg ab_I (by omega)
  rw [e, ab_sv hR hs (by omega)]
  rfl
theorem ab_len (hR : ab_MR σ 293 0 D) {s k : Nat} (hs : s < 5) (hk : k < 16) : f_X10_length σ (ab_I s) (ab_I k) = some (ab_I (ab_ls (ab_sl D s) k)) := by
  unfold f_X10_length
  have e : (5 : Int32) + 2 * ab_I k + 1 = ab_I ((6 + 2 * k : Nat) : Int) := by
    rw [show (5 : Int32) = ab_I 5 from rfl, show (2 : Int32) = ab_I 2 from rfl, show (1 : Int32) = ab_I 1 from rfl, ab_Imul, ab_Iadd, ab_Iadd]
    exact congrArg ab_I (by omega)
  rw [e, ab_sv hR hs (by omega)]
  rfl
theorem ab_rstepX {e : Int} (h0 : 0 ≤ e) (h1 : e ≤ 3) : f_X10_stepX (ab_I e) = ab_I (ab_sx e) := by
  rcases ab_dir h0 h1 with rfl | rfl | rfl | rfl <;> decide
theorem ab_rstepY {e : Int} (h0 : 0 ≤ e) (h1 : e ≤ 3) : f_X10_stepY (ab_I e) = ab_I (ab_sy e) := by
  rcases ab_dir h0 h1 with rfl | rfl | rfl | rfl <;> decide
/-- where a walk is -/
def ab_g (σ : q_S) (a b : Int32) : q_S := fun c k => if c = 292 then (if k = 14 then a else if k = 15 then b else σ 292 k) else σ c k
theorem ab_g_g {a b a2 b2 : Int32} : ab_g (ab_g σ a b) a2 b2 = ab_g σ a2 b2 := by
  funext c k
  unfold ab_g
  (repeat' split) <;> first | rfl | simp_all
theorem ab_g_MR {a b : Int32} (h : ab_MR σ 293 0 D) : ab_MR (ab_g σ a b) 293 0 D := h
theorem ab_g_x {a b v : Int32} : q_up (ab_g σ a b) 292 14 v = ab_g σ v b := by
  funext c k
  rw [ab_up]
  unfold ab_g
  (repeat' split) <;> first | rfl | simp_all
theorem ab_g_y {a b v : Int32} : q_up (ab_g σ a b) 292 15 v = ab_g σ a v := by
  funext c k
  rw [ab_up]
  unfold ab_g
  (repeat' split) <;> first | rfl | simp_all
theorem ab_g_0 {a b : Int32} : q_up (q_up σ 292 14 a) 292 15 b = ab_g σ a b := by
  funext c k
  rw [ab_up, ab_up, ab_up]
  unfold ab_g
  (repeat' split) <;> first | rfl | simp_all
theorem ab_g_14 {a b : Int32} : ab_g σ a b 292 14 = a := rfl
theorem ab_g_15 {a b : Int32} : ab_g σ a b 292 15 = b := rfl
theorem ab_goes_to_lp (hR : ab_MR σ 293 0 D) {s m : Nat} (hs : s < 5) (hW : ab_WP (ab_sl D s)) (hm : (m : Int) ≤ ab_sl D s 4) : ∀ r k, k + r = m → ∀ f, r < f → f_X10_goesTo_22 f (ab_I s) (ab_I m) (ab_I k) (ab_g σ (ab_I (ab_px (ab_sl D s 2) (ab_ds (ab_sl D s)) (ab_ls (ab_sl D s)) k)) (ab_I (ab_py (ab_sl D s 3) (ab_ds (ab_sl D s)) (ab_ls (ab_sl D s)) k))) = some (ab_g σ (ab_I (ab_px (ab_sl D s 2) (ab_ds (ab_sl D s)) (ab_ls (ab_sl D s)) m)) (ab_I (ab_py (ab_sl D s 3) (ab_ds (ab_sl D s)) (ab_ls (ab_sl D s)) m))) := by
  have h4 := hW.2.2.2.2.2.1
  intro r
  induction r with
  | zero =>
    intro k hk f hf
    obtain ⟨f, rfl⟩ : ∃ g, f = g + 1 := ⟨f - 1, by omega⟩
    rw [f_X10_goesTo_22, if_pos (by rw [ab_Ile (by omega) (by omega) (by omega) (by omega)]; omega), show k = m by omega]
  | succ r ih =>
    intro k hk f hf
    obtain ⟨f, rfl⟩ : ∃ g, f = g + 1 := ⟨f - 1, by omega⟩
    have w := hW.ch (k := k) (by omega)
    rw [f_X10_goesTo_22, if_neg (by rw [ab_Ile (by omega) (by omega) (by omega) (by omega)]; omega), ab_len (ab_g_MR hR) hs (by omega), Option.bind_some, ab_way (ab_g_MR hR) hs (by omega), Option.bind_some]
    rw [ab_g_14, ab_rstepX w.2.1 w.2.2.1, ab_Imul, ab_Iadd, ab_g_x, ab_len (ab_g_MR hR) hs (by omega), Option.bind_some, ab_way (ab_g_MR hR) hs (by omega), Option.bind_some, ab_g_15, ab_rstepY w.2.1 w.2.2.1, ab_Imul, ab_Iadd, ab_g_y, ab_I1, Int.mul_comm _ (ab_sx _), Int.mul_comm _ (ab_sy _)]
    exact ih (k + 1) (by omega) f (by omega)
theorem ab_goesTo (hR : ab_MR σ 293 0 D) {s m : Nat} (hs : s < 5) (hW : ab_WP (ab_sl D s)) (hm : (m : Int) ≤ ab_sl D s 4) : f_X10_goesTo σ (ab_I s) (ab_I m) = some (ab_g σ (ab_I (ab_px (ab_sl D s 2) (ab_ds (ab_sl D s)) (ab_ls (ab_sl D s)) m)) (ab_I (ab_py (ab_sl D s 3) (ab_ds (ab_sl D s)) (ab_ls (ab_sl D s)) m))) := by
  have h4 := hW.2.2.2.2.2.1
  unfold f_X10_goesTo
  rw [(ab_svn hR hs).2.2.1, Option.bind_some]
  have hR2 : ab_MR (q_up σ 292 14 (ab_I (ab_sl D s 2))) 293 0 D := hR
  rw [(ab_svn hR2 hs).2.2.2.1, Option.bind_some, ab_g_0]
  exact ab_goes_to_lp hR hs hW hm m 0 (by omega) q_fu (by unfold q_fu; omega)
/-- inside, as the second program tells it -/
theorem ab_wk_cases {P : Nat → Int} (hW : ab_WP P) {k : Nat} (hk : (k : Int) < P 4) (x y : Int) : ((ab_px (P 2) (ab_ds P) (ab_ls P) k = ab_px (P 2) (ab_ds P) (ab_ls P) (k + 1) ∧ ab_px (P 2) (ab_ds P) (ab_ls P) k ≤ x ∧ (ab_py (P 3) (ab_ds P) (ab_ls P) k ≤ y ∧ y < ab_py (P 3) (ab_ds P) (ab_ls P) (k + 1) ∨ ab_py (P 3) (ab_ds P) (ab_ls P) (k + 1) ≤ y ∧ y < ab_py (P 3) (ab_ds P) (ab_ls P) k)) ∧ (ab_wk (P 2) (P 3) (ab_ds P) (ab_ls P) x y k = 1 ∨ ab_wk (P 2) (P 3) (ab_ds P) (ab_ls P) x y k = -1)) ∨ (¬ (ab_px (P 2) (ab_ds P) (ab_ls P) k = ab_px (P 2) (ab_ds P) (ab_ls P) (k + 1) ∧ ab_px (P 2) (ab_ds P) (ab_ls P) k ≤ x ∧ (ab_py (P 3) (ab_ds P) (ab_ls P) k ≤ y ∧ y < ab_py (P 3) (ab_ds P) (ab_ls P) (k + 1) ∨ ab_py (P 3) (ab_ds P) (ab_ls P) (k + 1) ≤ y ∧ y < ab_py (P 3) (ab_ds P) (ab_ls P) k)) ∧ ab_wk (P 2) (P 3) (ab_ds P) (ab_ls P) x y k = 0) := by
  have w := hW.ch hk
  unfold ab_wk ab_cov
  rw [ab_py, ab_px]
  generalize ab_py (P 3) (ab_ds P) (ab_ls P) k = py
  generalize ab_px (P 2) (ab_ds P) (ab_ls P) k = px
  generalize ab_ls P k = z at w ⊢
  rcases ab_dir w.2.1 w.2.2.1 with h | h | h | h <;> rw [h] <;> simp only [ab_sy, ab_sx] <;> simp <;> (repeat' split) <;> omega
theorem ab_odx (v : Int) : ab_I (ab_od v) ^^^ 0 = ab_I (ab_od v) ∧ ab_I (ab_od v) ^^^ 1 = ab_I (ab_od (v + 1)) ∧ ab_I (ab_od v) ^^^ 1 = ab_I (ab_od (v + -1)) := by
  unfold ab_od
  by_cases h : v % 2 = 0
  · rw [if_pos h, if_neg (by omega), if_neg (by omega)]
    decide
  · rw [if_neg h, if_pos (by omega), if_pos (by omega)]
    decide
theorem ab_isIn_lp (hR : ab_MR σ 293 0 D) {s : Nat} (hs : s < 5) (hW : ab_WP (ab_sl D s)) {x y : Int} (hx0 : -1000 ≤ x) (hx1 : x ≤ 1000) (hy0 : -1000 ≤ y) (hy1 : y ≤ 1000) : ∀ r k, (k + r : Nat) = ab_sl D s 4 → ∀ f, r < f → f_X10_isIn_34 σ f (ab_I s) (ab_I x) (ab_I y) (ab_I (ab_od (ab_S (ab_wk (ab_sl D s 2) (ab_sl D s 3) (ab_ds (ab_sl D s)) (ab_ls (ab_sl D s)) x y) k))) (ab_I (ab_px (ab_sl D s 2) (ab_ds (ab_sl D s)) (ab_ls (ab_sl D s)) k)) (ab_I (ab_py (ab_sl D s 3) (ab_ds (ab_sl D s)) (ab_ls (ab_sl D s)) k)) (ab_I k) = some (ab_I (ab_od (ab_S (ab_wk (ab_sl D s 2) (ab_sl D s 3) (ab_ds (ab_sl D s)) (ab_ls (ab_sl D s)) x y) (ab_sl D s 4).toNat))) := by
  have sv4 := (ab_svn hR hs).2.2.2.2
  have hway := fun (k : Nat) (hk : k < 16) => ab_way hR hs hk
  have hlen := fun (k : Nat) (hk : k < 16) => ab_len hR hs hk
  generalize ab_sl D s = P at hW sv4 hway hlen ⊢
  have h4 := hW.2.2.2.2.2.1
  have od01 : ∀ v : Int, ab_I (ab_od v) = 0 ∨ ab_I (ab_od v) = 1 := by
    intro v
    unfold ab_od
    split
    · exact Or.inl rfl
    · exact Or.inr rfl
  intro r
  induction r with
  | zero =>
    intro k hk f hf
    obtain ⟨f, rfl⟩ : ∃ g, f = g + 1 := ⟨f - 1, by omega⟩
    rw [f_X10_isIn_34, sv4, Option.bind_some, if_pos (by rw [ab_Ile (by omega) (by omega) (by omega) (by omega)]; omega), show (P 4).toNat = k by omega, if_pos (od01 _)]
  | succ r ih =>
    intro k hk f hf
    obtain ⟨f, rfl⟩ : ∃ g, f = g + 1 := ⟨f - 1, by omega⟩
    have w := hW.ch (k := k) (by omega)
    have p0 := hW.pos w.1 (k := k) (by omega)
    have p1 := hW.pos w.1 (k := k + 1) (by omega)
    have hcs := ab_wk_cases hW (k := k) (by omega) x y
    have ihk := ih (k + 1) (by omega) f (by omega)
    rw [f_X10_isIn_34, sv4, Option.bind_some, if_neg (by rw [ab_Ile (by omega) (by omega) (by omega) (by omega)]; omega), hlen k (by omega), Option.bind_some, hway k (by omega), Option.bind_some, Option.bind_some, Option.bind_some]
    have hx' : ab_I (ab_px (P 2) (ab_ds P) (ab_ls P) k) + ab_I (ab_ls P k) * f_X10_stepX (ab_I (ab_ds P k)) = ab_I (ab_px (P 2) (ab_ds P) (ab_ls P) (k + 1)) := by rw [ab_rstepX w.2.1 w.2.2.1, ab_Imul, ab_Iadd, Int.mul_comm]; rfl
    have hy' : ab_I (ab_py (P 3) (ab_ds P) (ab_ls P) k) + ab_I (ab_ls P k) * f_X10_stepY (ab_I (ab_ds P k)) = ab_I (ab_py (P 3) (ab_ds P) (ab_ls P) (k + 1)) := by rw [ab_rstepY w.2.1 w.2.2.1, ab_Imul, ab_Iadd, Int.mul_comm]; rfl
    simp only [hx', hy', ab_I1]
    unfold f_X10_isIn_118
    simp only [ab_I1]
    have hS : ab_S (ab_wk (P 2) (P 3) (ab_ds P) (ab_ls P) x y) (k + 1) = ab_S (ab_wk (P 2) (P 3) (ab_ds P) (ab_ls P) x y) k + ab_wk (P 2) (P 3) (ab_ds P) (ab_ls P) x y k := rfl
    rw [hS] at ihk
    generalize ab_S (ab_wk (P 2) (P 3) (ab_ds P) (ab_ls P) x y) k = A at ihk ⊢
    generalize ab_wk (P 2) (P 3) (ab_ds P) (ab_ls P) x y k = B at ihk hcs ⊢
    have o := ab_odx A
    have same : B = 0 → f_X10_isIn_34 σ f (ab_I s) (ab_I x) (ab_I y) (ab_I (ab_od A) ^^^ 0) (ab_I (ab_px (P 2) (ab_ds P) (ab_ls P) (k + 1))) (ab_I (ab_py (P 3) (ab_ds P) (ab_ls P) (k + 1))) (ab_I ((k + 1 : Nat) : Int)) = some (ab_I (ab_od (ab_S (ab_wk (P 2) (P 3) (ab_ds P) (ab_ls P) x y) (P 4).toNat))) := by
      intro hB
      rw [hB, Int.add_zero] at ihk
      rw [o.1]
      exact ihk
    have flip : B = 1 ∨ B = -1 → f_X10_isIn_34 σ f (ab_I s) (ab_I x) (ab_I y) (ab_I (ab_od A) ^^^ 1) (ab_I (ab_px (P 2) (ab_ds P) (ab_ls P) (k + 1))) (ab_I (ab_py (P 3) (ab_ds P) (ab_ls P) (k + 1))) (ab_I ((k + 1 : Nat) : Int)) = some (ab_I (ab_od (ab_S (ab_wk (P 2) (P 3) (ab_ds P) (ab_ls P) x y) (P 4).toNat))) := by
      intro hB
      rcases hB with hB | hB <;> rw [hB] at ihk
      · rw [o.2.1]; exact ihk
      · rw [o.2.2]; exact ihk
    generalize ab_px (P 2) (ab_ds P) (ab_ls P) k = px at hcs p0 ⊢
    generalize ab_py (P 3) (ab_ds P) (ab_ls P) k = py at hcs p0 ⊢
    generalize ab_px (P 2) (ab_ds P) (ab_ls P) (k + 1) = px' at hcs p1 same flip ⊢
    generalize ab_py (P 3) (ab_ds P) (ab_ls P) (k + 1) = py' at hcs p1 same flip ⊢
    simp only [ab_Ieq (a := px) (b := px') (by omega) (by omega) (by omega) (by omega), ab_Ilt (a := x) (b := px) (by omega) (by omega) (by omega) (by omega), ab_Ilt (a := y) (b := py) (by omega) (by omega) (by omega) (by omega), ab_Ilt (a := y) (b := py') (by omega) (by omega) (by omega) (by omega), ab_Ile (a := py) (b := y) (by omega) (by omega) (by omega) (by omega)]
    (repeat' split) <;> first | (refine same ?_; omega) | (refine flip ?_; omega)
theorem ab_isIn (hR : ab_MR σ 293 0 D) {s : Nat} (hs : s < 5) (hW : ab_WP (ab_sl D s)) {x y : Int} (hx0 : -1000 ≤ x) (hx1 : x ≤ 1000) (hy0 : -1000 ≤ y) (hy1 : y ≤ 1000) : f_X10_isIn σ (ab_I s) (ab_I x) (ab_I y) = some (ab_I (ab_inP (ab_sl D s) x y)) := by
  have h4 := hW.2.2.2.2.2.1
  have h5 := hW.2.2.2.2.1
  unfold f_X10_isIn ab_inP
  rw [(ab_svn hR hs).2.1, Option.bind_some]
  by_cases h2 : ab_sl D s 1 = 2
  · rw [if_pos h2, if_pos (by rw [h2]; rfl), (ab_svn hR hs).2.2.1, Option.bind_some, (ab_svn hR hs).2.2.2.1, Option.bind_some]
    exact ab_isIn_lp hR hs hW hx0 hx1 hy0 hy1 (ab_sl D s 4).toNat 0 (by omega) q_fu (by unfold q_fu; omega)
  · rw [if_neg h2, if_neg (by rw [show (2 : Int32) = ab_I 2 from rfl, ab_Ieq (by have := hW.2.2.1; omega) (by have := hW.2.2.2.1; omega) (by omega) (by omega)]; exact h2)]
    rfl
end
