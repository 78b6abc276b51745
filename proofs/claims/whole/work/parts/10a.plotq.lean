/-! what the plots answer, by their numbers -/
/-- the lesser, the greater -/
def ab_mn (a b : Int) : Int := if b < a then b else a
def ab_mx (a b : Int) : Int := if a < b then b else a
theorem ab_mn_b {a b M : Int} (h0 : 0 ≤ a) (h1 : a ≤ M) (h2 : 0 ≤ b) (h3 : b ≤ M) : 0 ≤ ab_mn a b ∧ ab_mn a b ≤ M := by unfold ab_mn; split <;> omega
theorem ab_mx_b {a b M : Int} (h0 : 0 ≤ a) (h1 : a ≤ M) (h2 : 0 ≤ b) (h3 : b ≤ M) : 0 ≤ ab_mx a b ∧ ab_mx a b ≤ M := by unfold ab_mx; split <;> omega
section
variable {σ : q_S} {c : Nat} {P : Nat → Int}
theorem ab_dir_at (h : ab_CP σ c P) (hW : ab_WP P) {k : Nat} (hk : (k : Int) < P 4) : f_X6_directionOf σ c (ab_I k) = ab_I (ab_ds P k) ∧ f_X6_lengthOf σ c (ab_I k) = ab_I (ab_ls P k) := by
  have h4 := hW.2.2.2.2.2.1
  unfold f_X6_directionOf f_X6_lengthOf
  rw [ab_at (by omega) (by omega), ab_at (by omega) (by omega)]
  exact h.2.2.2.2 k hk
/-- what is known of the chains of a plot that there is -/
theorem ab_WP.ch (hW : ab_WP P) {k : Nat} (hk : (k : Int) < P 4) : 1 ≤ P 1 ∧ 0 ≤ ab_ds P k ∧ ab_ds P k ≤ 3 ∧ 1 ≤ ab_ls P k ∧ ab_ls P k ≤ 9 := by
  obtain ⟨w1, w2, w3, w4, w5, w6, w7, w8⟩ := hW
  have h1 : 1 ≤ P 1 := by
    rcases (show P 1 = 0 ∨ 1 ≤ P 1 by omega) with h | h
    · have := w7 h; omega
    · exact h
  exact ⟨h1, (w8 h1).1 k (by omega)⟩
theorem ab_WP.pos (hW : ab_WP P) (h1 : 1 ≤ P 1) {k : Nat} (hk : (k : Int) ≤ P 4) : 0 ≤ ab_px (P 2) (ab_ds P) (ab_ls P) k ∧ ab_px (P 2) (ab_ds P) (ab_ls P) k ≤ 12 ∧ 0 ≤ ab_py (P 3) (ab_ds P) (ab_ls P) k ∧ ab_py (P 3) (ab_ds P) (ab_ls P) k ≤ 8 := by
  obtain ⟨w1, w2, w3, w4, w5, w6, w7, w8⟩ := hW
  exact (w8 h1).2.1 k (by omega)
/-- one step of a sum along the chains -/
theorem ab_stepX_at (h : ab_CP σ c P) (hW : ab_WP P) {k : Nat} (hk : (k : Int) < P 4) : f_X9_stepX (f_X6_directionOf σ c (ab_I k)) * f_X6_lengthOf σ c (ab_I k) = ab_I (ab_sx (ab_ds P k) * ab_ls P k) := by
  have w := hW.ch hk
  rw [(ab_dir_at h hW hk).1, (ab_dir_at h hW hk).2, ab_stepX w.2.1 w.2.2.1, ab_Imul]
theorem ab_stepY_at (h : ab_CP σ c P) (hW : ab_WP P) {k : Nat} (hk : (k : Int) < P 4) : f_X9_stepY (f_X6_directionOf σ c (ab_I k)) * f_X6_lengthOf σ c (ab_I k) = ab_I (ab_sy (ab_ds P k) * ab_ls P k) := by
  have w := hW.ch hk
  rw [(ab_dir_at h hW hk).1, (ab_dir_at h hW hk).2, ab_stepY w.2.1 w.2.2.1, ab_Imul]
theorem ab_I1 (k : Nat) : ab_I k + 1 = ab_I ((k + 1 : Nat) : Int) := by
  rw [show (1 : Int32) = ab_I 1 from rfl, ab_Iadd, Int.natCast_add, Int.natCast_one]
theorem ab_startX_lp (h : ab_CP σ c P) (hW : ab_WP P) {m : Nat} (hm : (m : Int) ≤ P 4) : ∀ r k, k + r = m → ∀ f, r < f → f_X6_startX_7 c σ f (ab_I m) (ab_I (ab_px (P 2) (ab_ds P) (ab_ls P) k)) (ab_I k) = some (ab_I (ab_px (P 2) (ab_ds P) (ab_ls P) m)) := by
  have h4 := hW.2.2.2.2.2.1
  intro r
  induction r with
  | zero =>
    intro k hk f hf
    obtain ⟨f, rfl⟩ : ∃ g, f = g + 1 := ⟨f - 1, by omega⟩
    rw [f_X6_startX_7, if_pos (by rw [ab_Ile (by omega) (by omega) (by omega) (by omega)]; omega), show k = m by omega]
  | succ r ih =>
    intro k hk f hf
    obtain ⟨f, rfl⟩ : ∃ g, f = g + 1 := ⟨f - 1, by omega⟩
    rw [f_X6_startX_7, if_neg (by rw [ab_Ile (by omega) (by omega) (by omega) (by omega)]; omega), h.2.2.1, if_neg (by rw [ab_Ile (by omega) (by omega) (by omega) (by omega)]; omega), ab_stepX_at h hW (by omega), ab_Iadd, ab_I1]
    exact ih (k + 1) (by omega) f (by omega)
theorem ab_startY_lp (h : ab_CP σ c P) (hW : ab_WP P) {m : Nat} (hm : (m : Int) ≤ P 4) : ∀ r k, k + r = m → ∀ f, r < f → f_X6_startY_7 c σ f (ab_I m) (ab_I (ab_py (P 3) (ab_ds P) (ab_ls P) k)) (ab_I k) = some (ab_I (ab_py (P 3) (ab_ds P) (ab_ls P) m)) := by
  have h4 := hW.2.2.2.2.2.1
  intro r
  induction r with
  | zero =>
    intro k hk f hf
    obtain ⟨f, rfl⟩ : ∃ g, f = g + 1 := ⟨f - 1, by omega⟩
    rw [f_X6_startY_7, if_pos (by rw [ab_Ile (by omega) (by omega) (by omega) (by omega)]; omega), show k = m by omega]
  | succ r ih =>
    intro k hk f hf
    obtain ⟨f, rfl⟩ : ∃ g, f = g + 1 := ⟨f - 1, by omega⟩
    rw [f_X6_startY_7, if_neg (by rw [ab_Ile (by omega) (by omega) (by omega) (by omega)]; omega), h.2.2.1, if_neg (by rw [ab_Ile (by omega) (by omega) (by omega) (by omega)]; omega), ab_stepY_at h hW (by omega), ab_Iadd, ab_I1]
    exact ih (k + 1) (by omega) f (by omega)
theorem ab_startX (h : ab_CP σ c P) (hW : ab_WP P) (h1 : 1 ≤ P 1) {m : Nat} (hm : (m : Int) ≤ P 4) : f_X6_startX σ c (ab_I m) = some (ab_I (ab_px (P 2) (ab_ds P) (ab_ls P) m)) := by
  have h4 := hW.2.2.2.2.2.1
  unfold f_X6_startX
  rw [(h.2.2.2.1 h1).1]
  exact ab_startX_lp h hW hm m 0 (by omega) q_fu (by unfold q_fu; omega)
theorem ab_startY (h : ab_CP σ c P) (hW : ab_WP P) (h1 : 1 ≤ P 1) {m : Nat} (hm : (m : Int) ≤ P 4) : f_X6_startY σ c (ab_I m) = some (ab_I (ab_py (P 3) (ab_ds P) (ab_ls P) m)) := by
  have h4 := hW.2.2.2.2.2.1
  unfold f_X6_startY
  rw [(h.2.2.2.1 h1).2.1]
  exact ab_startY_lp h hW hm m 0 (by omega) q_fu (by unfold q_fu; omega)
/-- the area by the chains -/
def ab_ar (P : Nat → Int) : Int := if P 1 = 2 then (if 0 ≤ ab_S (fun k => ab_sx (ab_ds P k) * ab_ls P k * ab_py (P 3) (ab_ds P) (ab_ls P) k) (P 4).toNat then ab_S (fun k => ab_sx (ab_ds P k) * ab_ls P k * ab_py (P 3) (ab_ds P) (ab_ls P) k) (P 4).toNat else - ab_S (fun k => ab_sx (ab_ds P k) * ab_ls P k * ab_py (P 3) (ab_ds P) (ab_ls P) k) (P 4).toNat) else 0
theorem ab_ar_term (hW : ab_WP P) {k : Nat} (hk : (k : Int) < P 4) : -72 ≤ ab_sx (ab_ds P k) * ab_ls P k * ab_py (P 3) (ab_ds P) (ab_ls P) k ∧ ab_sx (ab_ds P k) * ab_ls P k * ab_py (P 3) (ab_ds P) (ab_ls P) k ≤ 72 := by
  have w := hW.ch hk
  have p := hW.pos w.1 (k := k) (by omega)
  generalize ab_py (P 3) (ab_ds P) (ab_ls P) k = y at p ⊢
  generalize ab_ls P k = z at w ⊢
  have h1 : 0 ≤ z * y := Int.mul_nonneg (by omega) (by omega)
  have h2 : z * y ≤ 9 * 8 := Int.mul_le_mul (by omega) (by omega) (by omega) (by omega)
  rcases ab_dir w.2.1 w.2.2.1 with h | h | h | h <;> rw [h] <;> simp [ab_sx, Int.neg_mul] <;> omega
theorem ab_ar_sum (hW : ab_WP P) {k : Nat} (hk : (k : Int) ≤ P 4) : -2000 ≤ ab_S (fun k => ab_sx (ab_ds P k) * ab_ls P k * ab_py (P 3) (ab_ds P) (ab_ls P) k) k ∧ ab_S (fun k => ab_sx (ab_ds P k) * ab_ls P k * ab_py (P 3) (ab_ds P) (ab_ls P) k) k ≤ 2000 := by
  have h4 := hW.2.2.2.2.2.1
  have h1 := ab_S_le (f := fun k => ab_sx (ab_ds P k) * ab_ls P k * ab_py (P 3) (ab_ds P) (ab_ls P) k) (n := k) (c := 72) (fun j hj => (ab_ar_term hW (by omega)).2)
  have h2 := ab_S_le (f := fun k => - (ab_sx (ab_ds P k) * ab_ls P k * ab_py (P 3) (ab_ds P) (ab_ls P) k)) (n := k) (c := 72) (fun j hj => by have := (ab_ar_term hW (k := j) (by omega)).1; omega)
  rw [ab_S_neg] at h2
  omega
theorem ab_area_lp (h : ab_CP σ c P) (hW : ab_WP P) : ∀ r k, (k + r : Nat) = P 4 → ∀ f, r < f → f_X6_areaByChains_18 c σ f (ab_I (ab_S (fun k => ab_sx (ab_ds P k) * ab_ls P k * ab_py (P 3) (ab_ds P) (ab_ls P) k) k)) (ab_I (ab_py (P 3) (ab_ds P) (ab_ls P) k)) (ab_I k) = some (ab_I (if 0 ≤ ab_S (fun k => ab_sx (ab_ds P k) * ab_ls P k * ab_py (P 3) (ab_ds P) (ab_ls P) k) (P 4).toNat then ab_S (fun k => ab_sx (ab_ds P k) * ab_ls P k * ab_py (P 3) (ab_ds P) (ab_ls P) k) (P 4).toNat else - ab_S (fun k => ab_sx (ab_ds P k) * ab_ls P k * ab_py (P 3) (ab_ds P) (ab_ls P) k) (P 4).toNat)) := by
  have h4 := hW.2.2.2.2.2.1
  intro r
  induction r with
  | zero =>
    intro k hk f hf
    obtain ⟨f, rfl⟩ : ∃ g, f = g + 1 := ⟨f - 1, by omega⟩
    rw [f_X6_areaByChains_18, h.2.2.1, if_pos (by rw [ab_Ile (by omega) (by omega) (by omega) (by omega)]; omega), show (P 4).toNat = k by omega]
    have hs := ab_ar_sum hW (k := k) (by omega)
    generalize ab_S (fun k => ab_sx (ab_ds P k) * ab_ls P k * ab_py (P 3) (ab_ds P) (ab_ls P) k) k = A at hs ⊢
    rw [show (0 : Int32) = ab_I 0 from rfl, ab_Isub]
    by_cases hA : 0 ≤ A
    · rw [if_pos (by rw [ab_Ile (by omega) (by omega) (by omega) (by omega)]; exact hA), if_pos hA]
    · rw [if_neg (by rw [ab_Ile (by omega) (by omega) (by omega) (by omega)]; exact hA), if_neg hA, show 0 - A = - A by omega]
  | succ r ih =>
    intro k hk f hf
    obtain ⟨f, rfl⟩ : ∃ g, f = g + 1 := ⟨f - 1, by omega⟩
    rw [f_X6_areaByChains_18, h.2.2.1, if_neg (by rw [ab_Ile (by omega) (by omega) (by omega) (by omega)]; omega), ab_stepX_at h hW (by omega), ab_stepY_at h hW (by omega), ab_Imul, ab_Iadd, ab_Iadd, ab_I1]
    exact ih (k + 1) (by omega) f (by omega)
theorem ab_areaByChains (h : ab_CP σ c P) (hW : ab_WP P) : f_X6_areaByChains σ c = some (ab_I (ab_ar P)) := by
  have h4 := hW.2.2.2.2.2.1
  have h5 := hW.2.2.2.2.1
  unfold f_X6_areaByChains ab_ar
  rw [h.2.1]
  by_cases h2 : P 1 = 2
  · rw [if_pos h2, if_pos h2, if_neg (by decide), (h.2.2.2.1 (by omega)).2.1]
    exact ab_area_lp h hW (P 4).toNat 0 (by omega) q_fu (by unfold q_fu; omega)
  · rw [if_neg h2, if_neg h2, if_pos (by decide)]
    rfl
/-- whether a cell is inside, by the crossings to its west or to its east -/
def ab_inP (P : Nat → Int) (x y : Int) : Int := if P 1 = 2 then ab_in (P 2) (P 3) (ab_ds P) (ab_ls P) (P 4).toNat x y else 0
theorem ab_ek_cases (hW : ab_WP P) {k : Nat} (hk : (k : Int) < P 4) (x y : Int) : (ab_px (P 2) (ab_ds P) (ab_ls P) k ≤ x ∨ y < ab_mn (ab_py (P 3) (ab_ds P) (ab_ls P) k) (ab_py (P 3) (ab_ds P) (ab_ls P) (k + 1)) ∨ ab_mx (ab_py (P 3) (ab_ds P) (ab_ls P) k) (ab_py (P 3) (ab_ds P) (ab_ls P) (k + 1)) ≤ y) ∧ ab_ek (P 2) (P 3) (ab_ds P) (ab_ls P) x y k = 0 ∨ (¬ (ab_px (P 2) (ab_ds P) (ab_ls P) k ≤ x ∨ y < ab_mn (ab_py (P 3) (ab_ds P) (ab_ls P) k) (ab_py (P 3) (ab_ds P) (ab_ls P) (k + 1)) ∨ ab_mx (ab_py (P 3) (ab_ds P) (ab_ls P) k) (ab_py (P 3) (ab_ds P) (ab_ls P) (k + 1)) ≤ y)) ∧ (ab_ek (P 2) (P 3) (ab_ds P) (ab_ls P) x y k = 1 ∨ ab_ek (P 2) (P 3) (ab_ds P) (ab_ls P) x y k = -1) := by
  have w := hW.ch hk
  unfold ab_ek ab_cov ab_mn ab_mx
  rw [ab_py]
  generalize ab_py (P 3) (ab_ds P) (ab_ls P) k = py
  generalize ab_px (P 2) (ab_ds P) (ab_ls P) k = px
  generalize ab_ls P k = z at w ⊢
  rcases ab_dir w.2.1 w.2.2.1 with h | h | h | h <;> rw [h] <;> simp only [ab_sy] <;> simp <;> (repeat' split) <;> omega
end
theorem ab_Ite {p : Prop} [Decidable p] {a b : Int} : (if p then ab_I a else ab_I b) = ab_I (if p then a else b) := by split <;> rfl
theorem ab_Imin {a b : Int} (ha0 : -2147483648 ≤ a) (ha1 : a ≤ 2147483647) (hb0 : -2147483648 ≤ b) (hb1 : b ≤ 2147483647) : (if ab_I a < ab_I b then ab_I a else ab_I b) = ab_I (ab_mn b a) := by
  unfold ab_mn
  by_cases h : a < b
  · rw [if_pos h, if_pos ((ab_Ilt ha0 ha1 hb0 hb1).mpr h)]
  · rw [if_neg h, if_neg (fun z => h ((ab_Ilt ha0 ha1 hb0 hb1).mp z))]
theorem ab_Imax {a b : Int} (ha0 : -2147483648 ≤ a) (ha1 : a ≤ 2147483647) (hb0 : -2147483648 ≤ b) (hb1 : b ≤ 2147483647) : (if ab_I a < ab_I b then ab_I b else ab_I a) = ab_I (ab_mx a b) := by
  unfold ab_mx
  by_cases h : a < b
  · rw [if_pos h, if_pos ((ab_Ilt ha0 ha1 hb0 hb1).mpr h)]
  · rw [if_neg h, if_neg (fun z => h ((ab_Ilt ha0 ha1 hb0 hb1).mp z))]
/-- odd or not, as 1 or 0 -/
def ab_od (v : Int) : Int := if v % 2 = 0 then 0 else 1
section
variable {σ : q_S} {c : Nat} {P : Nat → Int}
theorem ab_holds_lp (h : ab_CP σ c P) (hW : ab_WP P) {x y : Int} (hx0 : -1000 ≤ x) (hx1 : x ≤ 1000) (hy0 : -1000 ≤ y) (hy1 : y ≤ 1000) : ∀ r k, (k + r : Nat) = P 4 → ∀ f, r < f → f_X6_holds_26 c σ f (ab_I x) (ab_I y) (ab_I (ab_od (ab_S (ab_ek (P 2) (P 3) (ab_ds P) (ab_ls P) x y) k))) (ab_I (ab_px (P 2) (ab_ds P) (ab_ls P) k)) (ab_I (ab_py (P 3) (ab_ds P) (ab_ls P) k)) (ab_I k) = some (ab_I (ab_od (ab_S (ab_ek (P 2) (P 3) (ab_ds P) (ab_ls P) x y) (P 4).toNat))) := by
  have h4 := hW.2.2.2.2.2.1
  have od01 : ∀ v : Int, ab_I (ab_od v) = 0 ∨ ab_I (ab_od v) = 1 := by
    intro v
    unfold ab_od
    split
    · exact Or.inl rfl
    · exact Or.inr rfl
  intro r
  induction r with
  | zero =>
    intro k hk f hf
    obtain ⟨f, rfl⟩ : ∃ g, f = g + 1 := ⟨f - 1, by omega⟩
    rw [f_X6_holds_26, h.2.2.1, if_pos (by rw [ab_Ile (by omega) (by omega) (by omega) (by omega)]; omega), show (P 4).toNat = k by omega, if_pos (od01 _)]
  | succ r ih =>
    intro k hk f hf
    obtain ⟨f, rfl⟩ : ∃ g, f = g + 1 := ⟨f - 1, by omega⟩
    have w := hW.ch (k := k) (by omega)
    have p0 := hW.pos w.1 (k := k) (by omega)
    have p1 := hW.pos w.1 (k := k + 1) (by omega)
    have hcs := ab_ek_cases hW (k := k) (by omega) x y
    have hsx := ab_stepX_at h hW (k := k) (by omega)
    have hsy := ab_stepY_at h hW (k := k) (by omega)
    have hy' : ab_I (ab_py (P 3) (ab_ds P) (ab_ls P) k) + f_X9_stepY (f_X6_directionOf σ c (ab_I k)) * f_X6_lengthOf σ c (ab_I k) = ab_I (ab_py (P 3) (ab_ds P) (ab_ls P) (k + 1)) := by rw [hsy, ab_Iadd]; rfl
    have fin : ∀ v, v = ab_I (ab_od (ab_S (ab_ek (P 2) (P 3) (ab_ds P) (ab_ls P) x y) (k + 1))) → f_X6_holds_94 c σ (f_X6_holds_26 c σ f) (ab_I x) (ab_I y) v (ab_I (ab_px (P 2) (ab_ds P) (ab_ls P) k)) (ab_I k) (ab_I (ab_py (P 3) (ab_ds P) (ab_ls P) (k + 1))) = some (ab_I (ab_od (ab_S (ab_ek (P 2) (P 3) (ab_ds P) (ab_ls P) x y) (P 4).toNat))) := by
      intro v hv
      subst hv
      unfold f_X6_holds_94
      rw [hsx, ab_Iadd, ab_I1]
      exact ih (k + 1) (by omega) f (by omega)
    rw [f_X6_holds_26, h.2.2.1, if_neg (by rw [ab_Ile (by omega) (by omega) (by omega) (by omega)]; omega)]
    simp only [hy']
    rw [ab_Imin (by omega) (by omega) (by omega) (by omega), ab_Imax (by omega) (by omega) (by omega) (by omega)]
    have hS : ab_S (ab_ek (P 2) (P 3) (ab_ds P) (ab_ls P) x y) (k + 1) = ab_S (ab_ek (P 2) (P 3) (ab_ds P) (ab_ls P) x y) k + ab_ek (P 2) (P 3) (ab_ds P) (ab_ls P) x y k := rfl
    rw [hS] at fin
    generalize ab_S (ab_ek (P 2) (P 3) (ab_ds P) (ab_ls P) x y) k = A at fin hS ⊢
    generalize ab_ek (P 2) (P 3) (ab_ds P) (ab_ls P) x y k = B at fin hS hcs ⊢
    by_cases c1 : ab_px (P 2) (ab_ds P) (ab_ls P) k ≤ x
    · rw [if_pos (by rw [ab_Ile (by omega) (by omega) (by omega) (by omega)]; exact c1)]
      exact fin _ (by rw [show B = 0 by omega, Int.add_zero])
    rw [if_neg (by rw [ab_Ile (by omega) (by omega) (by omega) (by omega)]; exact c1)]
    have hmn : 0 ≤ ab_mn (ab_py (P 3) (ab_ds P) (ab_ls P) k) (ab_py (P 3) (ab_ds P) (ab_ls P) (k + 1)) ∧ ab_mn (ab_py (P 3) (ab_ds P) (ab_ls P) k) (ab_py (P 3) (ab_ds P) (ab_ls P) (k + 1)) ≤ 8 := ab_mn_b (by omega) (by omega) (by omega) (by omega)
    have hmx : 0 ≤ ab_mx (ab_py (P 3) (ab_ds P) (ab_ls P) k) (ab_py (P 3) (ab_ds P) (ab_ls P) (k + 1)) ∧ ab_mx (ab_py (P 3) (ab_ds P) (ab_ls P) k) (ab_py (P 3) (ab_ds P) (ab_ls P) (k + 1)) ≤ 8 := ab_mx_b (by omega) (by omega) (by omega) (by omega)
    generalize ab_mn (ab_py (P 3) (ab_ds P) (ab_ls P) k) (ab_py (P 3) (ab_ds P) (ab_ls P) (k + 1)) = mn at hcs hmn ⊢
    generalize ab_mx (ab_py (P 3) (ab_ds P) (ab_ls P) k) (ab_py (P 3) (ab_ds P) (ab_ls P) (k + 1)) = mx at hcs hmx ⊢
    by_cases c2 : y < mn
    · rw [if_pos (by rw [ab_Ilt (by omega) (by omega) (by omega) (by omega)]; exact c2)]
      exact fin _ (by rw [show B = 0 by omega, Int.add_zero])
    rw [if_neg (by rw [ab_Ilt (by omega) (by omega) (by omega) (by omega)]; exact c2)]
    by_cases c3 : mx ≤ y
    · rw [if_pos (by rw [ab_Ile (by omega) (by omega) (by omega) (by omega)]; exact c3)]
      exact fin _ (by rw [show B = 0 by omega, Int.add_zero])
    rw [if_neg (by rw [ab_Ile (by omega) (by omega) (by omega) (by omega)]; exact c3)]
    have hB : B = 1 ∨ B = -1 := by omega
    by_cases hz : A % 2 = 0
    · rw [if_pos (show ab_I (ab_od A) = 0 by unfold ab_od; rw [if_pos hz]; rfl)]
      exact fin 1 (by unfold ab_od; rw [if_neg (by omega)]; rfl)
    · rw [if_neg (show ¬ ab_I (ab_od A) = 0 by unfold ab_od; rw [if_neg hz]; decide)]
      exact fin 0 (by unfold ab_od; rw [if_pos (by omega)]; rfl)
theorem ab_holds (h : ab_CP σ c P) (hW : ab_WP P) {x y : Int} (hx0 : -1000 ≤ x) (hx1 : x ≤ 1000) (hy0 : -1000 ≤ y) (hy1 : y ≤ 1000) : f_X6_holds σ c (ab_I x) (ab_I y) = some (ab_I (ab_inP P x y)) := by
  have h4 := hW.2.2.2.2.2.1
  have h5 := hW.2.2.2.2.1
  unfold f_X6_holds ab_inP
  rw [h.2.1]
  by_cases h2 : P 1 = 2
  · rw [if_pos h2, if_pos h2, if_neg (by decide), (h.2.2.2.1 (by omega)).1, (h.2.2.2.1 (by omega)).2.1]
    have h1 := ab_holds_lp h hW hx0 hx1 hy0 hy1 (P 4).toNat 0 (by omega) q_fu (by unfold q_fu; omega)
    have hWt : ab_W (P 2) (P 3) (P 4).toNat (ab_ds P) (ab_ls P) True := by
      have := hW.2.2.2.2.2.2.2 (by omega)
      rw [eq_true h2] at this
      exact this
    rw [ab_east hWt] at h1
    refine h1.trans ?_
    unfold ab_od ab_in
    congr 2
    (repeat' split) <;> omega
  · rw [if_neg h2, if_neg h2, if_pos (by decide)]
    rfl
/-- whether the chain i goes over a corner, its ends included -/
def ab_on (P : Nat → Int) (x y : Int) (i : Nat) : Bool :=
  decide (ab_mn (ab_px (P 2) (ab_ds P) (ab_ls P) i) (ab_px (P 2) (ab_ds P) (ab_ls P) (i + 1)) ≤ x ∧ x ≤ ab_mx (ab_px (P 2) (ab_ds P) (ab_ls P) i) (ab_px (P 2) (ab_ds P) (ab_ls P) (i + 1))) &&
  decide (ab_mn (ab_py (P 3) (ab_ds P) (ab_ls P) i) (ab_py (P 3) (ab_ds P) (ab_ls P) (i + 1)) ≤ y ∧ y ≤ ab_mx (ab_py (P 3) (ab_ds P) (ab_ls P) i) (ab_py (P 3) (ab_ds P) (ab_ls P) (i + 1)))
def ab_any (p : Nat → Bool) : Nat → Nat → Bool
  | _, 0 => false
  | k, r + 1 => p k || ab_any p (k + 1) r
theorem ab_any_iff {p : Nat → Bool} {k r : Nat} : ab_any p k r = true ↔ ∃ i, k ≤ i ∧ i < k + r ∧ p i = true := by
  induction r generalizing k with
  | zero =>
    refine ⟨fun h => (by cases h), fun ⟨i, h1, h2, _⟩ => by omega⟩
  | succ r ih =>
    rw [ab_any, Bool.or_eq_true, ih]
    constructor
    · rintro (h | ⟨i, h1, h2, h3⟩)
      · exact ⟨k, Nat.le_refl _, by omega, h⟩
      · exact ⟨i, by omega, by omega, h3⟩
    · rintro ⟨i, h1, h2, h3⟩
      by_cases hik : i = k
      · subst hik; exact Or.inl h3
      · exact Or.inr ⟨i, by omega, by omega, h3⟩
/-- .. the plot, but for the chain m -/
def ab_go (P : Nat → Int) (x y m : Int) : Bool := ab_any (fun i => ab_on P x y i && decide ((i : Int) ≠ m)) 0 (P 4).toNat
def ab_b (b : Bool) : Int := if b = true then 1 else 0
theorem ab_goes_lp (h : ab_CP σ c P) (hW : ab_WP P) {x y m : Int} (hx0 : -1000 ≤ x) (hx1 : x ≤ 1000) (hy0 : -1000 ≤ y) (hy1 : y ≤ 1000) (hm0 : -1000 ≤ m) (hm1 : m ≤ 1000) : ∀ r k, (k + r : Nat) = P 4 → ∀ f, r < f → f_X6_goesOver_15 c σ f (ab_I x) (ab_I y) (ab_I m) (ab_I (ab_px (P 2) (ab_ds P) (ab_ls P) k)) (ab_I (ab_py (P 3) (ab_ds P) (ab_ls P) k)) (ab_I k) = some (ab_I (ab_b (ab_any (fun i => ab_on P x y i && decide ((i : Int) ≠ m)) k r))) := by
  have h4 := hW.2.2.2.2.2.1
  intro r
  induction r with
  | zero =>
    intro k hk f hf
    obtain ⟨f, rfl⟩ : ∃ g, f = g + 1 := ⟨f - 1, by omega⟩
    rw [f_X6_goesOver_15, h.2.2.1, if_pos (by rw [ab_Ile (by omega) (by omega) (by omega) (by omega)]; omega)]
    rfl
  | succ r ih =>
    intro k hk f hf
    obtain ⟨f, rfl⟩ : ∃ g, f = g + 1 := ⟨f - 1, by omega⟩
    have w := hW.ch (k := k) (by omega)
    have p0 := hW.pos w.1 (k := k) (by omega)
    have p1 := hW.pos w.1 (k := k + 1) (by omega)
    have hx' : ab_I (ab_px (P 2) (ab_ds P) (ab_ls P) k) + f_X9_stepX (f_X6_directionOf σ c (ab_I k)) * f_X6_lengthOf σ c (ab_I k) = ab_I (ab_px (P 2) (ab_ds P) (ab_ls P) (k + 1)) := by rw [ab_stepX_at h hW (by omega), ab_Iadd]; rfl
    have hy' : ab_I (ab_py (P 3) (ab_ds P) (ab_ls P) k) + f_X9_stepY (f_X6_directionOf σ c (ab_I k)) * f_X6_lengthOf σ c (ab_I k) = ab_I (ab_py (P 3) (ab_ds P) (ab_ls P) (k + 1)) := by rw [ab_stepY_at h hW (by omega), ab_Iadd]; rfl
    have ihk := ih (k + 1) (by omega) f (by omega)
    rw [f_X6_goesOver_15, h.2.2.1, if_neg (by rw [ab_Ile (by omega) (by omega) (by omega) (by omega)]; omega)]
    simp only [hx', hy']
    rw [ab_Imin (by omega) (by omega) (by omega) (by omega), ab_Imax (by omega) (by omega) (by omega) (by omega), ab_Imin (by omega) (by omega) (by omega) (by omega), ab_Imax (by omega) (by omega) (by omega) (by omega)]
    have bx0 := ab_mn_b (M := 12) p0.1 p0.2.1 p1.1 p1.2.1
    have bx1 := ab_mx_b (M := 12) p0.1 p0.2.1 p1.1 p1.2.1
    have by0 := ab_mn_b (M := 8) p0.2.2.1 p0.2.2.2 p1.2.2.1 p1.2.2.2
    have by1 := ab_mx_b (M := 8) p0.2.2.1 p0.2.2.2 p1.2.2.1 p1.2.2.2
    rw [ab_isFrom (by omega) (by omega) (by omega) (by omega) (by omega) (by omega), ab_isFrom (by omega) (by omega) (by omega) (by omega) (by omega) (by omega)]
    rw [ab_any]
    have no : ab_on P x y k = false ∨ (k : Int) = m → f_X6_goesOver_15 c σ f (ab_I x) (ab_I y) (ab_I m) (ab_I (ab_px (P 2) (ab_ds P) (ab_ls P) (k + 1))) (ab_I (ab_py (P 3) (ab_ds P) (ab_ls P) (k + 1))) (ab_I k + 1) = some (ab_I (ab_b ((ab_on P x y k && decide ((k : Int) ≠ m)) || ab_any (fun i => ab_on P x y i && decide ((i : Int) ≠ m)) (k + 1) r))) := by
      intro hno
      rw [ab_I1, show (ab_on P x y k && decide ((k : Int) ≠ m)) = false by
        rcases hno with h | h
        · rw [h]; rfl
        · rw [decide_eq_false (by omega), Bool.and_false], Bool.false_or]
      exact ihk
    unfold f_X6_goesOver_112 f_X6_goesOver_113
    rw [if_pos (show (0 : Int32) = 0 from rfl), if_neg (show ¬ (1 : Int32) = 0 by decide)]
    by_cases hX : ab_mn (ab_px (P 2) (ab_ds P) (ab_ls P) k) (ab_px (P 2) (ab_ds P) (ab_ls P) (k + 1)) ≤ x ∧ x ≤ ab_mx (ab_px (P 2) (ab_ds P) (ab_ls P) k) (ab_px (P 2) (ab_ds P) (ab_ls P) (k + 1))
    · by_cases hY : ab_mn (ab_py (P 3) (ab_ds P) (ab_ls P) k) (ab_py (P 3) (ab_ds P) (ab_ls P) (k + 1)) ≤ y ∧ y ≤ ab_mx (ab_py (P 3) (ab_ds P) (ab_ls P) k) (ab_py (P 3) (ab_ds P) (ab_ls P) (k + 1))
      · rw [if_pos hX, if_neg (by decide), if_pos hY, if_neg (by decide)]
        by_cases hm : (k : Int) = m
        · rw [if_pos (by rw [hm])]
          exact no (Or.inr hm)
        · rw [if_neg (by rw [ab_Ieq (by omega) (by omega) (by omega) (by omega)]; exact hm)]
          have hon : ab_on P x y k = true := by unfold ab_on; rw [decide_eq_true hX, decide_eq_true hY]; rfl
          rw [hon, decide_eq_true hm]
          rfl
      · rw [if_pos hX, if_neg (by decide), if_neg hY, if_pos (by decide)]
        exact no (Or.inl (by unfold ab_on; rw [decide_eq_false hY, Bool.and_false]))
    · rw [if_neg hX, if_pos (by decide)]
      exact no (Or.inl (by unfold ab_on; rw [decide_eq_false hX, Bool.false_and]))
theorem ab_goesOver (h : ab_CP σ c P) (hW : ab_WP P) (h1 : 1 ≤ P 1) {x y m : Int} (hx0 : -1000 ≤ x) (hx1 : x ≤ 1000) (hy0 : -1000 ≤ y) (hy1 : y ≤ 1000) (hm0 : -1000 ≤ m) (hm1 : m ≤ 1000) : f_X6_goesOver σ c (ab_I x) (ab_I y) (ab_I m) = some (ab_I (ab_b (ab_go P x y m))) := by
  have h4 := hW.2.2.2.2.2.1
  have h5 := hW.2.2.2.2.1
  unfold f_X6_goesOver
  rw [(h.2.2.2.1 h1).1, (h.2.2.2.1 h1).2.1]
  exact ab_goes_lp h hW hx0 hx1 hy0 hy1 hm0 hm1 (P 4).toNat 0 (by omega) q_fu (by unfold q_fu; omega)
end
