/-! sides of cells -/
/-- how many of the four cells about a cell are owned by s -/
def ab_st (D : Nat → Int) (s x y : Int) : Int := ab_S (fun d => ab_is (ab_oa D (x + ab_sx d) (y + ab_sy d)) s) 4
section
variable {σ τ : q_S} {D : Nat → Int} {B : Int}
theorem ab_sxy (d : Int) : -1 ≤ ab_sx d ∧ ab_sx d ≤ 1 ∧ -1 ≤ ab_sy d ∧ ab_sy d ≤ 1 := by
  unfold ab_sx ab_sy
  (repeat' split) <;> omega
theorem ab_sides_lp (hW : ab_WD B D) (h : ∀ y x : Nat, x < 12 → y < 8 → τ 281 (12 * y + x) = ab_I (ab_ow D x y 0)) {s x y : Int} (hs0 : -1000 ≤ s) (hs1 : s ≤ 1000) (hx0 : -100 ≤ x) (hx1 : x ≤ 100) (hy0 : -100 ≤ y) (hy1 : y ≤ 100) : ∀ r k : Nat, k + r = 4 → ∀ f, r < f → f_X0_sidesTowards_6 τ f (ab_I s) (ab_I x) (ab_I y) (ab_I (ab_S (fun d => ab_is (ab_oa D (x + ab_sx d) (y + ab_sy d)) s) k)) (ab_I k) = some (ab_I (ab_st D s x y)) := by
  intro r
  induction r with
  | zero =>
    intro k hk f hf
    obtain ⟨f, rfl⟩ : ∃ g, f = g + 1 := ⟨f - 1, by omega⟩
    have : k = 4 := by omega
    subst this
    rw [f_X0_sidesTowards_6, if_pos (show (3 : Int32) < ab_I ((4 : Nat) : Int) by decide)]
    rfl
  | succ r ih =>
    intro k hk f hf
    obtain ⟨f, rfl⟩ : ∃ g, f = g + 1 := ⟨f - 1, by omega⟩
    have hI := ih (k + 1) (by omega) f (by omega)
    have hs : ab_S (fun d => ab_is (ab_oa D (x + ab_sx d) (y + ab_sy d)) s) (k + 1) = ab_S (fun d => ab_is (ab_oa D (x + ab_sx d) (y + ab_sy d)) s) k + ab_is (ab_oa D (x + ab_sx k) (y + ab_sy k)) s := rfl
    rw [hs] at hI
    have b := ab_sxy k
    have o := ab_oa_b hW (x + ab_sx k) (y + ab_sy k)
    rw [f_X0_sidesTowards_6, if_neg (by rw [show (3 : Int32) = ab_I 3 from rfl, ab_Ilt (by omega) (by omega) (by omega) (by omega)]; omega), ab_stepX (by omega) (by omega), ab_stepY (by omega) (by omega), ab_Iadd, ab_Iadd, ab_ownerC h (by omega) (by omega) (by omega) (by omega), ab_I1]
    by_cases q : ab_oa D (x + ab_sx k) (y + ab_sy k) = s
    · rw [show ab_is (ab_oa D (x + ab_sx k) (y + ab_sy k)) s = 1 by unfold ab_is; rw [if_pos q]] at hI
      rw [if_pos (by rw [q]), show (1 : Int32) = ab_I 1 from rfl, ab_Iadd]
      exact hI
    · rw [show ab_is (ab_oa D (x + ab_sx k) (y + ab_sy k)) s = 0 by unfold ab_is; rw [if_neg q], Int.add_zero] at hI
      rw [if_neg (by
        rcases o with o | ⟨z, z1, z2, o⟩
        · rw [o] at q ⊢; rw [ab_Ieq (by omega) (by omega) (by omega) (by omega)]; exact q
        · rw [o] at q ⊢; rw [ab_Ieq (by omega) (by omega) (by omega) (by omega)]; exact q)]
      exact hI
theorem ab_sides (hW : ab_WD B D) (h : ∀ y x : Nat, x < 12 → y < 8 → τ 281 (12 * y + x) = ab_I (ab_ow D x y 0)) {s x y : Int} (hs0 : -1000 ≤ s) (hs1 : s ≤ 1000) (hx0 : -100 ≤ x) (hx1 : x ≤ 100) (hy0 : -100 ≤ y) (hy1 : y ≤ 100) : f_X0_sidesTowards τ (ab_I s) (ab_I x) (ab_I y) = some (ab_I (ab_st D s x y)) := by
  unfold f_X0_sidesTowards
  exact ab_sides_lp hW h hs0 hs1 hx0 hx1 hy0 hy1 4 0 (by decide) q_fu (by unfold q_fu; omega)
/-- the open sides of a cell of s -/
def ab_os (D : Nat → Int) (s x y : Int) : Int := if ab_oa D x y = s then 4 - ab_st D s x y else 0
theorem ab_oIeq (hW : ab_WD B D) {x y s : Int} (hs0 : -1000 ≤ s) (hs1 : s ≤ 1000) : (ab_I (ab_oa D x y) = ab_I s) ↔ ab_oa D x y = s := by
  rcases ab_oa_b hW x y with o | ⟨z, z1, z2, o⟩
  · rw [o, ab_Ieq (by omega) (by omega) (by omega) (by omega)]
  · rw [o, ab_Ieq (by omega) (by omega) (by omega) (by omega)]
theorem ab_openX_lp (hW : ab_WD B D) (h : ∀ y x : Nat, x < 12 → y < 8 → τ 281 (12 * y + x) = ab_I (ab_ow D x y 0)) {s : Int} (hs0 : -1000 ≤ s) (hs1 : s ≤ 1000) {k4 : Int32 → Int32 → Int32 → Option Int32} {y : Nat} (hy : y < 8) {v : Int} : ∀ r k : Nat, k + r = 12 → ∀ f, r < f → f_X0_openSides_13 τ k4 f (ab_I s) (ab_I (v + ab_S (fun x => ab_os D s x y) k)) (ab_I y) (ab_I k) = k4 (ab_I s) (ab_I (v + ab_S (fun x => ab_os D s x y) 12)) (ab_I ((y + 1 : Nat) : Int)) := by
  intro r
  induction r with
  | zero =>
    intro k hk f hf
    obtain ⟨f, rfl⟩ : ∃ g, f = g + 1 := ⟨f - 1, by omega⟩
    have : k = 12 := by omega
    subst this
    rw [f_X0_openSides_13, if_pos (show (12 : Int32) ≤ ab_I ((12 : Nat) : Int) by decide), ab_I1]
  | succ r ih =>
    intro k hk f hf
    obtain ⟨f, rfl⟩ : ∃ g, f = g + 1 := ⟨f - 1, by omega⟩
    have hI := ih (k + 1) (by omega) f (by omega)
    have hsum : ab_S (fun x => ab_os D s x y) (k + 1) = ab_S (fun x => ab_os D s x y) k + ab_os D s k y := rfl
    rw [hsum, ← Int.add_assoc] at hI
    rw [f_X0_openSides_13, if_neg (by rw [show (12 : Int32) = ab_I 12 from rfl, ab_Ile (by omega) (by omega) (by omega) (by omega)]; omega), ab_ownerC h (by omega) (by omega) (by omega) (by omega), ab_sides hW h hs0 hs1 (by omega) (by omega) (by omega) (by omega), Option.bind_some, ab_I1]
    by_cases q : ab_oa D k y = s
    · rw [show ab_os D s k y = 4 - ab_st D s k y by unfold ab_os; rw [if_pos q]] at hI
      rw [if_pos ((ab_oIeq hW hs0 hs1).mpr q), show (4 : Int32) = ab_I 4 from rfl, ab_Isub, ab_Iadd]
      exact hI
    · rw [show ab_os D s k y = 0 by unfold ab_os; rw [if_neg q], Int.add_zero] at hI
      rw [if_neg (fun z => q ((ab_oIeq hW hs0 hs1).mp z))]
      exact hI
theorem ab_openY_lp (hW : ab_WD B D) (h : ∀ y x : Nat, x < 12 → y < 8 → τ 281 (12 * y + x) = ab_I (ab_ow D x y 0)) {s : Int} (hs0 : -1000 ≤ s) (hs1 : s ≤ 1000) : ∀ r k : Nat, k + r = 8 → ∀ f, r < f → f_X0_openSides_4 τ f (ab_I s) (ab_I (ab_S (fun y => ab_S (fun x => ab_os D s x y) 12) k)) (ab_I k) = some (ab_I (ab_cells (fun x y => ab_os D s x y))) := by
  intro r
  induction r with
  | zero =>
    intro k hk f hf
    obtain ⟨f, rfl⟩ : ∃ g, f = g + 1 := ⟨f - 1, by omega⟩
    have : k = 8 := by omega
    subst this
    rw [f_X0_openSides_4, if_pos (show (8 : Int32) ≤ ab_I ((8 : Nat) : Int) by decide)]
    rfl
  | succ r ih =>
    intro k hk f hf
    obtain ⟨f, rfl⟩ : ∃ g, f = g + 1 := ⟨f - 1, by omega⟩
    rw [f_X0_openSides_4, if_neg (by rw [show (8 : Int32) = ab_I 8 from rfl, ab_Ile (by omega) (by omega) (by omega) (by omega)]; omega)]
    have hx := ab_openX_lp hW h hs0 hs1 (k4 := f_X0_openSides_4 τ f) (y := k) (by omega) (v := ab_S (fun y => ab_S (fun x => ab_os D s x y) 12) k) 12 0 (by decide) q_fu (by unfold q_fu; omega)
    rw [show ab_S (fun x => ab_os D s x k) 0 = 0 from rfl, Int.add_zero] at hx
    exact hx.trans (ih (k + 1) (by omega) f (by omega))
theorem ab_fenD_lp (hM : ab_MR σ 293 0 D) (hW : ab_WD B D) {s : Int} (hs0 : -1000 ≤ s) (hs1 : s ≤ 1000) {k30 : Int32 → Int32 → Int32 → q_S → Option (Int32 × q_S)} {j : Nat} (hj : j < 96) {v : Int} : ∀ r k : Nat, k + r = 4 → ∀ f, r < f → f_X10_fence_58 k30 f (ab_I s) (ab_I (v + (k - ab_S (fun d => ab_is (ab_oa D (((j % 12 : Nat) : Int) + ab_sx d) (((j / 12 : Nat) : Int) + ab_sy d)) s) k))) (ab_I j) (ab_I k) σ = k30 (ab_I s) (ab_I (v + (4 - ab_st D s ((j % 12 : Nat) : Int) ((j / 12 : Nat) : Int)))) (ab_I ((j + 1 : Nat) : Int)) σ := by
  intro r
  induction r with
  | zero =>
    intro k hk f hf
    obtain ⟨f, rfl⟩ : ∃ g, f = g + 1 := ⟨f - 1, by omega⟩
    have : k = 4 := by omega
    subst this
    rw [f_X10_fence_58, if_pos (show (4 : Int32) ≤ ab_I ((4 : Nat) : Int) by decide), ab_I1]
    rfl
  | succ r ih =>
    intro k hk f hf
    obtain ⟨f, rfl⟩ : ∃ g, f = g + 1 := ⟨f - 1, by omega⟩
    have hI := ih (k + 1) (by omega) f (by omega)
    have hs : ab_S (fun d => ab_is (ab_oa D (((j % 12 : Nat) : Int) + ab_sx d) (((j / 12 : Nat) : Int) + ab_sy d)) s) (k + 1) = ab_S (fun d => ab_is (ab_oa D (((j % 12 : Nat) : Int) + ab_sx d) (((j / 12 : Nat) : Int) + ab_sy d)) s) k + ab_is (ab_oa D (((j % 12 : Nat) : Int) + ab_sx k) (((j / 12 : Nat) : Int) + ab_sy k)) s := rfl
    rw [hs] at hI
    have b := ab_sxy k
    have e1 : ab_I j - ab_I j / 12 * 12 = ab_I ((j % 12 : Nat) : Int) := (ab_Imod (a := j) (b := 12) (by omega) (by omega) (by omega) (by omega)).trans (congrArg ab_I (by omega))
    have e2 : ab_I j / 12 = ab_I ((j / 12 : Nat) : Int) := (ab_Itdiv (a := j) (b := 12) (by omega) (by omega) (by omega) (by omega)).trans (congrArg ab_I (by omega))
    rw [f_X10_fence_58, if_neg (by rw [show (4 : Int32) = ab_I 4 from rfl, ab_Ile (by omega) (by omega) (by omega) (by omega)]; omega), e1, e2, ab_rstepX (by omega) (by omega), ab_rstepY (by omega) (by omega), ab_Iadd, ab_Iadd, ab_ownerR hM hW (by omega) (by omega) (by omega) (by omega), Option.bind_some, ab_I1]
    by_cases q : ab_oa D (((j % 12 : Nat) : Int) + ab_sx k) (((j / 12 : Nat) : Int) + ab_sy k) = s
    · rw [show ab_is (ab_oa D (((j % 12 : Nat) : Int) + ab_sx k) (((j / 12 : Nat) : Int) + ab_sy k)) s = 1 by unfold ab_is; rw [if_pos q]] at hI
      rw [if_pos ((ab_oIeq hW hs0 hs1).mpr q), show (0 : Int32) = ab_I 0 from rfl, ab_Iadd]
      rw [← hI]
      congr 2
      omega
    · rw [show ab_is (ab_oa D (((j % 12 : Nat) : Int) + ab_sx k) (((j / 12 : Nat) : Int) + ab_sy k)) s = 0 by unfold ab_is; rw [if_neg q]] at hI
      rw [if_neg (fun z => q ((ab_oIeq hW hs0 hs1).mp z)), show (1 : Int32) = ab_I 1 from rfl, ab_Iadd]
      rw [← hI]
      congr 2
      omega
theorem ab_fenK_lp (hM : ab_MR σ 293 0 D) (hW : ab_WD B D) {s : Int} (hs0 : -1000 ≤ s) (hs1 : s ≤ 1000) : ∀ r k : Nat, k + r = 96 → ∀ f, r < f → f_X10_fence_30 f (ab_I s) (ab_I (ab_S (fun k => ab_os D s ((k % 12 : Nat) : Int) ((k / 12 : Nat) : Int)) k)) (ab_I k) σ = some (ab_I (ab_cells (fun x y => ab_os D s x y)), σ) := by
  intro r
  induction r with
  | zero =>
    intro k hk f hf
    obtain ⟨f, rfl⟩ : ∃ g, f = g + 1 := ⟨f - 1, by omega⟩
    have : k = 96 := by omega
    subst this
    rw [f_X10_fence_30, if_pos (show (96 : Int32) ≤ ab_I ((96 : Nat) : Int) by decide)]
    have g := ab_grid (f := fun x y => ab_os D s x y) (n := 12) (by decide) 8
    rw [show ab_S (fun k => ab_os D s ((k % 12 : Nat) : Int) ((k / 12 : Nat) : Int)) 96 = _ from g]
    rfl
  | succ r ih =>
    intro k hk f hf
    obtain ⟨f, rfl⟩ : ∃ g, f = g + 1 := ⟨f - 1, by omega⟩
    have hI := ih (k + 1) (by omega) f (by omega)
    have hsum : ab_S (fun k => ab_os D s ((k % 12 : Nat) : Int) ((k / 12 : Nat) : Int)) (k + 1) = ab_S (fun k => ab_os D s ((k % 12 : Nat) : Int) ((k / 12 : Nat) : Int)) k + ab_os D s ((k % 12 : Nat) : Int) ((k / 12 : Nat) : Int) := rfl
    rw [hsum] at hI
    have e1 : ab_I k - ab_I k / 12 * 12 = ab_I ((k % 12 : Nat) : Int) := (ab_Imod (a := k) (b := 12) (by omega) (by omega) (by omega) (by omega)).trans (congrArg ab_I (by omega))
    have e2 : ab_I k / 12 = ab_I ((k / 12 : Nat) : Int) := (ab_Itdiv (a := k) (b := 12) (by omega) (by omega) (by omega) (by omega)).trans (congrArg ab_I (by omega))
    rw [f_X10_fence_30, if_neg (by rw [show (96 : Int32) = ab_I 96 from rfl, ab_Ile (by omega) (by omega) (by omega) (by omega)]; omega), e1, e2, ab_ownerR hM hW (by omega) (by omega) (by omega) (by omega), Option.bind_some]
    by_cases q : ab_oa D ((k % 12 : Nat) : Int) ((k / 12 : Nat) : Int) = s
    · rw [show ab_os D s ((k % 12 : Nat) : Int) ((k / 12 : Nat) : Int) = 4 - ab_st D s ((k % 12 : Nat) : Int) ((k / 12 : Nat) : Int) by unfold ab_os; rw [if_pos q]] at hI
      rw [if_pos ((ab_oIeq hW hs0 hs1).mpr q)]
      have hd := ab_fenD_lp hM hW hs0 hs1 (k30 := f_X10_fence_30 f) (j := k) (by omega) (v := ab_S (fun k => ab_os D s ((k % 12 : Nat) : Int) ((k / 12 : Nat) : Int)) k) 4 0 (by decide) q_fu (by unfold q_fu; omega)
      rw [show ∀ g : Nat → Int, (((0 : Nat) : Int) - ab_S g 0) = 0 from fun g => rfl, Int.add_zero] at hd
      exact hd.trans hI
    · rw [show ab_os D s ((k % 12 : Nat) : Int) ((k / 12 : Nat) : Int) = 0 by unfold ab_os; rw [if_neg q], Int.add_zero] at hI
      rw [if_neg (fun z => q ((ab_oIeq hW hs0 hs1).mp z)), ab_I1]
      exact hI
end
theorem ab_ok_17 {t : Nat} {σ : q_S} (hI : ab_Inv t σ) (_ht : t < 512) (a b c : Int32) : w_ok_17 σ a b c (ab_Inv (t + 1)) := by
  have hI2 := hI
  obtain ⟨D, ⟨hC, hM, hW⟩, hO⟩ := hI
  have hM0 : σ 293 0 = ab_I (D 0) := hM 0 (by decide)
  have w5 := hW.2.1
  unfold w_ok_17
  rcases ab_hasS (a := a) hC.1 hM0 hW.1 hW.2.1 with ⟨h1, h2⟩ | ⟨h1, h2, s, hs, rfl⟩
  · refine ⟨1, 0, 0, σ, q_up σ 292 4 1, ?_, .inr rfl, ?_, rfl, fun z => absurd z (by decide), ab_sI hI2 1⟩
    · unfold f_X9_fence
      rw [h1, if_pos rfl]
    · unfold f_X10_fence
      rw [h2, Option.bind_some, if_pos rfl]
      unfold f_X10_fence_14
      rw [ab_up_at, if_neg (show ¬ ((1 : Int32) ≤ 0) by decide)]
  · obtain ⟨τ, t1, t2, t3, t4⟩ := ab_survey hC hW (h := 0) (by decide) (by decide)
    have hMτ : ab_MR (q_up τ 292 4 0) 293 0 D := fun k hk => by rw [ab_up_ne (by decide), t4 293 (by decide) (by decide)]; exact hM k hk
    have h2' : f_X10_isSleeper τ (ab_I s) = some 1 := by
      unfold f_X10_isSleeper at h2 ⊢
      rw [t4 293 (by decide) (by decide)]
      exact h2
    refine ⟨0, ab_I (ab_cells (fun x y => ab_os D s x y)), ab_I (ab_cells (fun x y => ab_os D s x y)), τ, q_up τ 292 4 0, ?_, .inl rfl, ?_, rfl, fun _ => rfl, hI2.same ((ab_svq t4).trans (ab_eq.up (.inr ⟨rfl, .inl rfl⟩)))⟩
    · unfold f_X9_fence f_X0_openSides
      rw [h1, if_neg (show ¬ ((1 : Int32) = 0) by decide), show f_X0_survey σ 2 0 = _ from t1, Option.bind_some, show f_X0_openSides_4 τ q_fu (ab_I s) 0 0 = _ from ab_openY_lp hW t2 (s := s) (by omega) (by omega) 8 0 (by decide) q_fu (by unfold q_fu; omega), Option.bind_some]
    · unfold f_X10_fence
      rw [h2', Option.bind_some, if_neg (show ¬ ((1 : Int32) = 0) by decide)]
      unfold f_X10_fence_14
      rw [ab_up_at, if_pos (show (0 : Int32) ≤ 0 by decide)]
      exact ab_fenK_lp hMτ hW (s := s) (by omega) (by omega) 96 0 (by decide) q_fu (by unfold q_fu; omega)
