/-! the survey of all cells -/
def ab_is (a b : Int) : Int := if a = b then 1 else 0
/-- how many cells the sleeper s owns in h hours; -1: how many are nobody's -/
def ab_cn (D : Nat → Int) (h s : Int) : Int := ab_cells (fun x y => ab_is (ab_ow D x y h) s)
section
variable {σ : q_S} {D : Nat → Int} {B : Int}
def ab_sv0 (D : Nat → Int) (h : Int) (σ τ : q_S) (y k : Nat) : Prop :=
  (∀ y2 x2 : Nat, x2 < 12 → (y2 < y ∨ (y2 = y ∧ x2 < k)) → τ 281 (12 * y2 + x2) = ab_I (ab_ow D x2 y2 h)) ∧
  (∀ s : Nat, s < 5 → τ 282 s = ab_I (ab_S (fun y2 => ab_S (fun x2 => ab_is (ab_ow D x2 y2 h) s) 12) y + ab_S (fun x2 => ab_is (ab_ow D x2 y h) s) k)) ∧ ∀ c, c ≠ 281 → c ≠ 282 → τ c = σ c
theorem ab_svx_lp (hC : ab_CR σ 2 D) (hW : ab_WD B D) {h : Int} (hh0 : 0 ≤ h) (hh1 : h ≤ 1000) {k26 : Int32 → Int32 → q_S → Option q_S} {y : Nat} (hy : y < 8) : ∀ r k : Nat, k + r = 12 → ∀ f, r < f → ∀ τ : q_S, ab_sv0 D h σ τ y k → ∃ υ, ab_sv0 D h σ υ y 12 ∧ f_X0_survey_35 2 k26 f (ab_I h) (ab_I y) (ab_I k) τ = k26 (ab_I h) (ab_I ((y + 1 : Nat) : Int)) υ := by
  intro r
  induction r with
  | zero =>
    intro k hk f hf τ hτ
    obtain ⟨f, rfl⟩ : ∃ g, f = g + 1 := ⟨f - 1, by omega⟩
    have : k = 12 := by omega
    subst this
    exact ⟨τ, hτ, by rw [f_X0_survey_35, if_pos (show (12 : Int32) ≤ ab_I ((12 : Nat) : Int) by decide), ab_I1]⟩
  | succ r ih =>
    intro k hk f hf τ hτ
    obtain ⟨f, rfl⟩ : ∃ g, f = g + 1 := ⟨f - 1, by omega⟩
    have hC2 : ab_CR τ 2 D := hC.same hW.2.1 (fun c a b => hτ.2.2 c (by omega) (by omega))
    have e1 : ab_I y * 12 + ab_I k = ab_I ((12 * y + k : Nat) : Int) := by
      rw [show (12 : Int32) = ab_I 12 from rfl, ab_Imul, ab_Iadd]
      exact congrArg ab_I (by omega)
    rw [f_X0_survey_35, if_neg (by rw [show (12 : Int32) = ab_I 12 from rfl, ab_Ile (by omega) (by omega) (by omega) (by omega)]; omega), ab_deepestAt hC2 hW (by omega) (by omega) (by omega) (by omega) hh0 hh1, Option.bind_some, e1, ab_put (by omega) (by decide), ab_I1]
    have o1 : ∀ v : Int32, (∀ y2 x2 : Nat, x2 < 12 → (y2 < y ∨ (y2 = y ∧ x2 < k + 1)) → v = ab_I (ab_ow D k y h) → q_up τ 281 (12 * y + k) v 281 (12 * y2 + x2) = ab_I (ab_ow D x2 y2 h)) := fun v y2 x2 h1 h2 hv => by
      by_cases q : y2 = y ∧ x2 = k
      · rw [q.1, q.2, ab_up_at, hv]
      · rw [ab_up_nk (by omega)]
        exact hτ.1 y2 x2 h1 (by omega)
    rcases ab_ow_b hW k y h with q | ⟨s, s1, s2, q⟩
    · rw [if_pos (by rw [q]; rfl)]
      refine ih (k + 1) (by omega) f (by omega) _ ⟨fun y2 x2 h1 h2 => o1 _ y2 x2 h1 h2 rfl, fun s2 hs2 => ?_, fun c h1 h2 => (ab_up_ne h1).trans (hτ.2.2 c h1 h2)⟩
      rw [ab_up_ne (by decide), hτ.2.1 s2 hs2]
      show _ = ab_I (_ + (ab_S (fun x2 => ab_is (ab_ow D x2 y h) s2) k + ab_is (ab_ow D k y h) s2))
      rw [show ab_is (ab_ow D k y h) s2 = 0 by unfold ab_is; rw [if_neg (by omega)], Int.add_zero]
    · rw [if_neg (by rw [q, show (-1 : Int32) = ab_I (-1) from rfl, ab_Ieq (by omega) (by omega) (by omega) (by omega)]; omega)]
      unfold f_X0_countOf
      rw [q, ab_at s2 (by decide), ab_put s2 (by decide), ab_up_ne (show (282 : Nat) ≠ 281 by decide), hτ.2.1 s s2, show ∀ v : Int, ab_I v + 1 = ab_I (v + 1) from fun v => ab_Iadd (b := 1)]
      refine ih (k + 1) (by omega) f (by omega) _ ⟨fun y2 x2 h1 h2 => ?_, fun s3 hs3 => ?_, fun c h1 h2 => ?_⟩
      · rw [ab_up_ne (by decide)]
        exact o1 _ y2 x2 h1 h2 (by rw [q])
      · show _ = ab_I (_ + (ab_S (fun x2 => ab_is (ab_ow D x2 y h) s3) k + ab_is (ab_ow D k y h) s3))
        by_cases e : s3 = s
        · subst e
          rw [ab_up_at, show ab_is (ab_ow D k y h) s3 = 1 by unfold ab_is; rw [if_pos q]]
          exact congrArg ab_I (by omega)
        · rw [ab_up_nk e, ab_up_ne (by decide), hτ.2.1 s3 hs3, show ab_is (ab_ow D k y h) s3 = 0 by unfold ab_is; rw [if_neg (by omega)], Int.add_zero]
      · rw [ab_up_ne h2, ab_up_ne h1]
        exact hτ.2.2 c h1 h2
theorem ab_svy_lp (hC : ab_CR σ 2 D) (hW : ab_WD B D) {h : Int} (hh0 : 0 ≤ h) (hh1 : h ≤ 1000) : ∀ r k : Nat, k + r = 8 → ∀ f, r < f → ∀ τ : q_S, ab_sv0 D h σ τ k 0 → ∃ υ, f_X0_survey_26 2 f (ab_I h) (ab_I k) τ = some υ ∧ ab_sv0 D h σ υ 8 0 := by
  intro r
  induction r with
  | zero =>
    intro k hk f hf τ hτ
    obtain ⟨f, rfl⟩ : ∃ g, f = g + 1 := ⟨f - 1, by omega⟩
    have : k = 8 := by omega
    subst this
    exact ⟨τ, by rw [f_X0_survey_26, if_pos (show (8 : Int32) ≤ ab_I ((8 : Nat) : Int) by decide)], hτ⟩
  | succ r ih =>
    intro k hk f hf τ hτ
    obtain ⟨f, rfl⟩ : ∃ g, f = g + 1 := ⟨f - 1, by omega⟩
    rw [f_X0_survey_26, if_neg (by rw [show (8 : Int32) = ab_I 8 from rfl, ab_Ile (by omega) (by omega) (by omega) (by omega)]; omega)]
    obtain ⟨υ, u1, u2⟩ := ab_svx_lp hC hW hh0 hh1 (k26 := f_X0_survey_26 2 f) (y := k) (by omega) 12 0 (by decide) q_fu (by unfold q_fu; omega) τ hτ
    have hυ : ab_sv0 D h σ υ (k + 1) 0 := ⟨fun y2 x2 h1 h2 => u1.1 y2 x2 h1 (by omega), fun s hs => by rw [u1.2.1 s hs]; exact congrArg ab_I (Int.add_zero _).symm, u1.2.2⟩
    obtain ⟨ω, w1, w2⟩ := ih (k + 1) (by omega) f (by omega) υ hυ
    exact ⟨ω, u2.trans w1, w2⟩
theorem ab_sv2_lp (hC : ab_CR σ 2 D) (hW : ab_WD B D) {h : Int} (hh0 : 0 ≤ h) (hh1 : h ≤ 1000) : ∀ r k : Nat, k + r = 5 → ∀ f, r < f → ∀ τ : q_S, (∀ s, s < k → τ 282 s = 0) → (∀ c, c ≠ 282 → τ c = σ c) → ∃ υ, f_X0_survey_2 2 f (ab_I h) (ab_I k) τ = some υ ∧ ab_sv0 D h σ υ 8 0 := by
  intro r
  induction r with
  | zero =>
    intro k hk f hf τ h1 h2
    obtain ⟨f, rfl⟩ : ∃ g, f = g + 1 := ⟨f - 1, by omega⟩
    have : k = 5 := by omega
    subst this
    rw [f_X0_survey_2, if_pos (show (5 : Int32) ≤ ab_I ((5 : Nat) : Int) by decide)]
    exact ab_svy_lp hC hW hh0 hh1 8 0 (by decide) q_fu (by unfold q_fu; omega) τ ⟨fun y2 x2 _ h => absurd h (by omega), fun s hs => by rw [h1 s hs]; rfl, fun c _ h => h2 c h⟩
  | succ r ih =>
    intro k hk f hf τ h1 h2
    obtain ⟨f, rfl⟩ : ∃ g, f = g + 1 := ⟨f - 1, by omega⟩
    rw [f_X0_survey_2, if_neg (by rw [show (5 : Int32) = ab_I 5 from rfl, ab_Ile (by omega) (by omega) (by omega) (by omega)]; omega), ab_Icl (by omega) (by omega), Int.toNat_natCast, if_neg (by rw [ab_Iltc (by omega) (by omega)]; exact fun h => h.elim id (fun h => by omega)), ab_I1]
    refine ih (k + 1) (by omega) f (by omega) _ (fun s hs => ?_) (fun c hc => (ab_up_ne hc).trans (h2 c hc))
    by_cases e : s = k
    · subst e; rw [ab_up_at]
    · rw [ab_up_nk e]; exact h1 s (by omega)
theorem ab_survey (hC : ab_CR σ 2 D) (hW : ab_WD B D) {h : Int} (hh0 : 0 ≤ h) (hh1 : h ≤ 1000) : ∃ τ, f_X0_survey σ 2 (ab_I h) = some τ ∧ (∀ y x : Nat, x < 12 → y < 8 → τ 281 (12 * y + x) = ab_I (ab_ow D x y h)) ∧ (∀ s : Nat, s < 5 → τ 282 s = ab_I (ab_cn D h s)) ∧ ∀ c, c ≠ 281 → c ≠ 282 → τ c = σ c := by
  obtain ⟨τ, t1, t2, t3, t4⟩ := ab_sv2_lp hC hW hh0 hh1 5 0 (by decide) q_fu (by unfold q_fu; omega) σ (fun s hs => absurd hs (by omega)) (fun _ _ => rfl)
  refine ⟨τ, t1, fun y x hx hy => t2 y x hx (.inl hy), fun s hs => ?_, t4⟩
  rw [t3 s hs]
  exact congrArg ab_I (Int.add_zero _)
theorem ab_cellsIn_lp (hM : ab_MR σ 293 0 D) (hW : ab_WD B D) {h s : Int} (hh0 : 0 ≤ h) (hh1 : h ≤ 1000) (hs0 : -1000 ≤ s) (hs1 : s ≤ 1000) : ∀ r k : Nat, k + r = 96 → ∀ f, r < f → f_X10_cellsIn_5 σ f (ab_I s) (ab_I h) (ab_I (ab_S (fun k => ab_is (ab_ow D ((k % 12 : Nat) : Int) ((k / 12 : Nat) : Int) h) s) k)) (ab_I k) = some (ab_I (ab_S (fun k => ab_is (ab_ow D ((k % 12 : Nat) : Int) ((k / 12 : Nat) : Int) h) s) 96)) := by
  intro r
  induction r with
  | zero =>
    intro k hk f hf
    obtain ⟨f, rfl⟩ : ∃ g, f = g + 1 := ⟨f - 1, by omega⟩
    have : k = 96 := by omega
    subst this
    rw [f_X10_cellsIn_5, if_pos (show (96 : Int32) ≤ ab_I ((96 : Nat) : Int) by decide)]
  | succ r ih =>
    intro k hk f hf
    obtain ⟨f, rfl⟩ : ∃ g, f = g + 1 := ⟨f - 1, by omega⟩
    have hI := ih (k + 1) (by omega) f (by omega)
    have hsum : ab_S (fun k => ab_is (ab_ow D ((k % 12 : Nat) : Int) ((k / 12 : Nat) : Int) h) s) (k + 1) = ab_S (fun k => ab_is (ab_ow D ((k % 12 : Nat) : Int) ((k / 12 : Nat) : Int) h) s) k + ab_is (ab_ow D ((k % 12 : Nat) : Int) ((k / 12 : Nat) : Int) h) s := rfl
    rw [hsum] at hI
    have e1 : ab_I k - ab_I k / 12 * 12 = ab_I ((k % 12 : Nat) : Int) := (ab_Imod (a := k) (b := 12) (by omega) (by omega) (by omega) (by omega)).trans (congrArg ab_I (by omega))
    have e2 : ab_I k / 12 = ab_I ((k / 12 : Nat) : Int) := (ab_Itdiv (a := k) (b := 12) (by omega) (by omega) (by omega) (by omega)).trans (congrArg ab_I (by omega))
    have bo : -1 ≤ ab_ow D ((k % 12 : Nat) : Int) ((k / 12 : Nat) : Int) h ∧ ab_ow D ((k % 12 : Nat) : Int) ((k / 12 : Nat) : Int) h ≤ 5 := by
      rcases ab_ow_b hW ((k % 12 : Nat) : Int) ((k / 12 : Nat) : Int) h with q | ⟨s, q1, q2, q⟩ <;> omega
    rw [f_X10_cellsIn_5, if_neg (by rw [show (96 : Int32) = ab_I 96 from rfl, ab_Ile (by omega) (by omega) (by omega) (by omega)]; omega), e1, e2, ab_ownerIn hM hW (by omega) (by omega) (by omega) (by omega) hh0 hh1, Option.bind_some]
    by_cases q : ab_ow D ((k % 12 : Nat) : Int) ((k / 12 : Nat) : Int) h = s
    · rw [show ab_is (ab_ow D ((k % 12 : Nat) : Int) ((k / 12 : Nat) : Int) h) s = 1 by unfold ab_is; rw [if_pos q]] at hI
      rw [if_pos (by rw [q]), ab_I1, show (1 : Int32) = ab_I 1 from rfl, ab_Iadd]
      exact hI
    · rw [show ab_is (ab_ow D ((k % 12 : Nat) : Int) ((k / 12 : Nat) : Int) h) s = 0 by unfold ab_is; rw [if_neg q]] at hI
      rw [if_neg (by rw [ab_Ieq (by omega) (by omega) (by omega) (by omega)]; exact q), ab_I1, show (0 : Int32) = ab_I 0 from rfl, ab_Iadd]
      exact hI
theorem ab_cellsIn (hM : ab_MR σ 293 0 D) (hW : ab_WD B D) {h s : Int} (hh0 : 0 ≤ h) (hh1 : h ≤ 1000) (hs0 : -1000 ≤ s) (hs1 : s ≤ 1000) : f_X10_cellsIn σ (ab_I s) (ab_I h) = some (ab_I (ab_cn D h s)) := by
  unfold f_X10_cellsIn ab_cn ab_cells
  rw [← ab_grid (f := fun x y => ab_is (ab_ow D x y h) s) (n := 12) (by decide) 8]
  exact ab_cellsIn_lp hM hW hh0 hh1 hs0 hs1 96 0 (by decide) q_fu (by unfold q_fu; omega)
end
