/-! pegs -/
section
variable {σ σ' : q_S} {D : Nat → Int} {B : Int}
theorem ab_Itdiv {a b : Int} (ha0 : 0 ≤ a) (ha1 : a ≤ 2147483647) (hb0 : 0 ≤ b) (hb1 : b ≤ 2147483647) : ab_I a / ab_I b = ab_I (a / b) := by
  rw [← Int.tdiv_eq_ediv_of_nonneg ha0]
  exact (Int32.ofInt_tdiv (by show -2147483648 ≤ a; omega) (by show a ≤ 2147483647; omega) (by show -2147483648 ≤ b; omega) (by show b ≤ 2147483647; omega)).symm
theorem ab_Imod {a b : Int} (ha0 : 0 ≤ a) (ha1 : a ≤ 2147483647) (hb0 : 0 ≤ b) (hb1 : b ≤ 2147483647) : ab_I a - ab_I a / ab_I b * ab_I b = ab_I (a % b) := by
  rw [ab_Itdiv ha0 ha1 hb0 hb1, ab_Imul, ab_Isub, Int.emod_def, Int.mul_comm b]
/-- hours until the peg p is lit -/
def ab_lt (D : Nat → Int) (p : Nat) : Int := if D 2 % D (8 + 3 * p) = 0 then 0 else D (8 + 3 * p) - D 2 % D (8 + 3 * p)
theorem ab_peg (hW : ab_WD B D) {p : Nat} (hp : (p : Int) < D 1) : 0 ≤ D (6 + 3 * p) ∧ D (6 + 3 * p) ≤ 12 ∧ 0 ≤ D (7 + 3 * p) ∧ D (7 + 3 * p) ≤ 8 ∧ 2 ≤ D (8 + 3 * p) ∧ D (8 + 3 * p) ≤ 5 ∧ 0 ≤ D 2 % D (8 + 3 * p) ∧ D 2 % D (8 + 3 * p) < D (8 + 3 * p) := by
  have w := hW.2.2.2.2.2.2.2.2.2 p hp
  exact ⟨w.1, w.2.1, w.2.2.1, w.2.2.2.1, w.2.2.2.2.1, w.2.2.2.2.2, Int.emod_nonneg _ (by omega), Int.emod_lt_of_pos _ (by omega)⟩
theorem ab_lt_b (hW : ab_WD B D) {p : Nat} (hp : (p : Int) < D 1) : 0 ≤ ab_lt D p ∧ ab_lt D p ≤ 5 := by
  have w := ab_peg hW hp
  unfold ab_lt
  split <;> omega
theorem ab_pv (hM : ab_MR σ 293 0 D) {p w : Nat} (hp : p < 8) (hw : w < 3) : f_X10_pv σ (ab_I p) (ab_I w) = some (ab_I (D (6 + 3 * p + w))) := by
  unfold f_X10_pv
  have e : (6 : Int32) + 3 * ab_I p + ab_I w = ab_I ((6 + 3 * p + w : Nat) : Int) := by
    rw [show (6 : Int32) = ab_I 6 from rfl, show (3 : Int32) = ab_I 3 from rfl, ab_Imul, ab_Iadd, ab_Iadd]
    exact congrArg ab_I (by omega)
  rw [e, ab_Icl (by omega) (by omega), Int.toNat_natCast, if_neg (by rw [ab_Iltc (by omega) (by omega)]; exact fun h => h.elim id (fun h => by omega))]
  have h := hM (6 + 3 * p + w) (by omega)
  rw [Nat.zero_add] at h
  rw [h]
theorem ab_pvn (hM : ab_MR σ 293 0 D) {p : Nat} (hp : p < 8) : f_X10_pv σ (ab_I p) 0 = some (ab_I (D (6 + 3 * p))) ∧ f_X10_pv σ (ab_I p) 1 = some (ab_I (D (7 + 3 * p))) ∧ f_X10_pv σ (ab_I p) 2 = some (ab_I (D (8 + 3 * p))) := by
  have e1 : 6 + 3 * p + 1 = 7 + 3 * p := by omega
  have e2 : 6 + 3 * p + 2 = 8 + 3 * p := by omega
  refine ⟨ab_pv (w := 0) hM hp (by decide), ?_, ?_⟩
  · have h := ab_pv (w := 1) hM hp (by decide)
    rw [e1] at h
    exact h
  · have h := ab_pv (w := 2) hM hp (by decide)
    rw [e2] at h
    exact h
theorem ab_until {z : Nat} (hC : ab_CR σ z D) (hW : ab_WD B D) (hB : B ≤ 1000000000) {p : Nat} (hp : (p : Int) < D 1) (h8 : p < 8) : f_X5_hoursUntilLit σ (z + 6) (ab_I p) (ab_I (D 2)) = some (ab_I (ab_lt D p)) := by
  have w := ab_peg hW hp
  have h2 := hW.2.2.2.2
  have e := (hC.2.2.2.2.2.1 p hp).2.2
  unfold f_X5_hoursUntilLit ab_lt
  rw [show z + 6 + 3 = z + 9 from rfl, ab_at h8 (by decide), e, if_pos (by rw [show (0 : Int32) = ab_I 0 from rfl, ab_Ilt (by omega) (by omega) (by omega) (by omega)]; omega), if_neg (by rw [show (0 : Int32) = ab_I 0 from rfl, ab_Ieq (by omega) (by omega) (by omega) (by omega)]; omega), ab_Imod (by omega) (by omega) (by omega) (by omega)]
  by_cases q : D 2 % D (8 + 3 * p) = 0
  · rw [if_pos q, if_pos (by rw [q]; rfl)]
    rfl
  · rw [if_neg q, if_neg (by rw [show (0 : Int32) = ab_I 0 from rfl, ab_Ieq (by omega) (by omega) (by omega) (by omega)]; exact q), ab_Isub]
theorem ab_litIn (hM : ab_MR σ 293 0 D) (hW : ab_WD B D) (hB : B ≤ 1000000000) {p : Nat} (hp : (p : Int) < D 1) (h8 : p < 8) : f_X10_litIn σ (ab_I p) = some (ab_I (ab_lt D p)) := by
  have w := ab_peg hW hp
  have h2 := hW.2.2.2.2
  have hh : σ 293 2 = ab_I (D 2) := hM 2 (by decide)
  unfold f_X10_litIn ab_lt
  rw [(ab_pvn hM h8).2.2, Option.bind_some, Option.bind_some, if_neg (by rw [show (0 : Int32) = ab_I 0 from rfl, ab_Ieq (by omega) (by omega) (by omega) (by omega)]; omega), Option.bind_some, if_neg (by rw [show (0 : Int32) = ab_I 0 from rfl, ab_Ieq (by omega) (by omega) (by omega) (by omega)]; omega), hh, ab_Imod (by omega) (by omega) (by omega) (by omega), ab_Isub, ab_Imod (by omega) (by omega) (by omega) (by omega)]
  congr 2
  generalize D 2 % D (8 + 3 * p) = m at w ⊢
  generalize D (8 + 3 * p) = P at w ⊢
  by_cases q : m = 0
  · rw [if_pos q, q, Int.sub_zero, Int.emod_self]
  · rw [if_neg q, Int.emod_eq_of_lt (by omega) (by omega)]
theorem ab_isLit (hM : ab_MR σ 293 0 D) (hW : ab_WD B D) (hB : B ≤ 1000000000) {p : Nat} (hp : (p : Int) < D 1) (h8 : p < 8) : f_X10_isLit σ (ab_I p) = some (ab_I (if ab_lt D p = 0 then 1 else 0)) := by
  have w := ab_peg hW hp
  have h2 := hW.2.2.2.2
  have hh : σ 293 2 = ab_I (D 2) := hM 2 (by decide)
  unfold f_X10_isLit ab_lt
  rw [(ab_pvn hM h8).2.2, Option.bind_some, if_neg (by rw [show (0 : Int32) = ab_I 0 from rfl, ab_Ieq (by omega) (by omega) (by omega) (by omega)]; omega), hh, ab_Imod (by omega) (by omega) (by omega) (by omega)]
  by_cases q : D 2 % D (8 + 3 * p) = 0
  · rw [if_pos q, if_pos rfl, q, if_pos (show ab_I 0 = 0 from rfl)]
    rfl
  · rw [if_neg q, if_neg (by rw [show (0 : Int32) = ab_I 0 from rfl, ab_Ieq (by omega) (by omega) (by omega) (by omega)]; exact q), if_neg (by omega)]
    rfl
/-- the first peg at a corner, from k on -/
def ab_fd (D : Nat → Int) (x y : Int) : Nat → Nat → Int
  | 0, _ => -1
  | r + 1, k => if D (6 + 3 * k) = x ∧ D (7 + 3 * k) = y then k else ab_fd D x y r (k + 1)
theorem ab_fd_b {x y : Int} : ∀ r k : Nat, ab_fd D x y r k = -1 ∨ ∃ p : Nat, k ≤ p ∧ p < k + r ∧ ab_fd D x y r k = p := by
  intro r
  induction r with
  | zero => exact fun k => .inl rfl
  | succ r ih =>
    intro k
    unfold ab_fd
    by_cases q : D (6 + 3 * k) = x ∧ D (7 + 3 * k) = y
    · rw [if_pos q]
      exact .inr ⟨k, by omega, by omega, rfl⟩
    · rw [if_neg q]
      rcases ih (k + 1) with h | ⟨p, h1, h2, h3⟩
      · exact .inl h
      · exact .inr ⟨p, by omega, by omega, h3⟩
def ab_find (D : Nat → Int) (x y : Int) : Int := ab_fd D x y (D 1).toNat 0
theorem ab_find_b (hW : ab_WD B D) (x y : Int) : ab_find D x y = -1 ∨ ∃ p : Nat, (p : Int) < D 1 ∧ p < 8 ∧ ab_find D x y = p := by
  have h := hW.2.2.1
  have h8 := hW.2.2.2.1
  rcases ab_fd_b (D := D) (x := x) (y := y) (D 1).toNat 0 with h | ⟨p, h1, h2, h3⟩
  · exact .inl h
  · exact .inr ⟨p, by omega, by omega, h3⟩
theorem ab_findAt_lp {z : Nat} (hC : ab_CR σ z D) (hW : ab_WD B D) {x y : Int} (hx0 : -1000 ≤ x) (hx1 : x ≤ 1000) (hy0 : -1000 ≤ y) (hy1 : y ≤ 1000) : ∀ r k : Nat, ((k + r : Nat) : Int) = D 1 → ∀ f, r < f → f_X5_findAt_2 (z + 6) σ f (ab_I x) (ab_I y) (ab_I k) = some (ab_I (ab_fd D x y r k)) := by
  have h1 := hW.2.2.1
  have h8 := hW.2.2.2.1
  intro r
  induction r with
  | zero =>
    intro k hk f hf
    obtain ⟨f, rfl⟩ : ∃ g, f = g + 1 := ⟨f - 1, by omega⟩
    rw [f_X5_findAt_2, hC.2.1, if_pos (by rw [ab_Ile (by omega) (by omega) (by omega) (by omega)]; omega)]
    rfl
  | succ r ih =>
    intro k hk f hf
    obtain ⟨f, rfl⟩ : ∃ g, f = g + 1 := ⟨f - 1, by omega⟩
    have w := ab_peg hW (p := k) (by omega)
    have e := hC.2.2.2.2.2.1 k (by omega)
    have hI := ih (k + 1) (by omega) f (by omega)
    rw [f_X5_findAt_2, hC.2.1, if_neg (by rw [ab_Ile (by omega) (by omega) (by omega) (by omega)]; omega), show z + 6 + 1 = z + 7 from rfl, show z + 6 + 2 = z + 8 from rfl, ab_at (by omega) (by decide), ab_at (by omega) (by decide), e.1, e.2.1, ab_I1, hI]
    simp only [ab_Ieq (a := D (6 + 3 * k)) (b := x) (by omega) (by omega) (by omega) (by omega), ab_Ieq (a := D (7 + 3 * k)) (b := y) (by omega) (by omega) (by omega) (by omega)]
    rw [ab_fd]
    (repeat' split) <;> first | rfl | omega
theorem ab_findAt {z : Nat} (hC : ab_CR σ z D) (hW : ab_WD B D) {x y : Int} (hx0 : -1000 ≤ x) (hx1 : x ≤ 1000) (hy0 : -1000 ≤ y) (hy1 : y ≤ 1000) : f_X5_findAt σ (z + 6) (ab_I x) (ab_I y) = some (ab_I (ab_find D x y)) := by
  have h1 := hW.2.2.1
  have h8 := hW.2.2.2.1
  exact ab_findAt_lp hC hW hx0 hx1 hy0 hy1 (D 1).toNat 0 (by omega) q_fu (by unfold q_fu; omega)
theorem ab_pegAt_lp (hM : ab_MR σ 293 0 D) (hW : ab_WD B D) {x y : Int} (hx0 : -1000 ≤ x) (hx1 : x ≤ 1000) (hy0 : -1000 ≤ y) (hy1 : y ≤ 1000) : ∀ r k : Nat, ((k + r : Nat) : Int) = D 1 → ∀ f, r < f → f_X10_pegAt_2 σ f (ab_I x) (ab_I y) (ab_I k) = some (ab_I (ab_fd D x y r k)) := by
  have h1 := hW.2.2.1
  have h8 := hW.2.2.2.1
  have hg : σ 293 1 = ab_I (D 1) := hM 1 (by decide)
  intro r
  induction r with
  | zero =>
    intro k hk f hf
    obtain ⟨f, rfl⟩ : ∃ g, f = g + 1 := ⟨f - 1, by omega⟩
    rw [f_X10_pegAt_2, hg, if_pos (by rw [ab_Ile (by omega) (by omega) (by omega) (by omega)]; omega)]
    rfl
  | succ r ih =>
    intro k hk f hf
    obtain ⟨f, rfl⟩ : ∃ g, f = g + 1 := ⟨f - 1, by omega⟩
    have w := ab_peg hW (p := k) (by omega)
    have e := ab_pvn hM (p := k) (by omega)
    have hI := ih (k + 1) (by omega) f (by omega)
    rw [f_X10_pegAt_2, hg, if_neg (by rw [ab_Ile (by omega) (by omega) (by omega) (by omega)]; omega), e.1, e.2.1, Option.bind_some, Option.bind_some, ab_I1, hI]
    simp only [ab_Ieq (a := D (6 + 3 * k)) (b := x) (by omega) (by omega) (by omega) (by omega), ab_Ieq (a := D (7 + 3 * k)) (b := y) (by omega) (by omega) (by omega) (by omega)]
    rw [ab_fd]
    (repeat' split) <;> first | rfl | omega
theorem ab_pegAt (hM : ab_MR σ 293 0 D) (hW : ab_WD B D) {x y : Int} (hx0 : -1000 ≤ x) (hx1 : x ≤ 1000) (hy0 : -1000 ≤ y) (hy1 : y ≤ 1000) : f_X10_pegAt σ (ab_I x) (ab_I y) = some (ab_I (ab_find D x y)) := by
  have h1 := hW.2.2.1
  have h8 := hW.2.2.2.1
  exact ab_pegAt_lp hM hW hx0 hx1 hy0 hy1 (D 1).toNat 0 (by omega) q_fu (by unfold q_fu; omega)
end
