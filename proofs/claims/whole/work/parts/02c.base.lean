theorem q_bindE {α β : Type} {P : Prop} {o : Option α} {f : α → Option β} {b : β} (h : Option.bind o f = some b) (k : ∀ a, o = some a → f a = some b → P) : P := by
  cases o with
  | none => cases h
  | some a => exact k a rfl h
theorem q_ne {c n : Nat} (h : q_kd c = n) (hn : n ≠ 99) : q_kd c ≠ 99 := by rw [h]; exact hn
theorem q_zn {v : Int32} (h : v = 0 ∨ v = 1) : narrow .boolean (.int v) = .int v := by rcases h with rfl | rfl <;> rfl
theorem q_zf {v : Int32} (h : v = 0 ∨ v = 1) : fits .boolean (.int v) = true := by rcases h with rfl | rfl <;> rfl
theorem q_cn {v : Int32} (h : (v.toUInt32 % 65536).toInt32 = v) : narrow .char (.int v) = .int v := by
  have h1 := pk_nc v
  rw [h] at h1
  exact h1
def q_fu : Nat := 3000
theorem q_l0 {B : Nat} {r : Nat → Int32} {c : Nat} : (q_f0 B r c).length = 2 := rfl
theorem q_l1 {B : Nat} {r : Nat → Int32} {c : Nat} : (q_f1 B r c).length = 6 := rfl
theorem q_l2 {B : Nat} {r : Nat → Int32} {c : Nat} : (q_f2 B r c).length = 7 := rfl
theorem q_l3 {B : Nat} {r : Nat → Int32} {c : Nat} : (q_f3 B r c).length = 4 := rfl
theorem q_l4 {B : Nat} {r : Nat → Int32} {c : Nat} : (q_f4 B r c).length = 2 := rfl
theorem q_l5 {B : Nat} {r : Nat → Int32} {c : Nat} : (q_f5 B r c).length = 4 := rfl
theorem q_l6 {B : Nat} {r : Nat → Int32} {c : Nat} : (q_f6 B r c).length = 9 := rfl
theorem q_l7 {B : Nat} {r : Nat → Int32} {c : Nat} : (q_f7 B r c).length = 4 := rfl
theorem q_l8 {B : Nat} {r : Nat → Int32} {c : Nat} : (q_f8 B r c).length = 2 := rfl
theorem q_l9 {B : Nat} {r : Nat → Int32} {c : Nat} : (q_f9 B r c).length = 12 := rfl
theorem q_l10 {B : Nat} {r : Nat → Int32} {c : Nat} : (q_f10 B r c).length = 30 := rfl
/-! what a plot, the pegs, a dream are made of -/
def q_isPlot (c : Nat) : Prop := q_kd c = 6 ∧ q_kd (c + 1) = 10016 ∧ q_kd (c + 2) = 10016
def q_isPegs (c : Nat) : Prop := q_kd c = 5 ∧ q_kd (c + 1) = 10008 ∧ q_kd (c + 2) = 10008 ∧ q_kd (c + 3) = 10008
def q_isDream (c : Nat) : Prop := q_kd c = 2 ∧ q_kd (c + 1) = 10005 ∧ q_kd (c + 2) = 40000 ∧ q_isPlot (c + 3) ∧ q_isPegs (c + 6) ∧ ∀ i, i < 5 → q_isPlot (c + (10 + 3 * i))
def f_X2_plotOf (z0 : Nat) (i : Int32) : Nat := if i < 0 then z0 + 3 else if 5 ≤ i then z0 + 3 else z0 + (10 + 3 * i.toNatClampNeg)
theorem q_i5 {i : Int32} {N : Nat} (hN : N < 2 ^ 31) (h0 : ¬ i < 0) (h5 : ¬ Int32.ofNat N ≤ i) : i.toNatClampNeg < N := by
  rcases pk_ix i hN with h | h | ⟨j, hj, rfl⟩
  · exact absurd h h0
  · exact absurd h h5
  · rw [nI_clamp (by omega)]; exact hj
theorem q_plotOf_ok {c : Nat} (h : q_isDream c) (i : Int32) : q_isPlot (f_X2_plotOf c i) := by
  unfold f_X2_plotOf
  split
  · exact h.2.2.2.1
  · split
    · exact h.2.2.2.1
    · exact h.2.2.2.2.2 _ (q_i5 (N := 5) (by decide) (by assumption) (by assumption))
def f_X3_pastAt (i : Int32) : Nat := if i < 0 then 55 else if 8 ≤ i then 55 else 80 + 25 * i.toNatClampNeg
theorem q_past : ∀ i, i < 8 → q_isDream (80 + 25 * i) := by unfold q_isDream q_isPlot q_isPegs; decide +kernel
theorem q_pastAt_ok (i : Int32) : q_isDream (f_X3_pastAt i) := by
  unfold f_X3_pastAt
  split
  · unfold q_isDream q_isPlot q_isPegs; decide +kernel
  · split
    · unfold q_isDream q_isPlot q_isPegs; decide +kernel
    · exact q_past _ (q_i5 (N := 8) (by decide) (by assumption) (by assumption))
def f_X9_numberAt (σ : q_S) (c : Nat) (N : Nat) (i : Int32) : Int32 := if i < 0 then 0 else if Int32.ofNat N ≤ i then 0 else σ c i.toNatClampNeg
def f_X9_setNumberAt (σ : q_S) (c : Nat) (N : Nat) (i v : Int32) : q_S := if i < 0 then σ else if Int32.ofNat N ≤ i then σ else q_up σ c i.toNatClampNeg v
def f_X9_copyNumbers (σ : q_S) (c0 N c1 _N1 : Nat) : q_S := q_row σ c1 (fun j => if j < N then σ c0 j else σ c1 j)
