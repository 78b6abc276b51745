/-! each place is held by one -/
theorem ab_S_mono {f g : Nat → Int} : ∀ n : Nat, (∀ j, j < n → f j ≤ g j) → ab_S f n ≤ ab_S g n := by
  intro n
  induction n with
  | zero => exact fun _ => Int.le_refl _
  | succ n ih =>
    intro h
    have a := ih (fun j hj => h j (by omega))
    have b := h n (by omega)
    show ab_S f n + f n ≤ ab_S g n + g n
    omega
theorem ab_S_lt {f g : Nat → Int} {k : Nat} (hk : f k < g k) : ∀ n : Nat, k < n → (∀ j, j < n → f j ≤ g j) → ab_S f n < ab_S g n := by
  intro n
  induction n with
  | zero => exact fun h => absurd h (by omega)
  | succ n ih =>
    intro hkn h
    show ab_S f n + f n < ab_S g n + g n
    by_cases e : k = n
    · subst e
      have a := ab_S_mono k (fun j hj => h j (by omega))
      omega
    · have a := ih (by omega) (fun j hj => h j (by omega))
      have b := h n (by omega)
      omega
def ab_rk (D : Nat → Int) (n s : Nat) : Int := ab_S (fun o => ab_ah D o s) n
section
variable {D : Nat → Int} {B : Int}
theorem ab_ky_inj (hW : ab_WD B D) {o s : Nat} (ho : (o : Int) < D 0) (hs : (s : Int) < D 0) (h : ab_ky D o = ab_ky D s) : o = s := by
  have w5 := hW.2.1
  have d1 := ab_dep hW ho
  have d2 := ab_dep hW hs
  have n1 := ab_cn_b (D := D) (h := 0) (s := o)
  have n2 := ab_cn_b (D := D) (h := 0) (s := s)
  unfold ab_ky at h
  omega
theorem ab_rk_lt {n o s : Nat} (ho : o < n) (h : ab_ky D s < ab_ky D o) : ab_rk D n o < ab_rk D n s := by
  unfold ab_rk
  refine ab_S_lt (k := o) ?_ n ho (fun j hj => ?_)
  · unfold ab_ah
    rw [if_neg (by omega), if_pos h]
    decide
  · unfold ab_ah
    (repeat' split) <;> omega
theorem ab_rk_b {n s : Nat} (hs : s < n) : 0 ≤ ab_rk D n s ∧ ab_rk D n s < n := by
  unfold ab_rk
  refine ⟨ab_S_nonneg (fun j hj => by unfold ab_ah; split <;> decide), ?_⟩
  have h := ab_S_lt (f := fun o => ab_ah D o s) (g := fun _ => 1) (k := s) (by show ab_ah D s s < 1; unfold ab_ah; rw [if_neg (by omega)]; decide) n hs (fun j hj => by unfold ab_ah; split <;> decide)
  rw [ab_S_const] at h
  omega
theorem ab_rk_inj (hW : ab_WD B D) {n o s : Nat} (hn : D 0 = n) (ho : o < n) (hs : s < n) (h : ab_rk D n o = ab_rk D n s) : o = s := by
  by_cases e : ab_ky D o = ab_ky D s
  · exact ab_ky_inj hW (by omega) (by omega) e
  · rcases (show ab_ky D s < ab_ky D o ∨ ab_ky D o < ab_ky D s by omega) with q | q
    · have := ab_rk_lt (n := n) ho q
      omega
    · have := ab_rk_lt (n := n) hs q
      omega
end
