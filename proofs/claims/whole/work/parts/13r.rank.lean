/-! who is ahead of whom -/
/-- the key by which sleepers are ranked -/
def ab_ky (D : Nat → Int) (s : Nat) : Int := ab_cn D 0 s * 1000 + D (30 + 37 * s) * 10 + (9 - s)
def ab_ah (D : Nat → Int) (o s : Nat) : Int := if ab_ky D s < ab_ky D o then 1 else 0
section
variable {σ τ : q_S} {D : Nat → Int} {B : Int}
theorem ab_dep (hW : ab_WD B D) {s : Nat} (hs : (s : Int) < D 0) : 0 ≤ D (30 + 37 * s) ∧ D (30 + 37 * s) ≤ 9 := ⟨(hW.2.2.2.2.2.2.2.2.1 s hs).1, (hW.2.2.2.2.2.2.2.2.1 s hs).2.1⟩
theorem ab_aheadC (hC : ab_CR τ 2 D) (hW : ab_WD B D) (h : ∀ s : Nat, s < 5 → τ 282 s = ab_I (ab_cn D 0 s)) {o s : Nat} (ho : (o : Int) < D 0) (hs : (s : Int) < D 0) : f_X9_isAhead τ (ab_I o) (ab_I s) = ab_I (ab_ah D o s) := by
  have w5 := hW.2.1
  have d1 := ab_dep hW ho
  have d2 := ab_dep hW hs
  have n1 := ab_cn_b (D := D) (h := 0) (s := o)
  have n2 := ab_cn_b (D := D) (h := 0) (s := s)
  unfold f_X9_isAhead f_X0_countOf ab_ah ab_ky
  rw [ab_at (by omega) (by decide), ab_at (by omega) (by decide), h o (by omega), h s (by omega), ab_depthOf hC ho (by omega), ab_depthOf hC hs (by omega), ab_Isub, ab_Isub, show (0 : Int32) = ab_I 0 from rfl, show (1 : Int32) = ab_I 1 from rfl]
  simp only [ab_Ieq (a := ab_cn D 0 o - ab_cn D 0 s) (b := 0) (by omega) (by omega) (by omega) (by omega), ab_Ieq (a := D (30 + 37 * o) - D (30 + 37 * s)) (b := 0) (by omega) (by omega) (by omega) (by omega), ab_Ile (a := (s : Int)) (b := o) (by omega) (by omega) (by omega) (by omega), ab_Ile (a := ab_cn D 0 o - ab_cn D 0 s) (b := 0) (by omega) (by omega) (by omega) (by omega), ab_Ile (a := D (30 + 37 * o) - D (30 + 37 * s)) (b := 0) (by omega) (by omega) (by omega) (by omega)]
  (repeat' split) <;> first | rfl | omega
theorem ab_aheadR (hM : ab_MR σ 293 0 D) (hW : ab_WD B D) (h : ∀ s : Nat, (s : Int) < D 0 → σ 298 s = ab_I (ab_cn D 0 s)) {o s : Nat} (ho : (o : Int) < D 0) (hs : (s : Int) < D 0) : f_X10_isAhead σ (ab_I o) (ab_I s) = some (ab_I (ab_ah D o s)) := by
  have w5 := hW.2.1
  have d1 := ab_dep hW ho
  have d2 := ab_dep hW hs
  have n1 := ab_cn_b (D := D) (h := 0) (s := o)
  have n2 := ab_cn_b (D := D) (h := 0) (s := s)
  have o5 : o < 5 := by omega
  have s5 : s < 5 := by omega
  have go : ¬ (ab_I (o : Int) < 0 ∨ 5 ≤ (ab_I (o : Int)).toNatClampNeg) := by
    rw [ab_Icl (by omega) (by omega), Int.toNat_natCast, ab_Iltc (by omega) (by omega)]
    exact fun h => h.elim id (fun h => by omega)
  have gs : ¬ (ab_I (s : Int) < 0 ∨ 5 ≤ (ab_I (s : Int)).toNatClampNeg) := by
    rw [ab_Icl (by omega) (by omega), Int.toNat_natCast, ab_Iltc (by omega) (by omega)]
    exact fun h => h.elim id (fun h => by omega)
  have e0 : ∀ z : Nat, z < 5 → f_X10_sv σ (ab_I z) 0 = some (ab_I (D (30 + 37 * z))) := fun z hz => (ab_svn hM hz).1
  unfold f_X10_isAhead ab_ah ab_ky
  rw [if_neg go, if_neg gs, if_neg go, if_neg gs, ab_Icl (by omega) (by omega), ab_Icl (by omega) (by omega), Int.toNat_natCast, Int.toNat_natCast, h o ho, h s hs, e0 o o5, e0 s s5]
  simp only [Option.bind_some, ab_Ieq (a := ab_cn D 0 o) (b := ab_cn D 0 s) (by omega) (by omega) (by omega) (by omega), ab_Ilt (a := D (30 + 37 * s)) (b := D (30 + 37 * o)) (by omega) (by omega) (by omega) (by omega), ab_Ieq (a := D (30 + 37 * o)) (b := D (30 + 37 * s)) (by omega) (by omega) (by omega) (by omega), ab_Ile (a := (s : Int)) (b := o) (by omega) (by omega) (by omega) (by omega), ab_Ile (a := ab_cn D 0 o) (b := ab_cn D 0 s) (by omega) (by omega) (by omega) (by omega)]
  (repeat' split) <;> first | rfl | omega
end
