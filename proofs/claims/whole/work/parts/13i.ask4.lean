/-! the next hour with a lit peg; typing; the owned cells, the means -/
def ab_ml (D : Nat → Int) : Nat → Nat → Int → Int
  | 0, _, v => v
  | r + 1, k, v => ab_ml D r (k + 1) (if ab_lt D k < v then ab_lt D k else v)
section
variable {σ : q_S} {D : Nat → Int} {B : Int}
theorem ab_anyLit_lp (hC : ab_CR σ 2 D) (hW : ab_WD B D) (hB : B ≤ 1000000000) : ∀ r k : Nat, ((k + r : Nat) : Int) = D 1 → ∀ f, r < f → ∀ v : Int, 0 ≤ v → v ≤ 9 → f_X5_hoursUntilAnyLit_9 8 σ f (ab_I (D 2)) (ab_I v) (ab_I k) = some (ab_I (ab_ml D r k v)) := by
  have w3 := hW.2.2.1
  have w4 := hW.2.2.2.1
  intro r
  induction r with
  | zero =>
    intro k hk f hf v v0 v9
    obtain ⟨f, rfl⟩ : ∃ g, f = g + 1 := ⟨f - 1, by omega⟩
    rw [f_X5_hoursUntilAnyLit_9, show σ 8 0 = _ from hC.2.1, if_pos (by rw [ab_Ile (by omega) (by omega) (by omega) (by omega)]; omega)]
    rfl
  | succ r ih =>
    intro k hk f hf v v0 v9
    obtain ⟨f, rfl⟩ : ∃ g, f = g + 1 := ⟨f - 1, by omega⟩
    have b := ab_lt_b hW (p := k) (by omega)
    rw [f_X5_hoursUntilAnyLit_9, show σ 8 0 = _ from hC.2.1, if_neg (by rw [ab_Ile (by omega) (by omega) (by omega) (by omega)]; omega), show f_X5_hoursUntilLit σ 8 (ab_I k) (ab_I (D 2)) = _ from ab_until hC hW hB (by omega) (by omega), Option.bind_some, ab_I1, ab_ml]
    simp only [ab_Ilt (a := ab_lt D k) (b := v) (by omega) (by omega) (by omega) (by omega), ab_Ite]
    exact ih (k + 1) (by omega) f (by omega) _ (by split <;> omega) (by split <;> omega)
theorem ab_nextLit_lp (hM : ab_MR σ 293 0 D) (hW : ab_WD B D) (hB : B ≤ 1000000000) (h4 : σ 292 4 = 0) : ∀ r k : Nat, ((k + r : Nat) : Int) = D 1 → ∀ f, r < f → ∀ v : Int, 0 ≤ v → v ≤ 9 → f_X10_nextLit_23 f (ab_I v) (ab_I k) σ = some (ab_I (D 2) + ab_I (ab_ml D r k v), σ) := by
  have w3 := hW.2.2.1
  have w4 := hW.2.2.2.1
  have m1 : σ 293 1 = ab_I (D 1) := hM 1 (by decide)
  have m2 : σ 293 2 = ab_I (D 2) := hM 2 (by decide)
  intro r
  induction r with
  | zero =>
    intro k hk f hf v v0 v9
    obtain ⟨f, rfl⟩ : ∃ g, f = g + 1 := ⟨f - 1, by omega⟩
    rw [f_X10_nextLit_23, m1, if_pos (by rw [ab_Ile (by omega) (by omega) (by omega) (by omega)]; omega), h4, if_pos (show (0 : Int32) ≤ 0 by decide), m2]
    rfl
  | succ r ih =>
    intro k hk f hf v v0 v9
    obtain ⟨f, rfl⟩ : ∃ g, f = g + 1 := ⟨f - 1, by omega⟩
    have b := ab_lt_b hW (p := k) (by omega)
    rw [f_X10_nextLit_23, m1, if_neg (by rw [ab_Ile (by omega) (by omega) (by omega) (by omega)]; omega), ab_litIn hM hW hB (by omega) (by omega), Option.bind_some, Option.bind_some, ab_I1, ab_ml]
    by_cases q : ab_lt D k < v
    · rw [if_neg (by rw [ab_Ile (by omega) (by omega) (by omega) (by omega)]; omega), if_pos q]
      exact ih (k + 1) (by omega) f (by omega) _ (by omega) (by omega)
    · rw [if_pos (by rw [ab_Ile (by omega) (by omega) (by omega) (by omega)]; omega), if_neg q]
      exact ih (k + 1) (by omega) f (by omega) _ (by omega) (by omega)
end
theorem ab_ok_21 {t : Nat} {σ : q_S} (hI : ab_Inv t σ) (_ht : t < 512) (a b c : Int32) : w_ok_21 σ a b c (ab_Inv (t + 1)) := by
  have hI2 := hI
  obtain ⟨D, ⟨hC, hM, hW⟩, hO⟩ := hI
  have m1 : σ 293 1 = ab_I (D 1) := hM 1 (by decide)
  have hM' : ab_MR (q_up σ 292 4 0) 293 0 D := hM
  have w3 := hW.2.2.1
  have w4 := hW.2.2.2.1
  have hB : (200 * t : Int) ≤ 1000000000 := by omega
  unfold w_ok_21
  by_cases q : D 1 = 0
  · refine ⟨4, 0, 0, q_up σ 292 4 1, ?_, .inr rfl, ?_, rfl, fun z => absurd z (by decide), ab_sI hI2 1⟩
    · unfold f_X9_nextLit
      rw [show σ 8 0 = _ from hC.2.1, q, if_pos (show ab_I 0 = 0 from rfl)]
    · unfold f_X10_nextLit
      rw [m1, q, if_pos (show ab_I 0 = 0 from rfl)]
      show f_X10_nextLit_23 (2999 + 1) 9 0 (q_up σ 292 4 1) = _
      rw [f_X10_nextLit_23, ab_up_ne (show (293 : Nat) ≠ 292 by decide), m1, q, if_pos (show ab_I 0 ≤ 0 by decide), ab_up_at, if_neg (show ¬ ((1 : Int32) ≤ 0) by decide)]
  · obtain ⟨n, hn⟩ : ∃ n : Nat, D 1 = ((n + 1 : Nat) : Int) := ⟨(D 1).toNat - 1, by omega⟩
    have b := ab_lt_b hW (p := 0) (by omega)
    have g := ab_nextLit_lp hM' hW hB ab_up_at (n + 1) 0 (by omega) q_fu (by unfold q_fu; omega) 9 (by decide) (by decide)
    have h := ab_anyLit_lp hC hW hB n 1 (by omega) q_fu (by unfold q_fu; omega) (ab_lt D 0) (by omega) (by omega)
    rw [ab_ml, if_pos (show ab_lt D 0 < 9 by omega)] at g
    refine ⟨0, ab_I (D 2) + ab_I (ab_ml D n 1 (ab_lt D 0)), _, q_up σ 292 4 0, ?_, .inl rfl, ?_, rfl, fun _ => rfl, ab_sI hI2 0⟩
    · unfold f_X9_nextLit f_X5_hoursUntilAnyLit
      rw [show σ 8 0 = _ from hC.2.1, if_neg (by rw [show (0 : Int32) = ab_I 0 from rfl, ab_Ieq (by omega) (by omega) (by omega) (by omega)]; exact q), hC.2.2.1, show f_X5_hoursUntilLit σ 8 0 (ab_I (D 2)) = _ from ab_until hC hW hB (p := 0) (by omega) (by decide), Option.bind_some, show f_X5_hoursUntilAnyLit_9 8 σ q_fu (ab_I (D 2)) (ab_I (ab_lt D 0)) 1 = _ from h, Option.bind_some]
    · unfold f_X10_nextLit
      rw [m1, if_neg (by rw [show (0 : Int32) = ab_I 0 from rfl, ab_Ieq (by omega) (by omega) (by omega) (by omega)]; exact q)]
      exact g
theorem ab_ok_23 {t : Nat} {σ : q_S} (hI : ab_Inv t σ) (_ht : t < 512) (a b c : Int32) : w_ok_23 σ a b c (ab_Inv (t + 1)) := by
  have hI2 := hI
  obtain ⟨D, ⟨hC, hM, hW⟩, hO⟩ := hI
  have hO2 := hO
  obtain ⟨hH, hS, hR, hm, ⟨n, n60, t1, t2, t3⟩, hL⟩ := hO2
  obtain ⟨d, d0, d1, d2⟩ := ab_char a.toUInt32
  unfold w_ok_23
  rw [d1]
  by_cases q : n = 60
  · subst q
    refine ⟨5, 0, 0, σ, q_up (q_up σ 292 4 0) 292 4 1, ?_, .inr rfl, ?_, rfl, fun z => absurd z (by decide), ab_sI2 hI2 0 1⟩
    · unfold f_X9_type
      rw [t1, if_neg (show ¬ ab_I ((60 : Nat) : Int) < 0 by decide), if_neg (show ¬ ab_I ((60 : Nat) : Int) < 60 by decide)]
    · unfold f_X10_type
      rw [ab_up_nk (by decide), t2, if_pos (show ab_I ((60 : Nat) : Int) = 60 from rfl)]
      rfl
  · have hn : vp_nar .char (ab_I d) = ab_I d := by
      unfold vp_nar
      rw [q_cn d2]
    have e1 : ab_I n + 1 = ab_I ((n + 1 : Nat) : Int) := ab_I1 n
    refine ⟨0, ab_I ((n + 1 : Nat) : Int), ab_I ((n + 1 : Nat) : Int), q_up (q_up σ 283 n (ab_I d)) 0 8 (ab_I ((n + 1 : Nat) : Int)), q_up (q_up (q_up (q_up (q_up σ 283 n (ab_I d)) 0 8 (ab_I ((n + 1 : Nat) : Int))) 292 4 0) 299 n (ab_I d)) 292 22 (ab_I ((n + 1 : Nat) : Int)), ?_, .inl rfl, ?_, ?_, fun _ => rfl, D, ⟨?_, ?_, hW.mono (by omega)⟩, hH.same (by omega) ?_ ?_ (fun c g1 g2 => ?_) ?_, hS.same (by omega) ?_ ?_ (fun c g1 g2 => ?_) ?_, hR.same ?_ (fun k g1 g2 => ?_), ?_, ⟨n + 1, by omega, ?_, ?_, fun k hk => ?_⟩, hL.same ?_ ?_ ?_ ?_⟩
    · unfold f_X9_type
      rw [t1, if_neg (show ¬ ab_I (n : Int) < 0 by rw [ab_Iltc (by omega) (by omega)]; exact id), if_pos (by rw [show (60 : Int32) = ab_I 60 from rfl, ab_Ilt (by omega) (by omega) (by omega) (by omega)]; omega), ab_Icl (by omega) (by omega), Int.toNat_natCast, if_neg (by rw [ab_Iltc (by omega) (by omega)]; exact fun h => h.elim id (fun h => by omega)), hn, ab_up_ne (show (0 : Nat) ≠ 283 by decide), t1, e1, ab_up_at]
    · unfold f_X10_type
      have e2 : q_up (q_up (q_up σ 283 n (ab_I d)) 0 8 (ab_I ((n + 1 : Nat) : Int))) 292 4 0 292 22 = ab_I n := by
        rw [ab_up_nk (by decide), ab_up_ne (by decide), ab_up_ne (by decide), t2]
      rw [e2, if_neg (by rw [show (60 : Int32) = ab_I 60 from rfl, ab_Ieq (by omega) (by omega) (by omega) (by omega)]; omega), ab_Icl (by omega) (by omega), Int.toNat_natCast, if_neg (by rw [ab_Iltc (by omega) (by omega)]; exact fun h => h.elim id (fun h => by omega)), ab_up_ne (show (292 : Nat) ≠ 299 by decide), e2, e1, ab_up_at]
    · show q_up _ 292 22 _ 292 4 = _
      rw [ab_up_nk (by decide), ab_up_ne (by decide), ab_up_at]
      rfl
    · exact hC.same hW.2.1 (fun c g1 g2 => by rw [ab_up_ne (by omega), ab_up_ne (by omega), ab_up_ne (by omega), ab_up_ne (by omega), ab_up_ne (by omega)])
    · intro k hk
      rw [ab_up_ne (by decide), ab_up_ne (by decide), ab_up_ne (by decide), ab_up_ne (by decide), ab_up_ne (by decide)]
      exact hM k hk
    · rw [ab_up_ne (by decide), ab_up_ne (by decide), ab_up_ne (by decide), ab_up_ne (by decide), ab_up_ne (by decide)]
    · rw [ab_up_nk (by decide), ab_up_ne (by decide), ab_up_nk (by decide), ab_up_ne (by decide), ab_up_ne (by decide)]
    · rw [ab_up_ne (by omega), ab_up_ne (by omega), ab_up_ne (by omega), ab_up_ne (by omega), ab_up_ne (by omega)]
    · rw [ab_up_ne (by decide), ab_up_ne (by decide), ab_up_ne (by decide), ab_up_ne (by decide), ab_up_ne (by decide)]
    · rw [ab_up_ne (by decide), ab_up_ne (by decide), ab_up_ne (by decide), ab_up_nk (by decide), ab_up_ne (by decide)]
    · rw [ab_up_nk (by decide), ab_up_ne (by decide), ab_up_nk (by decide), ab_up_ne (by decide), ab_up_ne (by decide)]
    · rw [ab_up_ne (by omega), ab_up_ne (by omega), ab_up_ne (by omega), ab_up_ne (by omega), ab_up_ne (by omega)]
    · rw [ab_up_ne (by decide), ab_up_ne (by decide), ab_up_ne (by decide), ab_up_ne (by decide), ab_up_ne (by decide)]
    · rw [ab_up_ne (by decide), ab_up_ne (by decide), ab_up_ne (by decide), ab_up_ne (by decide), ab_up_ne (by decide)]
    · rw [ab_up_nk (by omega), ab_up_ne (by decide), ab_up_nk (by omega), ab_up_ne (by decide), ab_up_ne (by decide)]
    · rw [ab_up_ne (show (0 : Nat) ≠ 292 by decide), ab_up_ne (show (0 : Nat) ≠ 299 by decide), ab_up_ne (show (0 : Nat) ≠ 292 by decide), ab_up_nk (by decide), ab_up_ne (show (0 : Nat) ≠ 283 by decide), ab_up_nk (by decide), ab_up_ne (by decide), ab_up_nk (by decide), ab_up_ne (by decide), ab_up_ne (by decide)]
      exact hm
    · rw [ab_up_ne (by decide), ab_up_ne (by decide), ab_up_ne (by decide), ab_up_at]
    · rw [ab_up_at]
    · rw [ab_up_ne (show (283 : Nat) ≠ 292 by decide), ab_up_ne (show (283 : Nat) ≠ 299 by decide), ab_up_ne (show (283 : Nat) ≠ 292 by decide), ab_up_ne (show (283 : Nat) ≠ 0 by decide), ab_up_ne (show (299 : Nat) ≠ 292 by decide)]
      by_cases e : k = n
      · subst e
        rw [ab_up_at, ab_up_at, ab_Iint (by omega) (by omega)]
        exact ⟨rfl, by omega, by omega⟩
      · rw [ab_up_nk e, ab_up_nk e, ab_up_ne (by decide), ab_up_ne (by decide), ab_up_ne (by decide)]
        exact t3 k (by omega)
    · rw [ab_up_ne (by decide), ab_up_ne (by decide), ab_up_ne (by decide), ab_up_ne (by decide), ab_up_ne (by decide)]
    · rw [ab_up_nk (by decide), ab_up_ne (by decide), ab_up_nk (by decide), ab_up_ne (by decide), ab_up_ne (by decide)]
    · rw [ab_up_ne (by decide), ab_up_ne (by decide), ab_up_ne (by decide), ab_up_ne (by decide), ab_up_ne (by decide)]
    · rw [ab_up_ne (by decide), ab_up_ne (by decide), ab_up_ne (by decide), ab_up_ne (by decide), ab_up_ne (by decide)]
