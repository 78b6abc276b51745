/-! a command of a text carried out -/
section
variable {σ ρ : q_S} {D : Nat → Int} {B : Int}
theorem rd_isNot1 : f_X10_isNot (q_up ρ 292 27 0) 0 = some (1, q_up ρ 292 27 1) := by
  unfold f_X10_isNot
  rw [if_pos rfl, ab_up_up, ab_up_at, if_pos (.inr rfl)]
theorem rd_isNot0 {a : Int32} (h : a ≠ 0) : f_X10_isNot (q_up ρ 292 27 0) a = some (0, q_up ρ 292 27 0) := by
  unfold f_X10_isNot
  rw [if_neg h, ab_up_up, ab_up_at, if_pos (.inl rfl)]
/-- how a command ends, for both alike -/
def rd_out (B : Int) (σ ρ : q_S) (rc can : Option (Int32 × q_S)) : Prop :=
  ((rc = some (-1, σ) ∨ rc = some (-2, σ)) ∧ can = some (1, q_up ρ 292 27 1)) ∨
  (∃ (w m : Int32) (υ : q_S), w ≠ 0 ∧ rc = some (f_X7_refuse σ w m) ∧ can = some (1, υ) ∧ ab_fR (q_up ρ 292 27 0) υ ∧ υ 292 6 = w ∧ υ 292 7 = m) ∨
  (∃ (v : Int) (D2 : Nat → Int) (τ υ υ2 : q_S), 0 ≤ v ∧ v ≤ 1000000 ∧ rc = some (ab_I v, τ) ∧ can = some (0, υ2) ∧ ab_fR (q_up ρ 292 27 0) υ ∧ ab_fM υ υ2 ∧ ab_MR υ2 293 0 D2 ∧ ab_CR τ 2 D2 ∧ ab_WD (B + 20) D2 ∧ ab_fC σ τ)
theorem rd_fin {rc : Option (Int32 × q_S)} {bad : Nat → Prop} {isr : Option (Int32 × q_S)} {carry : q_S → Option (Int32 × q_S)} {can : Option (Int32 × q_S)} (h : ab_sim B σ (q_up ρ 292 27 0) rc bad isr carry)
    (k1 : bad 1 ∨ bad 2 → can = some (1, q_up ρ 292 27 1)) (k0 : bad 0 → can = Option.bind isr (fun q => if q.1 = 0 then Option.bind (carry q.2) (fun q16 => some (0, q16.2)) else some (1, q.2))) : rd_out B σ ρ rc can := by
  rcases h with ⟨h1, h2⟩ | ⟨h1, h2⟩ | ⟨h1, w, n, υ, h2, h3, h4, h5, h6, h7⟩ | ⟨h1, v, D2, τ, υ, υ2, v0, v1, h2, h3, h4, h5, h6, h7, h8, h9, h10⟩
  · exact .inl ⟨.inl h2, k1 (.inl h1)⟩
  · exact .inl ⟨.inr h2, k1 (.inr h1)⟩
  · refine .inr (.inl ⟨w, n, υ, h2, h3, ?_, h5, h6, h7⟩)
    rw [k0 h1, h4, Option.bind_some, if_neg (show ¬ (1 : Int32) = 0 by decide)]
  · refine .inr (.inr ⟨v, D2, τ, υ, υ2, v0, v1, h2, ?_, h4, h10, h6, h7, h8, h9⟩)
    rw [k0 h1, h3, Option.bind_some, if_pos (show (0 : Int32) = 0 from rfl)]
    dsimp only
    rw [h5, Option.bind_some]
theorem rd_eta (x : Option (Int32 × q_S)) : Option.bind x (fun q => some (q.1, q.2)) = x := by
  cases x <;> rfl
/-- without the looks at the places -/
theorem rd_can {i : Nat} (hi : i < 10) : (∀ {P : Prop}, (¬ ((3 : Int32) * ab_I i < 0 ∨ 96 ≤ ((3 : Int32) * ab_I i).toNatClampNeg) → ¬ ((3 : Int32) * ab_I i + 1 < 0 ∨ 96 ≤ ((3 : Int32) * ab_I i + 1).toNatClampNeg) → ¬ ((3 : Int32) * ab_I i + 2 < 0 ∨ 96 ≤ ((3 : Int32) * ab_I i + 2).toNatClampNeg) → ¬ (ab_I (i : Int) < 0 ∨ 32 ≤ (ab_I (i : Int)).toNatClampNeg) → ((3 : Int32) * ab_I i).toNatClampNeg = 3 * i → ((3 : Int32) * ab_I i + 1).toNatClampNeg = 3 * i + 1 → ((3 : Int32) * ab_I i + 2).toNatClampNeg = 3 * i + 2 → (ab_I (i : Int)).toNatClampNeg = i → P) → P) := by
  have e3 : (3 : Int32) * ab_I i = ab_I ((3 * i : Nat) : Int) := by
    rw [show (3 : Int32) = ab_I 3 from rfl, ab_Imul]
    exact congrArg ab_I (by omega)
  have e31 : ab_I ((3 * i : Nat) : Int) + 1 = ab_I ((3 * i + 1 : Nat) : Int) := ab_ip (c := 1)
  have e32 : ab_I ((3 * i : Nat) : Int) + 2 = ab_I ((3 * i + 2 : Nat) : Int) := ab_ip (c := 2)
  have hc : ∀ m : Nat, m < 96 → (ab_I (m : Int)).toNatClampNeg = m := fun m hm => by rw [ab_Icl (by omega) (by omega), Int.toNat_natCast]
  have hg : ∀ m N : Nat, m < N → N ≤ 96 → ¬ (ab_I (m : Int) < 0 ∨ N ≤ (ab_I (m : Int)).toNatClampNeg) := fun m N hm hN => by
    rw [hc m (by omega), ab_Iltc (by omega) (by omega)]
    exact fun h => h.elim id (fun h => by omega)
  intro P k
  rw [e3, e31, e32] at k
  exact k (hg _ _ (by omega) (by omega)) (hg _ _ (by omega) (by omega)) (hg _ _ (by omega) (by omega)) (hg _ _ (by omega) (by omega)) (hc _ (by omega)) (hc _ (by omega)) (hc _ (by omega)) (hc _ (by omega))
theorem rd_carry (hC : ab_CR σ 2 D) (hM : ab_MR ρ 293 0 D) (hW : ab_WD B D) (hB : B ≤ 1000000000) {i : Nat} (hi : i < 10) (hcm : rd_cm σ ρ i) : rd_out B σ ρ (f_X9_carryOut σ (ab_I i)) (f_X10_cannot ρ (ab_I i)) := by
  have hM' : ab_MR (q_up ρ 292 27 0) 293 0 D := hM
  obtain ⟨j, hj, c1, c2, c3, c4, c5, c6⟩ := hcm
  have e300 : q_up ρ 292 27 0 300 i = ab_I j := by rw [ab_up_ne (by decide)]; exact c2
  apply rd_can hi
  intro g1 g2 g3 g4 k1 k2 k3 k4
  have n285 : f_X9_numberAt σ 285 10 (ab_I i) = ab_I j := (ab_at hi (by decide)).trans c1
  have n286 : f_X9_numberAt σ 286 10 (ab_I i) = ρ 301 (3 * i) := (ab_at hi (by decide)).trans c3
  have n287 : f_X9_numberAt σ 287 10 (ab_I i) = σ 287 i := ab_at hi (by decide)
  have n288 : f_X9_numberAt σ 288 10 (ab_I i) = σ 288 i := ab_at hi (by decide)
  unfold f_X9_carryOut f_X10_cannot
  rw [if_neg g1, if_neg g2, if_neg g3, if_neg g4, k1, k2, k3, k4, e300, n285, n286, n287, n288]
  have h : j = 0 ∨ j = 1 ∨ j = 2 ∨ j = 3 ∨ j = 4 ∨ j = 5 ∨ j = 6 ∨ j = 7 := by omega
  rcases h with rfl | rfl | rfl | rfl | rfl | rfl | rfl | rfl
  · -- new
    rw [if_pos (show ab_I ((0 : Nat) : Int) = 0 from rfl), if_pos (show ab_I ((0 : Nat) : Int) = 0 from rfl)]
    refine rd_fin (ab_sim_sleeper hC hM' hW (ρ 301 (3 * i))) (fun h => ?_) (fun h => ?_)
    · rcases h with (⟨q, hq⟩ | ⟨q, hq⟩) | (⟨q, hq⟩ | ⟨q, hq⟩)
      · exact absurd q (by decide)
      · exact absurd q (by decide)
      · rw [hq, rd_isNot1, Option.bind_some]; rfl
      · exact absurd q (by decide)
    · rcases h with ⟨q, hq⟩ | ⟨q, hq⟩
      · exact absurd q (by decide)
      · rw [hq, rd_isNot0 (by decide), Option.bind_some]; rfl
  · -- peg
    rw [if_neg (show ¬ ab_I ((1 : Nat) : Int) = 0 by decide), if_neg (show ¬ ab_I ((1 : Nat) : Int) = 0 by decide), if_pos (show ab_I ((1 : Nat) : Int) = 1 from rfl), if_pos (show ab_I ((1 : Nat) : Int) = 1 from rfl), c4 (by decide), c6 (by decide), rd_eta]
    refine rd_fin (ab_sim_peg hC hM' hW (ρ 301 (3 * i)) (ρ 301 (3 * i + 1)) (ρ 301 (3 * i + 2))) (fun h => ?_) (fun h => ?_)
    · unfold f_X10_cannot_141 f_X10_cannot_142
      rcases h with (⟨q, hq⟩ | ⟨q, hq, hq2⟩ | ⟨q, hq⟩) | (⟨q, hq⟩ | ⟨q, hq, hq2⟩ | ⟨q, hq⟩)
      · rw [hq, if_pos rfl, rd_isNot1, Option.bind_some]; rfl
      · exact absurd q (by decide)
      · exact absurd q (by decide)
      · exact absurd q (by decide)
      · rw [hq, if_neg (by decide), hq2, Option.bind_some, if_pos rfl, rd_isNot1, Option.bind_some]; rfl
      · exact absurd q (by decide)
    · unfold f_X10_cannot_141 f_X10_cannot_142
      rcases h with ⟨q, hq⟩ | ⟨q, hq, hq2⟩ | ⟨q, hq, hq2⟩
      · exact absurd q (by decide)
      · exact absurd q (by decide)
      · rw [hq, if_neg (by decide), hq2, Option.bind_some, if_neg (by decide), rd_isNot0 (by decide), Option.bind_some]; rfl
  · -- plot
    rw [if_neg (show ¬ ab_I ((2 : Nat) : Int) = 0 by decide), if_neg (show ¬ ab_I ((2 : Nat) : Int) = 0 by decide), if_neg (show ¬ ab_I ((2 : Nat) : Int) = 1 by decide), if_neg (show ¬ ab_I ((2 : Nat) : Int) = 1 by decide), if_pos (show ab_I ((2 : Nat) : Int) = 2 from rfl), if_pos (show ab_I ((2 : Nat) : Int) = 2 from rfl), c4 (by decide), c6 (by decide), rd_eta]
    refine rd_fin (ab_sim_plot hC hM' hW (ρ 301 (3 * i)) (ρ 301 (3 * i + 1)) (ρ 301 (3 * i + 2))) (fun h => ?_) (fun h => ?_)
    · unfold f_X10_cannot_195 f_X10_cannot_196
      rcases h with (⟨q, hq | ⟨hq, hq2⟩⟩ | ⟨q, hq⟩) | (⟨q, hq⟩ | ⟨q, hq⟩)
      · rw [hq, Option.bind_some, if_pos rfl, rd_isNot1, Option.bind_some]; rfl
      · rw [hq, Option.bind_some, if_neg (by decide), hq2, if_pos rfl, rd_isNot1, Option.bind_some]; rfl
      · exact absurd q (by decide)
      · exact absurd q (by decide)
      · exact absurd q (by decide)
    · unfold f_X10_cannot_195 f_X10_cannot_196
      rcases h with ⟨q, hq⟩ | ⟨q, hq, hq2⟩
      · exact absurd q (by decide)
      · rw [hq, Option.bind_some, if_neg (by decide), hq2, if_neg (by decide), rd_isNot0 (by decide), Option.bind_some]; rfl
  · -- lay
    rw [if_neg (show ¬ ab_I ((3 : Nat) : Int) = 0 by decide), if_neg (show ¬ ab_I ((3 : Nat) : Int) = 0 by decide), if_neg (show ¬ ab_I ((3 : Nat) : Int) = 1 by decide), if_neg (show ¬ ab_I ((3 : Nat) : Int) = 1 by decide), if_neg (show ¬ ab_I ((3 : Nat) : Int) = 2 by decide), if_neg (show ¬ ab_I ((3 : Nat) : Int) = 2 by decide), if_pos (show ab_I ((3 : Nat) : Int) = 3 from rfl), if_pos (show ab_I ((3 : Nat) : Int) = 3 from rfl), ← (c5 rfl).1, c6 (by decide), rd_eta]
    refine rd_fin (ab_sim_chain hC hM' hW hB (ρ 301 (3 * i)) (σ 287 i) (ρ 301 (3 * i + 2))) (fun h => ?_) (fun h => ?_)
    · unfold f_X10_cannot_245 f_X10_cannot_246
      rcases h with (⟨q, hq⟩ | ⟨q, hq⟩ | ⟨q, hq⟩) | (⟨q, hq⟩ | ⟨q, hq, hq2 | ⟨hq2, hq3⟩⟩ | ⟨q, hq⟩)
      · rw [hq, Option.bind_some, if_pos rfl, rd_isNot1, Option.bind_some]; rfl
      · exact absurd q (by decide)
      · exact absurd q (by decide)
      · exact absurd q (by decide)
      · exact absurd hq2 (c5 rfl).2
      · rw [hq, Option.bind_some, if_neg (by decide), hq3, Option.bind_some, if_pos rfl, rd_isNot1, Option.bind_some]; rfl
      · exact absurd q (by decide)
    · unfold f_X10_cannot_245 f_X10_cannot_246
      rcases h with ⟨q, hq⟩ | ⟨q, hq⟩ | ⟨q, hq, hq2, hq3⟩
      · exact absurd q (by decide)
      · exact absurd q (by decide)
      · rw [hq, Option.bind_some, if_neg (by decide), hq3, Option.bind_some, if_neg (by decide), rd_isNot0 (by decide), Option.bind_some]; rfl
  · -- bend
    rw [if_neg (show ¬ ab_I ((4 : Nat) : Int) = 0 by decide), if_neg (show ¬ ab_I ((4 : Nat) : Int) = 0 by decide), if_neg (show ¬ ab_I ((4 : Nat) : Int) = 1 by decide), if_neg (show ¬ ab_I ((4 : Nat) : Int) = 1 by decide), if_neg (show ¬ ab_I ((4 : Nat) : Int) = 2 by decide), if_neg (show ¬ ab_I ((4 : Nat) : Int) = 2 by decide), if_neg (show ¬ ab_I ((4 : Nat) : Int) = 3 by decide), if_neg (show ¬ ab_I ((4 : Nat) : Int) = 3 by decide), if_pos (show ab_I ((4 : Nat) : Int) = 4 from rfl), if_pos (show ab_I ((4 : Nat) : Int) = 4 from rfl), c4 (by decide), c6 (by decide), rd_eta]
    refine rd_fin (ab_sim_bend hC hM' hW hB (ρ 301 (3 * i)) (ρ 301 (3 * i + 1)) (ρ 301 (3 * i + 2))) (fun h => ?_) (fun h => ?_)
    · unfold f_X10_cannot_301 f_X10_cannot_302
      rcases h with (⟨q, hq⟩ | ⟨q, hq⟩ | ⟨q, hq⟩) | (⟨q, hq⟩ | ⟨q, hq, hq2⟩ | ⟨q, hq⟩)
      · rw [hq, Option.bind_some, if_pos rfl, rd_isNot1, Option.bind_some]; rfl
      · exact absurd q (by decide)
      · exact absurd q (by decide)
      · exact absurd q (by decide)
      · rw [hq, Option.bind_some, if_neg (by decide), if_pos hq2, rd_isNot1, Option.bind_some]; rfl
      · exact absurd q (by decide)
    · unfold f_X10_cannot_301 f_X10_cannot_302
      rcases h with ⟨q, hq⟩ | ⟨q, hq⟩ | ⟨q, hq, hq2⟩
      · exact absurd q (by decide)
      · exact absurd q (by decide)
      · rw [hq, Option.bind_some, if_neg (by decide), if_neg hq2, rd_isNot0 (by decide), Option.bind_some]; rfl
  · -- drop
    rw [if_neg (show ¬ ab_I ((5 : Nat) : Int) = 0 by decide), if_neg (show ¬ ab_I ((5 : Nat) : Int) = 0 by decide), if_neg (show ¬ ab_I ((5 : Nat) : Int) = 1 by decide), if_neg (show ¬ ab_I ((5 : Nat) : Int) = 1 by decide), if_neg (show ¬ ab_I ((5 : Nat) : Int) = 2 by decide), if_neg (show ¬ ab_I ((5 : Nat) : Int) = 2 by decide), if_neg (show ¬ ab_I ((5 : Nat) : Int) = 3 by decide), if_neg (show ¬ ab_I ((5 : Nat) : Int) = 3 by decide), if_neg (show ¬ ab_I ((5 : Nat) : Int) = 4 by decide), if_neg (show ¬ ab_I ((5 : Nat) : Int) = 4 by decide), if_pos (show ab_I ((5 : Nat) : Int) = 5 from rfl), if_pos (show ab_I ((5 : Nat) : Int) = 5 from rfl)]
    refine rd_fin (ab_sim_drop hC hM' hW (ρ 301 (3 * i))) (fun h => ?_) (fun h => ?_)
    · rcases h with (⟨q, hq⟩ | ⟨q, hq⟩) | (⟨q, hq⟩ | ⟨q, hq⟩)
      · rw [hq, Option.bind_some, rd_isNot1, Option.bind_some]; rfl
      · exact absurd q (by decide)
      · exact absurd q (by decide)
      · exact absurd q (by decide)
    · rcases h with ⟨q, hq⟩ | ⟨q, hq⟩
      · exact absurd q (by decide)
      · rw [hq, Option.bind_some, rd_isNot0 (by decide), Option.bind_some]; rfl
  · -- deep
    rw [if_neg (show ¬ ab_I ((6 : Nat) : Int) = 0 by decide), if_neg (show ¬ ab_I ((6 : Nat) : Int) = 0 by decide), if_neg (show ¬ ab_I ((6 : Nat) : Int) = 1 by decide), if_neg (show ¬ ab_I ((6 : Nat) : Int) = 1 by decide), if_neg (show ¬ ab_I ((6 : Nat) : Int) = 2 by decide), if_neg (show ¬ ab_I ((6 : Nat) : Int) = 2 by decide), if_neg (show ¬ ab_I ((6 : Nat) : Int) = 3 by decide), if_neg (show ¬ ab_I ((6 : Nat) : Int) = 3 by decide), if_neg (show ¬ ab_I ((6 : Nat) : Int) = 4 by decide), if_neg (show ¬ ab_I ((6 : Nat) : Int) = 4 by decide), if_neg (show ¬ ab_I ((6 : Nat) : Int) = 5 by decide), if_neg (show ¬ ab_I ((6 : Nat) : Int) = 5 by decide), if_pos (show ab_I ((6 : Nat) : Int) = 6 from rfl), if_pos (show ab_I ((6 : Nat) : Int) = 6 from rfl), c4 (by decide)]
    refine rd_fin (ab_sim_deep hC hM' hW (ρ 301 (3 * i)) (ρ 301 (3 * i + 1))) (fun h => ?_) (fun h => ?_)
    · unfold f_X10_cannot_385 f_X10_cannot_386
      rcases h with (⟨q, hq⟩ | ⟨q, hq⟩ | ⟨q, hq⟩) | (⟨q, hq⟩ | ⟨q, hq, hq2⟩ | ⟨q, hq⟩)
      · rw [hq, Option.bind_some, if_pos rfl, rd_isNot1, Option.bind_some]; rfl
      · exact absurd q (by decide)
      · exact absurd q (by decide)
      · exact absurd q (by decide)
      · rw [hq, Option.bind_some, if_neg (by decide), hq2, Option.bind_some, if_pos rfl, rd_isNot1, Option.bind_some]; rfl
      · exact absurd q (by decide)
    · unfold f_X10_cannot_385 f_X10_cannot_386
      rcases h with ⟨q, hq⟩ | ⟨q, hq⟩ | ⟨q, hq, hq2⟩
      · exact absurd q (by decide)
      · exact absurd q (by decide)
      · rw [hq, Option.bind_some, if_neg (by decide), hq2, Option.bind_some, if_neg (by decide), rd_isNot0 (by decide), Option.bind_some]; rfl
  · -- dusk
    rw [if_neg (show ¬ ab_I ((7 : Nat) : Int) = 0 by decide), if_neg (show ¬ ab_I ((7 : Nat) : Int) = 0 by decide), if_neg (show ¬ ab_I ((7 : Nat) : Int) = 1 by decide), if_neg (show ¬ ab_I ((7 : Nat) : Int) = 1 by decide), if_neg (show ¬ ab_I ((7 : Nat) : Int) = 2 by decide), if_neg (show ¬ ab_I ((7 : Nat) : Int) = 2 by decide), if_neg (show ¬ ab_I ((7 : Nat) : Int) = 3 by decide), if_neg (show ¬ ab_I ((7 : Nat) : Int) = 3 by decide), if_neg (show ¬ ab_I ((7 : Nat) : Int) = 4 by decide), if_neg (show ¬ ab_I ((7 : Nat) : Int) = 4 by decide), if_neg (show ¬ ab_I ((7 : Nat) : Int) = 5 by decide), if_neg (show ¬ ab_I ((7 : Nat) : Int) = 5 by decide), if_neg (show ¬ ab_I ((7 : Nat) : Int) = 6 by decide), if_neg (show ¬ ab_I ((7 : Nat) : Int) = 6 by decide), rd_eta]
    refine rd_fin (ab_sim_dusk hC hM' hW hB (ρ 301 (3 * i))) (fun h => ?_) (fun h => ?_)
    · rcases h with (⟨q, hq⟩ | ⟨q, hq⟩) | (⟨q, hq⟩ | ⟨q, hq⟩)
      · exact absurd q (by decide)
      · exact absurd q (by decide)
      · rw [hq, Option.bind_some, rd_isNot1, Option.bind_some]; rfl
      · exact absurd q (by decide)
    · rcases h with ⟨q, hq⟩ | ⟨q, hq⟩
      · exact absurd q (by decide)
      · rw [hq, Option.bind_some, rd_isNot0 (by decide), Option.bind_some]
end
