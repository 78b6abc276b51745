/-! questions about cells and areas -/
theorem ab_cell_eq : f_X10_isCell = f_X9_isCell := rfl
theorem ab_cell {a b : Int32} : f_X9_isCell a b = 0 ∨ (f_X9_isCell a b = 1 ∧ ∃ x y : Nat, x < 12 ∧ y < 8 ∧ a = ab_I x ∧ b = ab_I y) := by
  unfold f_X9_isCell
  rcases ab_from (a := a) 0 11 (by decide) (by decide) (by decide) (by decide) with h | ⟨h, x, hx0, hx1, rfl⟩
  · exact .inl (if_pos (show f_X9_isFrom a 0 11 = 0 from h))
  · rcases ab_from (a := b) 0 7 (by decide) (by decide) (by decide) (by decide) with g | ⟨g, y, hy0, hy1, rfl⟩
    · rw [if_neg (by rw [show f_X9_isFrom (ab_I x) 0 11 = 1 from h]; decide), if_pos (show f_X9_isFrom b 0 7 = 0 from g)]
      exact .inl rfl
    · rw [if_neg (by rw [show f_X9_isFrom (ab_I x) 0 11 = 1 from h]; decide), if_neg (by rw [show f_X9_isFrom (ab_I y) 0 7 = 1 from g]; decide)]
      exact .inr ⟨rfl, x.toNat, y.toNat, by omega, by omega, by rw [show ((x.toNat : Nat) : Int) = x by omega], by rw [show ((y.toNat : Nat) : Int) = y by omega]⟩
theorem ab_no {σ : q_S} {w : Int32} : f_X10_no σ w = (0, q_up σ 292 4 w) := rfl
theorem ab_svq {σ τ : q_S} (h : ∀ c, c ≠ 281 → c ≠ 282 → τ c = σ c) : ab_eq σ τ := ⟨fun c a b => h c (fun e => a (by unfold ab_sc; omega)) (fun e => a (by unfold ab_sc; omega)), fun k _ => by rw [h 292 (by decide) (by decide)]⟩
theorem ab_ok_11 {t : Nat} {σ : q_S} (hI : ab_Inv t σ) (_ht : t < 512) (a b c : Int32) : w_ok_11 σ a b c (ab_Inv (t + 1)) := by
  have hI2 := hI
  obtain ⟨D, ⟨hC, hM, hW⟩, hO⟩ := hI
  have hM' : ab_MR (q_up σ 292 4 0) 293 0 D := hM
  unfold w_ok_11
  rcases ab_cell (a := a) (b := b) with h | ⟨h, x, y, hx, hy, rfl, rfl⟩
  · refine ⟨1, 0, 0, q_up σ 292 4 1, ?_, .inr rfl, ?_, rfl, fun z => absurd z (by decide), ab_sI hI2 1⟩
    · unfold f_X9_owner
      rw [h, if_pos rfl]
    · unfold f_X10_owner
      rw [ab_cell_eq, h, if_pos rfl]
      unfold f_X10_owner_14
      rw [ab_up_at, if_neg (show ¬ ((1 : Int32) ≤ 0) by decide)]
  · refine ⟨0, ab_I (ab_ow D x y 0), ab_I (ab_ow D x y 0), q_up σ 292 4 0, ?_, .inl rfl, ?_, rfl, fun _ => rfl, ab_sI hI2 0⟩
    · unfold f_X9_owner
      rw [h, if_neg (show ¬ ((1 : Int32) = 0) by decide), show f_X2_deepestAt σ 2 (ab_I x) (ab_I y) 0 = _ from ab_deepestAt hC hW (h := 0) (by omega) (by omega) (by omega) (by omega) (by decide) (by decide), Option.bind_some]
    · unfold f_X10_owner
      rw [ab_cell_eq, h, if_neg (show ¬ ((1 : Int32) = 0) by decide)]
      unfold f_X10_owner_14 f_X10_ownerAt
      rw [ab_up_at, if_pos (show (0 : Int32) ≤ 0 by decide), ab_cell_eq, h, if_neg (show ¬ ((1 : Int32) = 0) by decide), show f_X10_ownerIn (q_up σ 292 4 0) (ab_I x) (ab_I y) 0 = _ from ab_ownerIn hM' hW (h := 0) (by omega) (by omega) (by omega) (by omega) (by decide) (by decide), Option.bind_some, Option.bind_some]
theorem ab_ok_12 {t : Nat} {σ : q_S} (hI : ab_Inv t σ) (_ht : t < 512) (a b c : Int32) : w_ok_12 σ a b c (ab_Inv (t + 1)) := by
  have hI2 := hI
  obtain ⟨D, ⟨hC, hM, hW⟩, hO⟩ := hI
  have hM' : ab_MR (q_up σ 292 4 0) 293 0 D := hM
  have hM0 : σ 293 0 = ab_I (D 0) := hM 0 (by decide)
  have w5 := hW.2.1
  unfold w_ok_12
  rcases ab_hasS (a := a) hC.1 hM0 hW.1 hW.2.1 with ⟨h1, h2⟩ | ⟨h1, h2, s, hs, rfl⟩
  · refine ⟨1, 0, 0, q_up σ 292 4 1, ?_, .inr rfl, ?_, rfl, fun z => absurd z (by decide), ab_sI hI2 1⟩
    · unfold f_X9_isInside
      rw [h1, if_pos rfl]
    · unfold f_X10_isInside
      rw [h2, Option.bind_some, if_pos rfl]
      unfold f_X10_isInside_21 f_X10_isInside_22
      rw [ab_up_at, if_neg (show ¬ ((1 : Int32) = 0) by decide)]
  · rcases ab_cell (a := b) (b := c) with h | ⟨h, x, y, hx, hy, rfl, rfl⟩
    · refine ⟨1, 0, 0, q_up σ 292 4 1, ?_, .inr rfl, ?_, rfl, fun z => absurd z (by decide), ab_sI hI2 1⟩
      · unfold f_X9_isInside
        rw [h1, if_neg (show ¬ ((1 : Int32) = 0) by decide), h, if_pos rfl]
      · unfold f_X10_isInside
        rw [h2, Option.bind_some, if_neg (show ¬ ((1 : Int32) = 0) by decide), ab_cell_eq, h, if_pos rfl]
        unfold f_X10_isInside_21 f_X10_isInside_22
        rw [ab_up_at, if_neg (show ¬ ((1 : Int32) = 0) by decide)]
    · have w := hW.2.2.2.2.2.2.2.2.1 s hs
      have hp := ab_holds (hC.2.2.2.2.1 s hs).2 w (x := x) (y := y) (by omega) (by omega) (by omega) (by omega)
      have hq := ab_isIn hM' (s := s) (by omega) w (x := x) (y := y) (by omega) (by omega) (by omega) (by omega)
      have h01 : ab_I (ab_inP (ab_sl D s) x y) = 0 ∨ ab_I (ab_inP (ab_sl D s) x y) = 1 := by
        rcases ab_inP_01 (ab_sl D s) x y with q | q <;> rw [q]
        · exact .inl rfl
        · exact .inr rfl
      refine ⟨0, ab_I (ab_inP (ab_sl D s) x y), ab_I (ab_inP (ab_sl D s) x y), q_up σ 292 4 0, ?_, .inl rfl, ?_, rfl, fun _ => rfl, ab_sI hI2 0⟩
      · unfold f_X9_isInside
        rw [h1, if_neg (show ¬ ((1 : Int32) = 0) by decide), h, if_neg (show ¬ ((1 : Int32) = 0) by decide), ab_plotOf (by omega), hp, Option.bind_some, if_pos h01]
      · unfold f_X10_isInside
        rw [h2, Option.bind_some, if_neg (show ¬ ((1 : Int32) = 0) by decide), ab_cell_eq, h, if_neg (show ¬ ((1 : Int32) = 0) by decide)]
        unfold f_X10_isInside_22
        rw [ab_up_at, if_pos rfl, hq, Option.bind_some]
        rcases h01 with q | q
        · rw [if_pos q, q]
        · rw [if_neg (by rw [q]; decide), q]
theorem ab_areaBy {t : Nat} {σ : q_S} (hI : ab_Inv t σ) (a : Int32) : (f_X2_hasSleeper σ 2 a = 0 ∧ f_X10_areaBy σ a = some (0, q_up σ 292 4 1)) ∨ ∃ s : Nat, s < 5 ∧ f_X2_hasSleeper σ 2 a = 1 ∧ f_X2_plotOf 2 a = 2 + (10 + 3 * s) ∧ ∃ v : Int, f_X10_areaBy σ a = some (ab_I v, q_up σ 292 4 0) ∧ f_X6_areaByChains σ (2 + (10 + 3 * s)) = some (ab_I v) ∧ f_X6_areaByCells σ (2 + (10 + 3 * s)) = some (ab_I v) := by
  obtain ⟨D, ⟨hC, hM, hW⟩, hO⟩ := hI
  have hM' : ab_MR (q_up σ 292 4 0) 293 0 D := hM
  have hM0 : σ 293 0 = ab_I (D 0) := hM 0 (by decide)
  have w5 := hW.2.1
  rcases ab_hasS (a := a) hC.1 hM0 hW.1 hW.2.1 with ⟨h1, h2⟩ | ⟨h1, h2, s, hs, rfl⟩
  · left
    refine ⟨h1, ?_⟩
    unfold f_X10_areaBy
    rw [h2, Option.bind_some, if_pos rfl]
    unfold f_X10_areaBy_14
    rw [ab_up_at, if_neg (show ¬ ((1 : Int32) ≤ 0) by decide)]
  · right
    have w := hW.2.2.2.2.2.2.2.2.1 s hs
    have hp := (hC.2.2.2.2.1 s hs).2
    refine ⟨s, by omega, h1, ab_plotOf (by omega), ab_ca (ab_sl D s), ?_, ?_, ab_areaByCells hp w⟩
    · unfold f_X10_areaBy
      rw [h2, Option.bind_some, if_neg (show ¬ ((1 : Int32) = 0) by decide)]
      unfold f_X10_areaBy_14
      rw [ab_up_at, if_pos (show (0 : Int32) ≤ 0 by decide), ab_areaOf hM' (by omega) w, Option.bind_some]
    · rw [ab_areaByChains hp w, ab_ar_ca w]
theorem ab_ok_13 {t : Nat} {σ : q_S} (hI : ab_Inv t σ) (_ht : t < 512) (a b c : Int32) : w_ok_13 σ a b c (ab_Inv (t + 1)) := by
  unfold w_ok_13 f_X9_area f_X10_area
  rcases ab_areaBy hI a with ⟨h1, h2⟩ | ⟨s, hs, h1, h2, v, h3, h4, h5⟩
  · rw [h1, h2, if_pos rfl, Option.bind_some]
    exact ⟨1, 0, 0, _, rfl, .inr rfl, rfl, rfl, fun z => absurd z (by decide), ab_sI hI 1⟩
  · rw [h1, h2, h3, h4, if_neg (show ¬ ((1 : Int32) = 0) by decide), Option.bind_some, Option.bind_some]
    exact ⟨0, _, _, _, rfl, .inl rfl, rfl, rfl, fun _ => rfl, ab_sI hI 0⟩
theorem ab_ok_14 {t : Nat} {σ : q_S} (hI : ab_Inv t σ) (_ht : t < 512) (a b c : Int32) : w_ok_14 σ a b c (ab_Inv (t + 1)) := by
  unfold w_ok_14 f_X9_areaAgain f_X10_areaAgain
  rcases ab_areaBy hI a with ⟨h1, h2⟩ | ⟨s, hs, h1, h2, v, h3, h4, h5⟩
  · rw [h1, h2, if_pos rfl, Option.bind_some]
    exact ⟨1, 0, 0, _, rfl, .inr rfl, rfl, rfl, fun z => absurd z (by decide), ab_sI hI 1⟩
  · rw [h1, h2, h3, h5, if_neg (show ¬ ((1 : Int32) = 0) by decide), Option.bind_some, Option.bind_some]
    exact ⟨0, _, _, _, rfl, .inl rfl, rfl, rfl, fun _ => rfl, ab_sI hI 0⟩
theorem ab_ok_19 {t : Nat} {σ : q_S} (hI : ab_Inv t σ) (_ht : t < 512) (a b c : Int32) : w_ok_19 σ a b c (ab_Inv (t + 1)) := by
  have hI2 := hI
  obtain ⟨D, ⟨hC, hM, hW⟩, hO⟩ := hI
  have hM0 : σ 293 0 = ab_I (D 0) := hM 0 (by decide)
  have w5 := hW.2.1
  unfold w_ok_19
  rcases ab_hasS (σ' := q_up σ 292 4 0) (a := a) hC.1 hM0 hW.1 hW.2.1 with ⟨h1, h2⟩ | ⟨h1, h2, s, hs, rfl⟩
  · refine ⟨1, 0, 0, σ, q_up (q_up σ 292 4 0) 292 4 1, ?_, .inr (.inl rfl), ?_, rfl, fun z => absurd z (by decide), ab_sI2 hI2 0 1⟩
    · unfold f_X9_would
      rw [h1, if_pos rfl]
    · unfold f_X10_would
      rw [h2, Option.bind_some, if_pos rfl]
      rfl
  · rcases ab_from (a := b) 0 20 (by decide) (by decide) (by decide) (by decide) with q | ⟨q, h, k0, k1, rfl⟩
    · have q : f_X9_isFrom b 0 20 = 0 := q
      refine ⟨2, 0, 0, σ, q_up (q_up σ 292 4 0) 292 4 2, ?_, .inr (.inr rfl), ?_, rfl, fun z => absurd z (by decide), ab_sI2 hI2 0 2⟩
      · unfold f_X9_would
        rw [h1, if_neg (show ¬ ((1 : Int32) = 0) by decide), q, if_pos rfl]
      · unfold f_X10_would
        rw [h2, Option.bind_some, if_neg (show ¬ ((1 : Int32) = 0) by decide), ab_in_from, q, if_pos rfl]
        rfl
    · have q : f_X9_isFrom (ab_I h) 0 20 = 1 := q
      obtain ⟨τ, t1, t2, t3, t4⟩ := ab_survey hC hW k0 (by omega)
      have hMτ : ab_MR (q_up τ 292 4 0) 293 0 D := fun k hk => by rw [ab_up_ne (by decide), t4 293 (by decide) (by decide)]; exact hM k hk
      have h2' : f_X10_isSleeper (q_up τ 292 4 0) (ab_I s) = some 1 := by
        have e : q_up τ 292 4 0 293 = q_up σ 292 4 0 293 := by rw [ab_up_ne (by decide), ab_up_ne (by decide), t4 293 (by decide) (by decide)]
        unfold f_X10_isSleeper at h2 ⊢
        rw [e]
        exact h2
      refine ⟨0, ab_I (ab_cn D h s), ab_I (ab_cn D h s), τ, q_up τ 292 4 0, ?_, .inl rfl, ?_, rfl, fun _ => rfl, hI2.same ((ab_svq t4).trans (ab_eq.up (.inr ⟨rfl, .inl rfl⟩)))⟩
      · unfold f_X9_would f_X0_countOf
        rw [h1, if_neg (show ¬ ((1 : Int32) = 0) by decide), q, if_neg (show ¬ ((1 : Int32) = 0) by decide), t1, Option.bind_some, ab_at (by omega) (by decide), t3 s (by omega)]
      · unfold f_X10_would
        rw [h2', Option.bind_some, if_neg (show ¬ ((1 : Int32) = 0) by decide), ab_in_from, q, if_neg (show ¬ ((1 : Int32) = 0) by decide), ab_cellsIn hMτ hW k0 (by omega) (by omega) (by omega), Option.bind_some]
