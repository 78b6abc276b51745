/-! commands as calls -/
theorem ab_ok_0 {t : Nat} {σ : q_S} (hI : ab_Inv t σ) (ht : t < 512) (a b c : Int32) : w_ok_0 σ a b c (ab_Inv (t + 1)) := by
  unfold w_ok_0
  obtain ⟨τ0, n1, hh⟩ := ab_wrap hI ht (rc := fun σ => some (f_X8_letCome σ a)) (bad := fun σ e => (e = 2 ∧ f_X10_in a 1 9 = 0) ∨ (e = 0 ∧ f_X10_in a 1 9 = 1)) (isr := fun σ => some (f_X10_isRefusedSleeper σ)) (carry := fun υ => f_X10_comes υ a) (fun σ σ' D B hC hM hW hB => ab_sim_sleeper hC hM hW a)
  rcases hh with ⟨h, υ0, b1, b2, b3⟩ | ⟨h, υ0, b1, b2, b3⟩ | ⟨w, n, υ0, υ1, h, b1, b2, b3, b4⟩ | ⟨v, τ1, τ2, υ0, υ1, υ2, υ3, v0, v1, h, k1, b1, b2, b3, b4, p1, p2, p3⟩
  · rcases b2 with ⟨q, hq⟩ | ⟨q, hq⟩
    · exact absurd q (by decide)
    · exact absurd q (by decide)
  · rcases b2 with ⟨q, hq⟩ | ⟨q, hq⟩
    · refine ⟨2, 0, 0, τ0, q_up υ0 292 4 1, ?_, .inr (.inl rfl), ?_, rfl, fun z => absurd z (by decide), b3 1⟩
      · unfold f_X9_sleeper
        rw [n1, Option.bind_some, show f_X8_letCome τ0 a = _ from Option.some.inj h]
        first | rfl | (dsimp only; rw [if_pos rfl])
      · unfold f_X10_sleeper
        rw [b1, Option.bind_some]
        have c1 := hq
        rw [if_pos c1]
        rfl
    · exact absurd q (by decide)
  · rcases b2 with ⟨q, hq⟩ | ⟨q, hq⟩
    · exact absurd q (by decide)
    · obtain ⟨i1, i2⟩ := b4 2
      refine ⟨3, 0, (f_X10_refused υ1 2).1, (f_X7_refuse τ0 w n).2, (f_X10_refused υ1 2).2, ?_, .inr (.inr (rfl)), ?_, i2, fun z => absurd z (by decide), i1⟩
      · unfold f_X9_sleeper
        rw [n1, Option.bind_some, show f_X8_letCome τ0 a = _ from Option.some.inj h]
        rw [ab_refuse.1, if_neg (by decide), if_neg (by decide)]
      · unfold f_X10_sleeper
        rw [b1, Option.bind_some]
        have c1 := hq
        rw [c1, if_neg (by decide)]
        rw [show f_X10_isRefusedSleeper υ0 = _ from Option.some.inj b3, if_neg (show ¬ ((1 : Int32) = 0) by decide)]
  · rcases b2 with ⟨q, hq⟩ | ⟨q, hq⟩
    · exact absurd q (by decide)
    · refine ⟨0, ab_I v, ab_I v, τ2, υ3, ?_, .inl rfl, ?_, p2, fun _ => rfl, p3⟩
      · unfold f_X9_sleeper
        rw [n1, Option.bind_some, show f_X8_letCome τ0 a = _ from Option.some.inj h]
        dsimp only
        rw [if_neg (ab_neg v0 v1).2.1, if_pos (by rw [show (0 : Int32) = ab_I 0 from rfl, ab_Ile (by omega) (by omega) (by omega) (by omega)]; exact v0), k1, Option.bind_some]
      · unfold f_X10_sleeper
        rw [b1, Option.bind_some]
        have c1 := hq
        rw [c1, if_neg (by decide)]
        rw [show f_X10_isRefusedSleeper υ0 = _ from Option.some.inj b3, if_pos (show (0 : Int32) = 0 from rfl)]
        have b4 : f_X10_comes υ1 a = some _ := b4
        dsimp only
        rw [b4, Option.bind_some]
        dsimp only
        rw [p1, Option.bind_some]
theorem ab_ok_1 {t : Nat} {σ : q_S} (hI : ab_Inv t σ) (ht : t < 512) (a b c : Int32) : w_ok_1 σ a b c (ab_Inv (t + 1)) := by
  unfold w_ok_1
  obtain ⟨τ0, n1, hh⟩ := ab_wrap hI ht (rc := fun σ => f_X8_setPeg σ a b c) (bad := fun σ e => (e = 1 ∧ f_X10_isCorner a b = 0) ∨ (e = 2 ∧ f_X10_isCorner a b = 1 ∧ f_X10_isPeriod c = some 0) ∨ (e = 0 ∧ f_X10_isCorner a b = 1 ∧ f_X10_isPeriod c = some 1)) (isr := fun σ => f_X10_isRefusedPeg σ a b) (carry := fun υ => f_X10_sets υ a b c) (fun σ σ' D B hC hM hW hB => ab_sim_peg hC hM hW a b c)
  rcases hh with ⟨h, υ0, b1, b2, b3⟩ | ⟨h, υ0, b1, b2, b3⟩ | ⟨w, n, υ0, υ1, h, b1, b2, b3, b4⟩ | ⟨v, τ1, τ2, υ0, υ1, υ2, υ3, v0, v1, h, k1, b1, b2, b3, b4, p1, p2, p3⟩
  · rcases b2 with ⟨q, hq⟩ | ⟨q, hq⟩ | ⟨q, hq⟩
    · refine ⟨1, 0, 0, τ0, q_up υ0 292 4 1, ?_, .inr (.inl rfl), ?_, rfl, fun z => absurd z (by decide), b3 1⟩
      · unfold f_X9_peg
        have h : f_X8_setPeg τ0 a b c = some _ := h
        rw [n1, Option.bind_some, h, Option.bind_some]
        first | rfl | (dsimp only; rw [if_pos rfl])
      · unfold f_X10_peg
        rw [b1, Option.bind_some]
        have c1 := hq
        rw [c1, if_pos rfl]
        rfl
    · exact absurd q (by decide)
    · exact absurd q (by decide)
  · rcases b2 with ⟨q, hq⟩ | ⟨q, hq⟩ | ⟨q, hq⟩
    · exact absurd q (by decide)
    · refine ⟨2, 0, 0, τ0, q_up υ0 292 4 2, ?_, .inr (.inr (.inl rfl)), ?_, rfl, fun z => absurd z (by decide), b3 2⟩
      · unfold f_X9_peg
        have h : f_X8_setPeg τ0 a b c = some _ := h
        rw [n1, Option.bind_some, h, Option.bind_some]
        first | rfl | (dsimp only; rw [if_neg (by decide), if_pos rfl])
      · unfold f_X10_peg
        rw [b1, Option.bind_some]
        obtain ⟨c1, c2⟩ := hq
        rw [c1, if_neg (by decide), c2, Option.bind_some, if_pos rfl]
        rfl
    · exact absurd q (by decide)
  · rcases b2 with ⟨q, hq⟩ | ⟨q, hq⟩ | ⟨q, hq⟩
    · exact absurd q (by decide)
    · exact absurd q (by decide)
    · obtain ⟨i1, i2⟩ := b4 3
      refine ⟨3, 0, (f_X10_refused υ1 3).1, (f_X7_refuse τ0 w n).2, (f_X10_refused υ1 3).2, ?_, .inr (.inr (.inr (rfl))), ?_, i2, fun z => absurd z (by decide), i1⟩
      · unfold f_X9_peg
        have h : f_X8_setPeg τ0 a b c = some _ := h
        rw [n1, Option.bind_some, h, Option.bind_some]
        rw [ab_refuse.1, if_neg (by decide), if_neg (by decide), if_neg (by decide)]
      · unfold f_X10_peg
        rw [b1, Option.bind_some]
        obtain ⟨c1, c2⟩ := hq
        rw [c1, if_neg (by decide), c2, Option.bind_some, if_neg (by decide)]
        have b3 : f_X10_isRefusedPeg υ0 a b = some _ := b3
        rw [b3, Option.bind_some, if_neg (show ¬ ((1 : Int32) = 0) by decide)]
  · rcases b2 with ⟨q, hq⟩ | ⟨q, hq⟩ | ⟨q, hq⟩
    · exact absurd q (by decide)
    · exact absurd q (by decide)
    · refine ⟨0, ab_I v, ab_I v, τ2, υ3, ?_, .inl rfl, ?_, p2, fun _ => rfl, p3⟩
      · unfold f_X9_peg
        have h : f_X8_setPeg τ0 a b c = some _ := h
        rw [n1, Option.bind_some, h, Option.bind_some]
        dsimp only
        rw [if_neg (ab_neg v0 v1).1, if_neg (ab_neg v0 v1).2.1, if_pos (by rw [show (0 : Int32) = ab_I 0 from rfl, ab_Ile (by omega) (by omega) (by omega) (by omega)]; exact v0), k1, Option.bind_some]
      · unfold f_X10_peg
        rw [b1, Option.bind_some]
        obtain ⟨c1, c2⟩ := hq
        rw [c1, if_neg (by decide), c2, Option.bind_some, if_neg (by decide)]
        have b3 : f_X10_isRefusedPeg υ0 a b = some _ := b3
        rw [b3, Option.bind_some, if_pos (show (0 : Int32) = 0 from rfl)]
        have b4 : f_X10_sets υ1 a b c = some _ := b4
        dsimp only
        rw [b4, Option.bind_some]
        dsimp only
        rw [p1, Option.bind_some]
theorem ab_ok_2 {t : Nat} {σ : q_S} (hI : ab_Inv t σ) (ht : t < 512) (a b c : Int32) : w_ok_2 σ a b c (ab_Inv (t + 1)) := by
  unfold w_ok_2
  obtain ⟨τ0, n1, hh⟩ := ab_wrap hI ht (rc := fun σ => f_X8_beginPlot σ a b c) (bad := fun σ e => (e = 1 ∧ (f_X10_isSleeper σ a = some 0 ∨ (f_X10_isSleeper σ a = some 1 ∧ f_X10_isCorner b c = 0))) ∨ (e = 0 ∧ f_X10_isSleeper σ a = some 1 ∧ f_X10_isCorner b c = 1)) (isr := fun σ => f_X10_isRefusedPlot σ a) (carry := fun υ => f_X10_starts υ a b c) (fun σ σ' D B hC hM hW hB => ab_sim_plot hC hM hW a b c)
  rcases hh with ⟨h, υ0, b1, b2, b3⟩ | ⟨h, υ0, b1, b2, b3⟩ | ⟨w, n, υ0, υ1, h, b1, b2, b3, b4⟩ | ⟨v, τ1, τ2, υ0, υ1, υ2, υ3, v0, v1, h, k1, b1, b2, b3, b4, p1, p2, p3⟩
  · rcases b2 with ⟨q, hq⟩ | ⟨q, hq⟩
    · refine ⟨1, 0, 0, τ0, q_up υ0 292 4 1, ?_, .inr (.inl rfl), ?_, rfl, fun z => absurd z (by decide), b3 1⟩
      · unfold f_X9_plot
        have h : f_X8_beginPlot τ0 a b c = some _ := h
        rw [n1, Option.bind_some, h, Option.bind_some]
        first | rfl | (dsimp only; rw [if_pos rfl])
      · unfold f_X10_plot
        rw [b1, Option.bind_some]
        rcases hq with c1 | ⟨c1, c2⟩
        · rw [c1, Option.bind_some, if_pos rfl]
          rfl
        · rw [c1, Option.bind_some, if_neg (by decide), c2, if_pos rfl]
          rfl
    · exact absurd q (by decide)
  · rcases b2 with ⟨q, hq⟩ | ⟨q, hq⟩
    · exact absurd q (by decide)
    · exact absurd q (by decide)
  · rcases b2 with ⟨q, hq⟩ | ⟨q, hq⟩
    · exact absurd q (by decide)
    · obtain ⟨i1, i2⟩ := b4 2
      refine ⟨3, 0, (f_X10_refused υ1 2).1, (f_X7_refuse τ0 w n).2, (f_X10_refused υ1 2).2, ?_, .inr (.inr (rfl)), ?_, i2, fun z => absurd z (by decide), i1⟩
      · unfold f_X9_plot
        have h : f_X8_beginPlot τ0 a b c = some _ := h
        rw [n1, Option.bind_some, h, Option.bind_some]
        rw [ab_refuse.1, if_neg (by decide), if_neg (by decide)]
      · unfold f_X10_plot
        rw [b1, Option.bind_some]
        obtain ⟨c1, c2⟩ := hq
        rw [c1, Option.bind_some, if_neg (by decide), c2, if_neg (by decide)]
        have b3 : f_X10_isRefusedPlot υ0 a = some _ := b3
        rw [b3, Option.bind_some, if_neg (show ¬ ((1 : Int32) = 0) by decide)]
  · rcases b2 with ⟨q, hq⟩ | ⟨q, hq⟩
    · exact absurd q (by decide)
    · refine ⟨0, ab_I v, ab_I v, τ2, υ3, ?_, .inl rfl, ?_, p2, fun _ => rfl, p3⟩
      · unfold f_X9_plot
        have h : f_X8_beginPlot τ0 a b c = some _ := h
        rw [n1, Option.bind_some, h, Option.bind_some]
        dsimp only
        rw [if_neg (ab_neg v0 v1).1, if_pos (by rw [show (0 : Int32) = ab_I 0 from rfl, ab_Ile (by omega) (by omega) (by omega) (by omega)]; exact v0), k1, Option.bind_some]
      · unfold f_X10_plot
        rw [b1, Option.bind_some]
        obtain ⟨c1, c2⟩ := hq
        rw [c1, Option.bind_some, if_neg (by decide), c2, if_neg (by decide)]
        have b3 : f_X10_isRefusedPlot υ0 a = some _ := b3
        rw [b3, Option.bind_some, if_pos (show (0 : Int32) = 0 from rfl)]
        have b4 : f_X10_starts υ1 a b c = some _ := b4
        dsimp only
        rw [b4, Option.bind_some]
        dsimp only
        rw [p1, Option.bind_some]
theorem ab_ok_5 {t : Nat} {σ : q_S} (hI : ab_Inv t σ) (ht : t < 512) (a b c : Int32) : w_ok_5 σ a b c (ab_Inv (t + 1)) := by
  unfold w_ok_5
  obtain ⟨τ0, n1, hh⟩ := ab_wrap hI ht (rc := fun σ => some (f_X8_giveUp σ a)) (bad := fun σ e => (e = 1 ∧ f_X10_isSleeper σ a = some 0) ∨ (e = 0 ∧ f_X10_isSleeper σ a = some 1)) (isr := fun σ => f_X10_isRefusedDrop σ a) (carry := fun υ => f_X10_drops υ a) (fun σ σ' D B hC hM hW hB => ab_sim_drop hC hM hW a)
  rcases hh with ⟨h, υ0, b1, b2, b3⟩ | ⟨h, υ0, b1, b2, b3⟩ | ⟨w, n, υ0, υ1, h, b1, b2, b3, b4⟩ | ⟨v, τ1, τ2, υ0, υ1, υ2, υ3, v0, v1, h, k1, b1, b2, b3, b4, p1, p2, p3⟩
  · rcases b2 with ⟨q, hq⟩ | ⟨q, hq⟩
    · refine ⟨1, 0, 0, τ0, q_up υ0 292 4 1, ?_, .inr (.inl rfl), ?_, rfl, fun z => absurd z (by decide), b3 1⟩
      · unfold f_X9_drop
        rw [n1, Option.bind_some, show f_X8_giveUp τ0 a = _ from Option.some.inj h]
        first | rfl | (dsimp only; rw [if_pos rfl])
      · unfold f_X10_drop
        rw [b1, Option.bind_some]
        have c1 := hq
        rw [c1, Option.bind_some, if_pos rfl]
        rfl
    · exact absurd q (by decide)
  · rcases b2 with ⟨q, hq⟩ | ⟨q, hq⟩
    · exact absurd q (by decide)
    · exact absurd q (by decide)
  · rcases b2 with ⟨q, hq⟩ | ⟨q, hq⟩
    · exact absurd q (by decide)
    · obtain ⟨i1, i2⟩ := b4 2
      refine ⟨3, 0, (f_X10_refused υ1 2).1, (f_X7_refuse τ0 w n).2, (f_X10_refused υ1 2).2, ?_, .inr (.inr (rfl)), ?_, i2, fun z => absurd z (by decide), i1⟩
      · unfold f_X9_drop
        rw [n1, Option.bind_some, show f_X8_giveUp τ0 a = _ from Option.some.inj h]
        rw [ab_refuse.1, if_neg (by decide), if_neg (by decide)]
      · unfold f_X10_drop
        rw [b1, Option.bind_some]
        have c1 := hq
        rw [c1, Option.bind_some, if_neg (by decide)]
        have b3 : f_X10_isRefusedDrop υ0 a = some _ := b3
        rw [b3, Option.bind_some, if_neg (show ¬ ((1 : Int32) = 0) by decide)]
  · rcases b2 with ⟨q, hq⟩ | ⟨q, hq⟩
    · exact absurd q (by decide)
    · refine ⟨0, ab_I v, ab_I v, τ2, υ3, ?_, .inl rfl, ?_, p2, fun _ => rfl, p3⟩
      · unfold f_X9_drop
        rw [n1, Option.bind_some, show f_X8_giveUp τ0 a = _ from Option.some.inj h]
        dsimp only
        rw [if_neg (ab_neg v0 v1).1, if_pos (by rw [show (0 : Int32) = ab_I 0 from rfl, ab_Ile (by omega) (by omega) (by omega) (by omega)]; exact v0), k1, Option.bind_some]
      · unfold f_X10_drop
        rw [b1, Option.bind_some]
        have c1 := hq
        rw [c1, Option.bind_some, if_neg (by decide)]
        have b3 : f_X10_isRefusedDrop υ0 a = some _ := b3
        rw [b3, Option.bind_some, if_pos (show (0 : Int32) = 0 from rfl)]
        have b4 : f_X10_drops υ1 a = some _ := b4
        dsimp only
        rw [b4, Option.bind_some]
        dsimp only
        rw [p1, Option.bind_some]
theorem ab_ok_6 {t : Nat} {σ : q_S} (hI : ab_Inv t σ) (ht : t < 512) (a b c : Int32) : w_ok_6 σ a b c (ab_Inv (t + 1)) := by
  unfold w_ok_6
  obtain ⟨τ0, n1, hh⟩ := ab_wrap hI ht (rc := fun σ => some (f_X8_giveDepth σ a b)) (bad := fun σ e => (e = 1 ∧ f_X10_isSleeper σ a = some 0) ∨ (e = 2 ∧ f_X10_isSleeper σ a = some 1 ∧ f_X10_isDepth b = some 0) ∨ (e = 0 ∧ f_X10_isSleeper σ a = some 1 ∧ f_X10_isDepth b = some 1)) (isr := fun σ => f_X10_isRefusedDeep σ a b) (carry := fun υ => f_X10_deepens υ a b) (fun σ σ' D B hC hM hW hB => ab_sim_deep hC hM hW a b)
  rcases hh with ⟨h, υ0, b1, b2, b3⟩ | ⟨h, υ0, b1, b2, b3⟩ | ⟨w, n, υ0, υ1, h, b1, b2, b3, b4⟩ | ⟨v, τ1, τ2, υ0, υ1, υ2, υ3, v0, v1, h, k1, b1, b2, b3, b4, p1, p2, p3⟩
  · rcases b2 with ⟨q, hq⟩ | ⟨q, hq⟩ | ⟨q, hq⟩
    · refine ⟨1, 0, 0, τ0, q_up υ0 292 4 1, ?_, .inr (.inl rfl), ?_, rfl, fun z => absurd z (by decide), b3 1⟩
      · unfold f_X9_deep
        rw [n1, Option.bind_some, show f_X8_giveDepth τ0 a b = _ from Option.some.inj h]
        first | rfl | (dsimp only; rw [if_pos rfl])
      · unfold f_X10_deep
        rw [b1, Option.bind_some]
        have c1 := hq
        rw [c1, Option.bind_some, if_pos rfl]
        rfl
    · exact absurd q (by decide)
    · exact absurd q (by decide)
  · rcases b2 with ⟨q, hq⟩ | ⟨q, hq⟩ | ⟨q, hq⟩
    · exact absurd q (by decide)
    · refine ⟨2, 0, 0, τ0, q_up υ0 292 4 2, ?_, .inr (.inr (.inl rfl)), ?_, rfl, fun z => absurd z (by decide), b3 2⟩
      · unfold f_X9_deep
        rw [n1, Option.bind_some, show f_X8_giveDepth τ0 a b = _ from Option.some.inj h]
        first | rfl | (dsimp only; rw [if_neg (by decide), if_pos rfl])
      · unfold f_X10_deep
        rw [b1, Option.bind_some]
        obtain ⟨c1, c2⟩ := hq
        rw [c1, Option.bind_some, if_neg (by decide), c2, Option.bind_some, if_pos rfl]
        rfl
    · exact absurd q (by decide)
  · rcases b2 with ⟨q, hq⟩ | ⟨q, hq⟩ | ⟨q, hq⟩
    · exact absurd q (by decide)
    · exact absurd q (by decide)
    · obtain ⟨i1, i2⟩ := b4 3
      refine ⟨3, 0, (f_X10_refused υ1 3).1, (f_X7_refuse τ0 w n).2, (f_X10_refused υ1 3).2, ?_, .inr (.inr (.inr (rfl))), ?_, i2, fun z => absurd z (by decide), i1⟩
      · unfold f_X9_deep
        rw [n1, Option.bind_some, show f_X8_giveDepth τ0 a b = _ from Option.some.inj h]
        rw [ab_refuse.1, if_neg (by decide), if_neg (by decide), if_neg (by decide)]
      · unfold f_X10_deep
        rw [b1, Option.bind_some]
        obtain ⟨c1, c2⟩ := hq
        rw [c1, Option.bind_some, if_neg (by decide), c2, Option.bind_some, if_neg (by decide)]
        have b3 : f_X10_isRefusedDeep υ0 a b = some _ := b3
        rw [b3, Option.bind_some, if_neg (show ¬ ((1 : Int32) = 0) by decide)]
  · rcases b2 with ⟨q, hq⟩ | ⟨q, hq⟩ | ⟨q, hq⟩
    · exact absurd q (by decide)
    · exact absurd q (by decide)
    · refine ⟨0, ab_I v, ab_I v, τ2, υ3, ?_, .inl rfl, ?_, p2, fun _ => rfl, p3⟩
      · unfold f_X9_deep
        rw [n1, Option.bind_some, show f_X8_giveDepth τ0 a b = _ from Option.some.inj h]
        dsimp only
        rw [if_neg (ab_neg v0 v1).1, if_neg (ab_neg v0 v1).2.1, if_pos (by rw [show (0 : Int32) = ab_I 0 from rfl, ab_Ile (by omega) (by omega) (by omega) (by omega)]; exact v0), k1, Option.bind_some]
      · unfold f_X10_deep
        rw [b1, Option.bind_some]
        obtain ⟨c1, c2⟩ := hq
        rw [c1, Option.bind_some, if_neg (by decide), c2, Option.bind_some, if_neg (by decide)]
        have b3 : f_X10_isRefusedDeep υ0 a b = some _ := b3
        rw [b3, Option.bind_some, if_pos (show (0 : Int32) = 0 from rfl)]
        have b4 : f_X10_deepens υ1 a b = some _ := b4
        dsimp only
        rw [b4, Option.bind_some]
        dsimp only
        rw [p1, Option.bind_some]
theorem ab_ok_7 {t : Nat} {σ : q_S} (hI : ab_Inv t σ) (ht : t < 512) (a b c : Int32) : w_ok_7 σ a b c (ab_Inv (t + 1)) := by
  unfold w_ok_7
  obtain ⟨τ0, n1, hh⟩ := ab_wrap hI ht (rc := fun σ => f_X8_letHoursGoBy σ a) (bad := fun σ e => (e = 2 ∧ f_X10_areHours a = some 0) ∨ (e = 0 ∧ f_X10_areHours a = some 1)) (isr := fun σ => some (0, σ)) (carry := fun υ => f_X10_goesBy υ a) (fun σ σ' D B hC hM hW hB => ab_sim_dusk hC hM hW hB a)
  rcases hh with ⟨h, υ0, b1, b2, b3⟩ | ⟨h, υ0, b1, b2, b3⟩ | ⟨w, n, υ0, υ1, h, b1, b2, b3, b4⟩ | ⟨v, τ1, τ2, υ0, υ1, υ2, υ3, v0, v1, h, k1, b1, b2, b3, b4, p1, p2, p3⟩
  · rcases b2 with ⟨q, hq⟩ | ⟨q, hq⟩
    · exact absurd q (by decide)
    · exact absurd q (by decide)
  · rcases b2 with ⟨q, hq⟩ | ⟨q, hq⟩
    · refine ⟨2, 0, 0, τ0, q_up υ0 292 4 1, ?_, .inr (rfl), ?_, rfl, fun z => absurd z (by decide), b3 1⟩
      · unfold f_X9_dusk
        have h : f_X8_letHoursGoBy τ0 a = some _ := h
        rw [n1, Option.bind_some, h, Option.bind_some]
        first | rfl | (dsimp only; rw [if_neg (by decide)])
      · unfold f_X10_dusk
        rw [b1, Option.bind_some]
        have c1 := hq
        rw [c1, Option.bind_some, if_pos rfl]
        rfl
    · exact absurd q (by decide)
  · exact absurd (congrArg Prod.fst (Option.some.inj b3)) (show ¬ ((0 : Int32) = 1) by decide)
  · rcases b2 with ⟨q, hq⟩ | ⟨q, hq⟩
    · exact absurd q (by decide)
    · refine ⟨0, ab_I v, ab_I v, τ2, υ3, ?_, .inl rfl, ?_, p2, fun _ => rfl, p3⟩
      · unfold f_X9_dusk
        have h : f_X8_letHoursGoBy τ0 a = some _ := h
        rw [n1, Option.bind_some, h, Option.bind_some]
        dsimp only
        rw [if_pos (by rw [show (0 : Int32) = ab_I 0 from rfl, ab_Ile (by omega) (by omega) (by omega) (by omega)]; exact v0), k1, Option.bind_some]
      · unfold f_X10_dusk
        rw [b1, Option.bind_some]
        have c1 := hq
        rw [c1, Option.bind_some, if_neg (by decide)]
        have e1 : υ0 = υ1 := congrArg Prod.snd (Option.some.inj b3)
        subst e1
        have b4 : f_X10_goesBy υ0 a = some _ := b4
        rw [b4, Option.bind_some]
        dsimp only
        rw [p1, Option.bind_some]
