/-! commands as calls -/
theorem ab_ok_4 {t : Nat} {σ : q_S} (hI : ab_Inv t σ) (ht : t < 512) (a b c : Int32) : w_ok_4 σ a b c (ab_Inv (t + 1)) := by
  unfold w_ok_4
  obtain ⟨τ0, n1, hh⟩ := ab_wrap hI ht (rc := fun σ => f_X8_bendChain σ a b c) (bad := fun σ e => (e = 1 ∧ f_X10_hasChain σ a b = some 0) ∨ (e = 2 ∧ f_X10_hasChain σ a b = some 1 ∧ f_X10_isBend c = 0) ∨ (e = 0 ∧ f_X10_hasChain σ a b = some 1 ∧ ¬ f_X10_isBend c = 0)) (isr := fun σ => f_X10_isRefusedBend σ a b c) (carry := fun υ => f_X10_bends υ a b c) (fun σ σ' D B hC hM hW hB => ab_sim_bend hC hM hW hB a b c)
  rcases hh with ⟨h, υ0, b1, b2, b3⟩ | ⟨h, υ0, b1, b2, b3⟩ | ⟨w, n, υ0, υ1, h, b1, b2, b3, b4⟩ | ⟨v, τ1, τ2, υ0, υ1, υ2, υ3, v0, v1, h, k1, b1, b2, b3, b4, p1, p2, p3⟩
  · rcases b2 with ⟨q, hq⟩ | ⟨q, hq⟩ | ⟨q, hq⟩
    · refine ⟨1, 0, 0, τ0, q_up υ0 292 4 1, ?_, .inr (.inl rfl), ?_, rfl, fun z => absurd z (by decide), b3 1⟩
      · unfold f_X9_bend
        have h : f_X8_bendChain τ0 a b c = some _ := h
        rw [n1, Option.bind_some, h, Option.bind_some]
        first | rfl | (dsimp only; rw [if_pos rfl])
      · unfold f_X10_bend
        rw [b1, Option.bind_some]
        have c1 := hq
        rw [c1, Option.bind_some, if_pos rfl]
        rfl
    · exact absurd q (by decide)
    · exact absurd q (by decide)
  · rcases b2 with ⟨q, hq⟩ | ⟨q, hq⟩ | ⟨q, hq⟩
    · exact absurd q (by decide)
    · refine ⟨2, 0, 0, τ0, q_up υ0 292 4 2, ?_, .inr (.inr (.inl rfl)), ?_, rfl, fun z => absurd z (by decide), b3 2⟩
      · unfold f_X9_bend
        have h : f_X8_bendChain τ0 a b c = some _ := h
        rw [n1, Option.bind_some, h, Option.bind_some]
        first | rfl | (dsimp only; rw [if_neg (by decide), if_pos rfl])
      · unfold f_X10_bend
        rw [b1, Option.bind_some]
        obtain ⟨c1, c2⟩ := hq
        rw [c1, Option.bind_some, if_neg (by decide), if_pos c2]
        rfl
    · exact absurd q (by decide)
  · rcases b2 with ⟨q, hq⟩ | ⟨q, hq⟩ | ⟨q, hq⟩
    · exact absurd q (by decide)
    · exact absurd q (by decide)
    · obtain ⟨i1, i2⟩ := b4 3
      refine ⟨3, 0, (f_X10_refused υ1 3).1, (f_X7_refuse τ0 w n).2, (f_X10_refused υ1 3).2, ?_, .inr (.inr (.inr (rfl))), ?_, i2, fun z => absurd z (by decide), i1⟩
      · unfold f_X9_bend
        have h : f_X8_bendChain τ0 a b c = some _ := h
        rw [n1, Option.bind_some, h, Option.bind_some]
        rw [ab_refuse.1, if_neg (by decide), if_neg (by decide), if_neg (by decide)]
      · unfold f_X10_bend
        rw [b1, Option.bind_some]
        obtain ⟨c1, c2⟩ := hq
        rw [c1, Option.bind_some, if_neg (by decide), if_neg c2]
        have b3 : f_X10_isRefusedBend υ0 a b c = some _ := b3
        rw [b3, Option.bind_some, if_neg (show ¬ ((1 : Int32) = 0) by decide)]
  · rcases b2 with ⟨q, hq⟩ | ⟨q, hq⟩ | ⟨q, hq⟩
    · exact absurd q (by decide)
    · exact absurd q (by decide)
    · refine ⟨0, ab_I v, ab_I v, τ2, υ3, ?_, .inl rfl, ?_, p2, fun _ => rfl, p3⟩
      · unfold f_X9_bend
        have h : f_X8_bendChain τ0 a b c = some _ := h
        rw [n1, Option.bind_some, h, Option.bind_some]
        dsimp only
        rw [if_neg (ab_neg v0 v1).1, if_neg (ab_neg v0 v1).2.1, if_pos (by rw [show (0 : Int32) = ab_I 0 from rfl, ab_Ile (by omega) (by omega) (by omega) (by omega)]; exact v0), k1, Option.bind_some]
      · unfold f_X10_bend
        rw [b1, Option.bind_some]
        obtain ⟨c1, c2⟩ := hq
        rw [c1, Option.bind_some, if_neg (by decide), if_neg c2]
        have b3 : f_X10_isRefusedBend υ0 a b c = some _ := b3
        rw [b3, Option.bind_some, if_pos (show (0 : Int32) = 0 from rfl)]
        have b4 : f_X10_bends υ1 a b c = some _ := b4
        dsimp only
        rw [b4, Option.bind_some]
        dsimp only
        rw [p1, Option.bind_some]
