/-! taken back, saved, restored -/
theorem ab_rowfrom {σ : q_S} {D : Nat → Int} {k : Nat} (hk : k < 8) (h : ab_MR σ 296 (220 * k) D) : ∃ τ, f_X10_copies σ 296 1760 (ab_I ((220 * k : Nat) : Int)) 293 220 0 = some τ ∧ ab_MR τ 293 0 D ∧ ∀ c, c ≠ 293 → τ c = σ c := by
  have e := ab_copies (σ := σ) (c0 := 296) (N0 := 1760) (c2 := 293) (N2 := 220) (a := 220 * k) (b := 0) (by omega) (by omega) (by omega) (by omega) (.inl (by decide))
  refine ⟨_, e, fun j hj => ?_, fun c hc => ?_⟩
  · show (if 293 = 293 ∧ 0 ≤ 0 + j ∧ 0 + j < 0 + 220 then σ 296 (220 * k + (0 + j - 0)) else σ 293 (0 + j)) = _
    rw [if_pos ⟨rfl, by omega, by omega⟩, show 220 * k + (0 + j - 0) = 220 * k + j by omega]
    exact h j hj
  · funext j
    rw [if_neg (fun z => hc z.1)]
theorem ab_ok_33 {t : Nat} {σ : q_S} (hI : ab_Inv t σ) (_ht : t < 512) (a b c : Int32) : w_ok_33 σ a b c (ab_Inv (t + 1)) := by
  have hI2 := hI
  obtain ⟨D, ⟨hC, hM, hW⟩, hO⟩ := hI
  have hO2 := hO
  obtain ⟨⟨nx, ct, E, ⟨c1, c2, c3⟩, ⟨m1, m2⟩, w1, w2, w3⟩, hS, hR, hm, hT, hL⟩ := hO2
  unfold w_ok_33 f_X9_undo f_X10_undo
  rw [c2]
  by_cases q : ct = 0
  · subst q
    refine ⟨5, 0, 0, σ, q_up (q_up σ 292 4 0) 292 4 1, by rw [if_pos (show ab_I ((0 : Nat) : Int) = 0 from rfl)], .inr rfl, ?_, rfl, fun z => absurd z (by decide), hI2.same ((ab_eq.up (.inr ⟨rfl, .inl rfl⟩)).trans (ab_eq.up (.inr ⟨rfl, .inl rfl⟩)))⟩
    rw [ab_up_nk (by decide), m1, if_pos (show ab_I ((0 : Nat) : Int) = 0 from rfl)]
    rfl
  · have hnx : (nx + 7) % 8 < 8 := Nat.mod_lt _ (by decide)
    have e1 : ab_I nx + 8 - 1 - (ab_I nx + 8 - 1) / 8 * 8 = ab_I (((nx + 7) % 8 : Nat) : Int) := by
      rw [show ab_I (nx : Int) + 8 - 1 = ab_I ((nx + 7 : Nat) : Int) from by rw [show (8 : Int32) = ab_I 8 from rfl, show (1 : Int32) = ab_I 1 from rfl, ab_Iadd, ab_Isub]; exact congrArg ab_I (by omega), ab_mod8 (by omega)]
    have e2 : ab_I ct - 1 = ab_I ((ct - 1 : Nat) : Int) := by rw [show (1 : Int32) = ab_I 1 from rfl, ab_Isub]; exact congrArg ab_I (by omega)
    rw [if_neg (by rw [show (0 : Int32) = ab_I 0 from rfl, ab_Ieq (by omega) (by omega) (by omega) (by omega)]; omega)]
    unfold f_X3_bringBack
    rw [c1, e1, ab_up_nk (by decide), c2, e2, ab_up_nk (show (2 : Nat) ≠ 3 by decide), ab_up_at, ab_pastAt hnx]
    have hc := c3 (ct - 1) (by omega)
    rw [show (nx + 8 - ct + (ct - 1)) % 8 = (nx + 7) % 8 by omega] at hc
    have hw := w3 (ct - 1) (by omega)
    have n1 : ∀ c, c ≠ 53 → q_up (q_up σ 53 2 (ab_I (((nx + 7) % 8 : Nat) : Int))) 53 3 (ab_I ((ct - 1 : Nat) : Int)) c = σ c := fun c h => by rw [ab_up_ne h, ab_up_ne h]
    have n2 : q_up (q_up σ 53 2 (ab_I (((nx + 7) % 8 : Nat) : Int))) 53 3 (ab_I ((ct - 1 : Nat) : Int)) 53 2 = ab_I (((nx + 7) % 8 : Nat) : Int) := by rw [ab_up_nk (by decide), ab_up_at]
    have n3 : q_up (q_up σ 53 2 (ab_I (((nx + 7) % 8 : Nat) : Int))) 53 3 (ab_I ((ct - 1 : Nat) : Int)) 53 3 = ab_I ((ct - 1 : Nat) : Int) := ab_up_at
    generalize q_up (q_up σ 53 2 (ab_I (((nx + 7) % 8 : Nat) : Int))) 53 3 (ab_I ((ct - 1 : Nat) : Int)) = σ1 at n1 n2 n3
    obtain ⟨τ, t1, t2, t3⟩ := ab_copyD (σ := σ1) (z0 := 2) (.inl (by omega)) (hc.same hw.2.1 (fun c g1 g2 => n1 c (by omega))) hw
    rw [t1]
    have s1 : q_up (q_up τ 292 4 0) 292 5 (q_up τ 292 4 0 292 5 - 1) 292 5 = ab_I ((ct - 1 : Nat) : Int) := by
      rw [ab_up_at, ab_up_nk (by decide), t3 292 (by omega), n1 292 (by decide), m1, e2]
    have s2 : ∀ c, c ≠ 292 → q_up (q_up τ 292 4 0) 292 5 (q_up τ 292 4 0 292 5 - 1) c = τ c := fun c h => by rw [ab_up_ne h, ab_up_ne h]
    have s3 : ∀ k, k ≠ 4 → k ≠ 5 → q_up (q_up τ 292 4 0) 292 5 (q_up τ 292 4 0 292 5 - 1) 292 k = τ 292 k := fun k h1 h2 => by rw [ab_up_nk h2, ab_up_nk h1]
    have s4 : q_up (q_up τ 292 4 0) 292 5 (q_up τ 292 4 0 292 5 - 1) 292 4 = 0 := by rw [ab_up_nk (by decide), ab_up_at]
    have g0 : ¬ q_up τ 292 4 0 292 5 = 0 := by
      rw [ab_up_nk (by decide), t3 292 (by omega), n1 292 (by decide), m1, show (0 : Int32) = ab_I 0 from rfl, ab_Ieq (by omega) (by omega) (by omega) (by omega)]
      omega
    generalize hτ1 : q_up (q_up τ 292 4 0) 292 5 (q_up τ 292 4 0 292 5 - 1) = τ1 at s1 s2 s3 s4
    have hm2 : ab_MR τ1 296 (220 * (ct - 1)) (E (ct - 1)) := fun j hj => by rw [s2 296 (by decide), t3 296 (by omega), n1 296 (by decide)]; exact m2 (ct - 1) (by omega) j hj
    obtain ⟨υ, u1, u2, u3⟩ := ab_rowfrom (by omega) hm2
    have e3 : (220 : Int32) * ab_I ((ct - 1 : Nat) : Int) = ab_I ((220 * (ct - 1) : Nat) : Int) := by
      rw [show (220 : Int32) = ab_I 220 from rfl, ab_Imul]
      exact congrArg ab_I (by omega)
    have lo : ∀ c, (c < 2 ∨ 27 ≤ c) → c ≠ 53 → c ≠ 292 → c ≠ 293 → υ c = σ c := fun c h1 h2 h3 h4 => by rw [u3 c h4, s2 c h3, t3 c (by omega), n1 c h2]
    have hk : ∀ k, k ≠ 4 → k ≠ 5 → υ 292 k = σ 292 k := fun k h1 h2 => by rw [u3 292 (by decide), s3 k h1 h2, t3 292 (by omega), n1 292 (by decide)]
    refine ⟨0, ab_I ((ct - 1 : Nat) : Int), ab_I ((ct - 1 : Nat) : Int), τ, υ, ?_, .inl rfl, ?_, ?_, fun _ => rfl, E (ct - 1), ⟨t2.same hw.2.1 (fun c g1 g2 => by rw [u3 c (by omega), s2 c (by omega)]), u2, hw.mono (by omega)⟩, ?_⟩
    · rw [Option.bind_some, Option.bind_some, t3 53 (by omega), n3]
    · rw [if_neg g0, hτ1, s1, e3, u1, Option.bind_some, u3 292 (by decide), s1]
    · show υ 292 4 = _
      rw [u3 292 (by decide), s4]
      rfl
    · refine hO.frames (by omega) ⟨(nx + 7) % 8, ct - 1, E, ⟨?_, ?_, fun k h => ?_⟩, ⟨?_, fun k h j hj => ?_⟩, hnx, by omega, fun k h => (w3 k (by omega)).mono (by omega)⟩ (hR.same (lo 27 (by omega) (by omega) (by omega) (by omega)) (fun k a b => hk k (by omega) (by omega))) (fun c h => lo c (by omega) (by omega) (by omega) (by omega)) (fun k h => hk k (by omega) (by omega))
      · rw [u3 53 (by decide), s2 53 (by decide), t3 53 (by omega), n2]
      · rw [u3 53 (by decide), s2 53 (by decide), t3 53 (by omega), n3]
      · rw [show ((nx + 7) % 8 + 8 - (ct - 1) + k) % 8 = (nx + 8 - ct + k) % 8 by omega]
        have hm8 : (nx + 8 - ct + k) % 8 < 8 := Nat.mod_lt _ (by decide)
        exact (c3 k (by omega)).same (w3 k (by omega)).2.1 (fun c g1 g2 => lo c (by omega) (by omega) (by omega) (by omega))
      · rw [u3 292 (by decide), s1]
      · rw [lo 296 (by omega) (by omega) (by omega) (by omega)]
        exact m2 k (by omega) j hj
theorem ab_ok_34 {t : Nat} {σ : q_S} (hI : ab_Inv t σ) (_ht : t < 512) (a b c : Int32) : w_ok_34 σ a b c (ab_Inv (t + 1)) := by
  obtain ⟨D, ⟨hC, hM, hW⟩, hO⟩ := hI
  have hO2 := hO
  obtain ⟨hH, hS, hR, hm, hT, hL⟩ := hO2
  unfold w_ok_34 f_X9_save f_X10_save
  obtain ⟨τ, t1, t2, t3⟩ := ab_copyD (σ := σ) (z0 := 28) (.inr (by omega)) hC hW
  rw [t1, Option.bind_some]
  have m1 : ab_MR (q_up (q_up τ 0 4 1) 292 4 0) 293 0 D := fun k hk => by rw [ab_up_ne (by decide), ab_up_ne (by decide), t3 293 (by omega)]; exact hM k hk
  obtain ⟨υ, u1, u2, u3⟩ := ab_row (a := 293) (b := 295) (by decide) m1
  have lo : ∀ c, (c < 28 ∨ 53 ≤ c) → c ≠ 0 → c ≠ 292 → c ≠ 295 → q_up υ 292 13 1 c = σ c := fun c h1 h2 h3 h4 => by rw [ab_up_ne h3, u3 c h4, ab_up_ne h3, ab_up_ne h2, t3 c (by omega)]
  have l0 : ∀ k, k ≠ 4 → q_up υ 292 13 1 0 k = σ 0 k := fun k h => by rw [ab_up_ne (by decide), u3 0 (by decide), ab_up_ne (by decide), ab_up_nk h, t3 0 (by omega)]
  have hk : ∀ k, k ≠ 4 → k ≠ 13 → q_up υ 292 13 1 292 k = σ 292 k := fun k h1 h2 => by rw [ab_up_nk h2, u3 292 (by decide), ab_up_nk h1, ab_up_ne (by decide), t3 292 (by omega)]
  refine ⟨_, ab_I (D 0), _, q_up υ 292 13 1, rfl, ?_, ?_, D, ⟨hC.same hW.2.1 (fun c g1 g2 => lo c (by omega) (by omega) (by omega) (by omega)), fun k h => by rw [lo 293 (by omega) (by omega) (by omega) (by omega)]; exact hM k h, hW.mono (by omega)⟩, hH.same (by omega) (lo 53 (by omega) (by omega) (by omega) (by omega)) (hk 5 (by decide) (by decide)) (fun c g1 g2 => lo c (by omega) (by omega) (by omega) (by omega)) (lo 296 (by omega) (by omega) (by omega) (by omega)), .inr ⟨?_, ?_, D, ?_, ?_, hW.mono (by omega)⟩, hR.same (lo 27 (by omega) (by omega) (by omega) (by omega)) (fun k a b => hk k (by omega) (by omega)), ?_, hT.same (l0 8 (by decide)) (hk 22 (by decide) (by decide)) (lo 283 (by omega) (by omega) (by omega) (by omega)) (lo 299 (by omega) (by omega) (by omega) (by omega)), hL.same (lo 290 (by omega) (by omega) (by omega) (by omega)) (hk 29 (by decide) (by decide)) (lo 291 (by omega) (by omega) (by omega) (by omega)) (lo 302 (by omega) (by omega) (by omega) (by omega))⟩
  · rw [u1, Option.bind_some, ab_up_ne (by decide), u3 293 (by decide)]
    rw [show q_up (q_up τ 0 4 1) 292 4 0 293 0 = ab_I (D 0) from m1 0 (by decide)]
  · rw [ab_up_ne (by decide), t3 2 (by omega)]
    exact hC.1
  · rw [ab_up_ne (by decide), u3 0 (by decide), ab_up_ne (by decide), ab_up_at]
  · rw [ab_up_at]
  · exact t2.same hW.2.1 (fun c g1 g2 => by rw [ab_up_ne (by omega), u3 c (by omega), ab_up_ne (by omega), ab_up_ne (by omega)])
  · intro k h
    rw [ab_up_ne (by decide)]
    exact u2 k h
  · rw [l0 10 (by decide), hk 12 (by decide) (by decide)]
    exact hm
theorem ab_ok_35 {t : Nat} {σ : q_S} (hI : ab_Inv t σ) (_ht : t < 512) (a b c : Int32) : w_ok_35 σ a b c (ab_Inv (t + 1)) := by
  have hI2 := hI
  obtain ⟨D, ⟨hC, hM, hW⟩, hO⟩ := hI
  have hO2 := hO
  obtain ⟨⟨nx, ct, E, ⟨c1, c2, c3⟩, ⟨m1, m2⟩, w1, w2, w3⟩, hS, hR, hm, hT, hL⟩ := hO2
  unfold w_ok_35 f_X9_restore f_X10_restore
  rcases hS with ⟨s1, s2⟩ | ⟨s1, s2, D2, s3, s4, s5⟩
  · rw [s1, if_pos rfl]
    refine ⟨5, 0, 0, σ, q_up (q_up σ 292 4 0) 292 4 1, rfl, .inr rfl, ?_, rfl, fun z => absurd z (by decide), hI2.same ((ab_eq.up (.inr ⟨rfl, .inl rfl⟩)).trans (ab_eq.up (.inr ⟨rfl, .inl rfl⟩)))⟩
    rw [ab_up_nk (by decide), s2, if_pos rfl]
    rfl
  · rw [s1, if_neg (by decide)]
    obtain ⟨τ, t1, t2, t3⟩ := ab_copyD (σ := σ) (z0 := 2) (.inl (by omega)) s3 s5
    rw [t1, Option.bind_some]
    unfold f_X3_clear
    have r1 : ab_MR (q_up (q_up τ 53 3 0) 292 4 0) 295 0 D2 := fun k hk => by rw [ab_up_ne (by decide), ab_up_ne (by decide), t3 295 (by omega)]; exact s4 k hk
    obtain ⟨υ, u1, u2, u3⟩ := ab_row (a := 295) (b := 293) (by decide) r1
    have lo : ∀ c, (c < 2 ∨ 27 ≤ c) → c ≠ 53 → c ≠ 292 → c ≠ 293 → q_up υ 292 5 0 c = σ c := fun c h1 h2 h3 h4 => by rw [ab_up_ne h3, u3 c h4, ab_up_ne h3, ab_up_ne h2, t3 c (by omega)]
    have hk : ∀ k, k ≠ 4 → k ≠ 5 → q_up υ 292 5 0 292 k = σ 292 k := fun k h1 h2 => by rw [ab_up_nk h2, u3 292 (by decide), ab_up_nk h1, ab_up_ne (by decide), t3 292 (by omega)]
    refine ⟨0, _, ab_I (D2 0), _, q_up υ 292 5 0, rfl, .inl rfl, ?_, ?_, fun _ => ?_, D2, ⟨?_, ?_, s5.mono (by omega)⟩, ?_⟩
    · rw [ab_up_nk (by decide), ab_up_ne (by decide), t3 292 (by omega), s2, if_neg (by decide), u1, Option.bind_some, ab_up_ne (by decide)]
      rw [show υ 293 0 = ab_I (D2 0) from u2 0 (by decide)]
    · show q_up υ 292 5 0 292 4 = _
      rw [ab_up_nk (by decide), u3 292 (by decide), ab_up_at]
      rfl
    · rw [ab_up_ne (by decide)]
      exact t2.1
    · exact t2.same s5.2.1 (fun c g1 g2 => by rw [ab_up_ne (by omega), u3 c (by omega), ab_up_ne (by omega), ab_up_ne (by omega)])
    · intro k h
      rw [ab_up_ne (by decide)]
      exact u2 k h
    · refine hO.frames (by omega) ⟨nx, 0, E, ⟨?_, ?_, fun k h => absurd h (by omega)⟩, ⟨?_, fun k h => absurd h (by omega)⟩, w1, by decide, fun k h => absurd h (by omega)⟩ (hR.same (lo 27 (by omega) (by omega) (by omega) (by omega)) (fun k a b => hk k (by omega) (by omega))) (fun c h => lo c (by omega) (by omega) (by omega) (by omega)) (fun k h => hk k (by omega) (by omega))
      · rw [ab_up_ne (by decide), u3 53 (by decide), ab_up_ne (by decide), ab_up_nk (by decide), t3 53 (by omega)]; exact c1
      · rw [ab_up_ne (by decide), u3 53 (by decide), ab_up_ne (by decide), ab_up_at]; rfl
      · rw [ab_up_at]; rfl
