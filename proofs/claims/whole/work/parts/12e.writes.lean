/-! sleepers that come, plots that begin, pegs, hours -/
section
variable {σ σ' : q_S} {D : Nat → Int} {B : Int}
theorem ab_comes_lp {d : Int} {s : Nat} (hs : s < 5) : ∀ r k : Nat, k + r = 37 → ∀ f, r < f → ∀ τ : q_S, ab_MR τ 293 0 (ab_z D (30 + 37 * s) k) → ∃ υ, f_X10_comes_9 f (ab_I d) (ab_I s) (ab_I k) τ = some (ab_I s, υ) ∧ ab_MR υ 293 0 (ab_u (ab_u (ab_z D (30 + 37 * s) 37) (30 + 37 * s) d) 0 (D 0 + 1)) ∧ ab_fM τ υ := by
  intro r
  induction r with
  | zero =>
    intro k hk f hf τ h
    obtain ⟨f, rfl⟩ : ∃ g, f = g + 1 := ⟨f - 1, by omega⟩
    have : k = 37 := by omega
    subst this
    rw [f_X10_comes_9, if_pos (by rw [show (37 : Int32) = ab_I 37 from rfl, ab_Ile (by omega) (by omega) (by omega) (by omega)]; omega), show f_X10_ls τ (ab_I s) 0 (ab_I d) = _ from ab_ls_put (w := 0) hs (by decide), Option.bind_some, ab_up_nk (by omega)]
    have h0 := h 0 (by decide)
    unfold ab_z at h0
    rw [if_neg (by omega), Nat.add_zero] at h0
    rw [h0, show ab_I (D 0) + 1 = ab_I (D 0 + 1) from ab_Iadd (b := 1)]
    exact ⟨_, rfl, (h.up (30 + 37 * s) d).up 0 (D 0 + 1), ab_fM.up.trans ab_fM.up⟩
  | succ r ih =>
    intro k hk f hf τ h
    obtain ⟨f, rfl⟩ : ∃ g, f = g + 1 := ⟨f - 1, by omega⟩
    rw [f_X10_comes_9, if_neg (by rw [show (37 : Int32) = ab_I 37 from rfl, ab_Ile (by omega) (by omega) (by omega) (by omega)]; omega), ab_ls_put hs (by omega), Option.bind_some, ab_I1]
    obtain ⟨υ, u1, u2, u3⟩ := ih (k + 1) (by omega) f (by omega) _ ((h.up (30 + 37 * s + k) 0).congr (fun j hj => (ab_z_s j).symm))
    exact ⟨υ, u1, u2, ab_fM.up.trans u3⟩
/-- a sleeper comes -/
theorem ab_sim_sleeper (hC : ab_CR σ 2 D) (hM : ab_MR σ' 293 0 D) (hW : ab_WD B D) (a : Int32) : ab_sim B σ σ' (some (f_X8_letCome σ a)) (fun e => (e = 2 ∧ f_X10_in a 1 9 = 0) ∨ (e = 0 ∧ f_X10_in a 1 9 = 1)) (some (f_X10_isRefusedSleeper σ')) (fun υ => f_X10_comes υ a) := by
  have hM0 : σ' 293 0 = ab_I (D 0) := hM 0 (by decide)
  unfold ab_sim f_X8_letCome
  rw [ab_in_from]
  obtain ⟨n, hn, hn5⟩ := ab_hn hW
  right
  rcases ab_from (a := a) 1 9 (by decide) (by decide) (by decide) (by decide) with g | ⟨g, d, hd0, hd1, rfl⟩
  · left
    have g : f_X9_isFrom a 1 9 = 0 := g
    rw [if_pos g]
    exact ⟨.inl ⟨rfl, g⟩, rfl⟩
  · right
    have g : f_X9_isFrom (ab_I d) 1 9 = 1 := g
    unfold f_X10_isRefusedSleeper
    rw [g, if_neg (by decide), hC.1, hM0, hn]
    by_cases q : n = 5
    · left
      obtain ⟨υ, u1, u2, u3, u4⟩ := ab_isBad (σ := σ') (w := 1) (n := 5)
      subst q
      rw [if_neg (show ¬ ab_I ((5 : Nat) : Int) < 5 by decide), if_pos (show ab_I ((5 : Nat) : Int) = 5 from rfl), u1]
      exact ⟨.inr ⟨rfl, rfl⟩, 1, 5, υ, by decide, rfl, rfl, u2, u3, u4⟩
    · right
      have hlt : n < 5 := by omega
      rw [if_pos (by rw [show (5 : Int32) = ab_I 5 from rfl, ab_Ilt (by omega) (by omega) (by omega) (by omega)]; omega), if_neg (by rw [show (5 : Int32) = ab_I 5 from rfl, ab_Ieq (by omega) (by omega) (by omega) (by omega)]; omega), ab_put hlt (by decide), ab_plotOf hlt]
      obtain ⟨υ2, u1, u2, u3⟩ := ab_comes_lp (D := D) (d := d) hlt 37 0 (by decide) q_fu (by unfold q_fu; omega) σ' (hM.congr (fun k hk => by unfold ab_z; rw [if_neg (by omega)]))
      generalize hD2 : ab_u (ab_u (ab_z D (30 + 37 * n) 37) (30 + 37 * n) d) 0 (D 0 + 1) = D2 at u2
      have z0 : D2 0 = D 0 + 1 := by rw [← hD2]; exact ab_u_at
      have zd : D2 (30 + 37 * n) = d := by rw [← hD2, ab_u_ne (by omega), ab_u_at]
      have zz : ∀ k, 31 + 37 * n ≤ k → k < 67 + 37 * n → D2 k = 0 := fun k h1 h2 => by rw [← hD2, ab_u_ne (by omega), ab_u_ne (by omega)]; unfold ab_z; rw [if_pos (by omega)]
      have zo : ∀ k, k ≠ 0 → (k < 30 + 37 * n ∨ 67 + 37 * n ≤ k) → D2 k = D k := fun k h1 h2 => by rw [← hD2, ab_u_ne (by omega), ab_u_ne (by omega)]; unfold ab_z; rw [if_neg (by omega)]
      have s1 : ab_sl D2 n 1 = 0 := zz _ (by omega) (by omega)
      have s4 : ab_sl D2 n 4 = 0 := zz _ (by omega) (by omega)
      have s0 : ab_sl D2 n 0 = d := zd
      have t0 : ∀ c, c ≠ 2 → c ≠ 3 → c ≠ 2 + (10 + 3 * n) → q_up (f_X6_end (q_up σ 3 n (ab_I d)) (2 + (10 + 3 * n))) 2 0 (f_X6_end (q_up σ 3 n (ab_I d)) (2 + (10 + 3 * n)) 2 0 + 1) c = σ c := fun c h1 h2 h3 => by
        rw [ab_up_ne h1]
        unfold f_X6_end
        rw [ab_up_ne h3, ab_up_ne h3, ab_up_ne h3, ab_up_ne h2]
      have t2 : f_X6_end (q_up σ 3 n (ab_I d)) (2 + (10 + 3 * n)) 2 = σ 2 := by
        unfold f_X6_end
        rw [ab_up_ne (by omega), ab_up_ne (by omega), ab_up_ne (by omega), ab_up_ne (by omega)]
      have t3 : f_X6_end (q_up σ 3 n (ab_I d)) (2 + (10 + 3 * n)) 3 = q_up σ 3 n (ab_I d) 3 := by
        unfold f_X6_end
        rw [ab_up_ne (by omega), ab_up_ne (by omega), ab_up_ne (by omega)]
      have w2 := hW.2.2.2.2
      have e2 := zo 2 (by decide) (by omega)
      have e3 := zo 3 (by decide) (by omega)
      refine ⟨.inr ⟨rfl, rfl⟩, n, D2, _, σ', υ2, by omega, by omega, rfl, rfl, ab_fR.rf, ?_, u2, ?_, ?_, fun c hc => t0 c (by omega) (by omega) (by omega), u3⟩
      · show f_X10_comes σ' (ab_I d) = _
        unfold f_X10_comes
        rw [hM0, hn]
        exact u1
      · refine hC.sl (s := n) hW hlt (.inr ⟨z0, hn.symm⟩) ?_ ?_ ?_ (fun k h1 h2 h3 h4 => zo k h1 h4) ?_ (fun s2 h => ?_) (fun c h1 h2 h3 => t0 c h1 h2 (by omega)) ⟨?_, ?_, ?_, fun q => ?_, fun k hk => ?_⟩ ?_ ?_
        · rw [ab_up_at, t2, hC.1, z0]; exact ab_Iadd (b := 1)
        · rw [ab_up_nk (by decide), t2, e2]; exact hC.2.2.1
        · rw [ab_up_nk (by decide), t2, e3]; exact hC.2.2.2.1
        · rw [ab_up_ne (by decide), t3, ab_up_at, zd]
        · rw [ab_up_ne (by decide), t3, ab_up_nk h]
        · rw [s1, ab_up_ne (by omega)]; unfold f_X6_end; rw [ab_up_nk (by decide), ab_up_nk (by decide), ab_up_at]; rfl
        · rw [s1, ab_up_ne (by omega)]; unfold f_X6_end; rw [ab_up_nk (by decide), ab_up_at]; rfl
        · rw [s4, ab_up_ne (by omega)]; unfold f_X6_end; rw [ab_up_at]; rfl
        · rw [s1] at q; omega
        · rw [s4] at hk; omega
        · rw [ab_up_ne (by omega)]; unfold f_X6_end; rw [ab_up_nk (by decide), ab_up_nk (by decide), ab_up_at]; exact .inl rfl
        · rw [ab_up_ne (by omega)]; unfold f_X6_end; rw [ab_up_nk (by decide), ab_up_at]; exact .inl rfl
      · exact hW.sl (s := n) (by omega) (.inr ⟨z0, hn.symm⟩) (by omega) (by omega) (by omega) (by omega) (fun k h1 h2 h3 h4 => zo k h1 h4) ⟨by omega, by omega, by omega, by omega, by omega, by omega, fun _ => s4, fun q => by omega⟩
/-- a plot begins -/
theorem ab_sim_plot (hC : ab_CR σ 2 D) (hM : ab_MR σ' 293 0 D) (hW : ab_WD B D) (a b c : Int32) : ab_sim B σ σ' (f_X8_beginPlot σ a b c) (fun e => (e = 1 ∧ (f_X10_isSleeper σ' a = some 0 ∨ (f_X10_isSleeper σ' a = some 1 ∧ f_X10_isCorner b c = 0))) ∨ (e = 0 ∧ f_X10_isSleeper σ' a = some 1 ∧ f_X10_isCorner b c = 1)) (f_X10_isRefusedPlot σ' a) (fun υ => f_X10_starts υ a b c) := by
  have hM0 : σ' 293 0 = ab_I (D 0) := hM 0 (by decide)
  unfold ab_sim f_X8_beginPlot
  rw [ab_corner_eq]
  rcases ab_hasS (a := a) hC.1 hM0 hW.1 hW.2.1 with ⟨h1, h2⟩ | ⟨h1, h2, s, hs, rfl⟩
  · left
    rw [h1, if_pos rfl]
    exact ⟨.inl ⟨rfl, .inl h2⟩, rfl⟩
  · have h05 := hW.2.1
    rcases ab_corner (a := b) (b := c) with g | ⟨g, x, y, hx0, hx1, hy0, hy1, rfl, rfl⟩
    · left
      rw [h1, if_neg (by decide), g, if_pos rfl]
      exact ⟨.inl ⟨rfl, .inr ⟨h2, rfl⟩⟩, rfl⟩
    · right; right
      have w := hW.2.2.2.2.2.2.2.2.1 s hs
      have hcp := (hC.2.2.2.2.1 s hs).2
      have e1 := ab_svn (σ := σ') hM (s := s) (by omega)
      obtain ⟨c1, c2, c3, c4, c5⟩ := hcp
      obtain ⟨w1, w2, w3, w4, w5, w6, w7, w8⟩ := w
      rw [h1, if_neg (by decide), g, if_neg (by decide), ab_plotOf (by omega), c1, c3]
      unfold f_X10_isRefusedPlot
      rw [e1.2.1, Option.bind_some]
      by_cases hq : 1 ≤ ab_sl D s 1
      · left
        obtain ⟨υ, u1, u2, u3, u4⟩ := ab_isBad (σ := σ') (w := 3) (n := ab_I (ab_sl D s 4))
        rw [if_pos hq, if_neg (show ¬ ab_I 1 = 0 by decide), if_neg (by rw [show (0 : Int32) = ab_I 0 from rfl, ab_Ile (by omega) (by omega) (by omega) (by omega)]; omega), e1.2.2.2.2, Option.bind_some, u1]
        exact ⟨.inr ⟨rfl, h2, rfl⟩, 3, _, υ, by decide, rfl, rfl, u2, u3, u4⟩
      · right
        rw [if_neg hq, if_pos (show ab_I 0 = 0 from rfl), if_pos (by rw [show (0 : Int32) = ab_I 0 from rfl, ab_Ile (by omega) (by omega) (by omega) (by omega)]; omega)]
        have u2 := (((hM.up (30 + 37 * s + 1) 1).up (30 + 37 * s + 2) x).up (30 + 37 * s + 3) y).up (30 + 37 * s + 4) 0
        generalize hD2 : ab_u (ab_u (ab_u (ab_u D (30 + 37 * s + 1) 1) (30 + 37 * s + 2) x) (30 + 37 * s + 3) y) (30 + 37 * s + 4) 0 = D2 at u2
        have zo : ∀ k, (k < 31 + 37 * s ∨ 35 + 37 * s ≤ k) → D2 k = D k := fun k h => by rw [← hD2, ab_u_ne (by omega), ab_u_ne (by omega), ab_u_ne (by omega), ab_u_ne (by omega)]
        have s0 : ab_sl D2 s 0 = ab_sl D s 0 := zo _ (by omega)
        have s1 : ab_sl D2 s 1 = 1 := by unfold ab_sl; rw [← hD2, ab_u_ne (by omega), ab_u_ne (by omega), ab_u_ne (by omega), ab_u_at]
        have s2 : ab_sl D2 s 2 = x := by unfold ab_sl; rw [← hD2, ab_u_ne (by omega), ab_u_ne (by omega), ab_u_at]
        have s3 : ab_sl D2 s 3 = y := by unfold ab_sl; rw [← hD2, ab_u_ne (by omega), ab_u_at]
        have s4 : ab_sl D2 s 4 = 0 := by unfold ab_sl; rw [← hD2, ab_u_at]
        have nm : ∀ c, c ≠ 2 + (10 + 3 * s) → f_X6_begin σ (2 + (10 + 3 * s)) (ab_I x) (ab_I y) c = σ c := fun c hc => by
          unfold f_X6_begin
          rw [ab_up_ne hc, ab_up_ne hc, ab_up_ne hc, ab_up_ne hc, ab_up_ne hc, ab_up_ne hc, ab_up_ne hc]
        have fv : ∀ k, f_X6_begin σ (2 + (10 + 3 * s)) (ab_I x) (ab_I y) (2 + (10 + 3 * s)) k = if k = 6 then 0 else if k = 5 then ab_I y else if k = 4 then ab_I x else if k = 3 then ab_I y else if k = 2 then ab_I x else if k = 1 then 0 else if k = 0 then 1 else σ (2 + (10 + 3 * s)) k := fun k => by
          unfold f_X6_begin
          simp only [ab_up, if_true]
        have z0 := zo 0 (by omega)
        have z1 := zo 1 (by omega)
        have z2 := zo 2 (by omega)
        have z3 := zo 3 (by omega)
        have hCR : ab_CR (f_X6_begin σ (2 + (10 + 3 * s)) (ab_I x) (ab_I y)) 2 D2 := by
          refine hC.sl (s := s) hW (by omega) (.inl z0) ?_ ?_ ?_ (fun k _ _ _ h => zo k (by omega)) ?_ (fun s2 h => by rw [nm 3 (by omega)]) (fun c h1 h2 h3 => nm c (by omega)) ⟨?_, ?_, ?_, fun q => ⟨?_, ?_, ?_, ?_⟩, fun k hk => ?_⟩ ?_ ?_
          · rw [nm 2 (by omega), z0]; exact hC.1
          · rw [nm 2 (by omega), z2]; exact hC.2.2.1
          · rw [nm 2 (by omega), z3]; exact hC.2.2.2.1
          · rw [nm 3 (by omega), zo _ (by omega)]; exact (hC.2.2.2.2.1 s hs).1
          · rw [fv, s1]; rfl
          · rw [fv, s1]; rfl
          · rw [fv, s4]; rfl
          · rw [fv, s2]; rfl
          · rw [fv, s3]; rfl
          · rw [fv, s4, s2]; rfl
          · rw [fv, s4, s3]; rfl
          · rw [s4] at hk; omega
          · rw [fv]; exact .inr rfl
          · rw [fv]; exact .inl rfl
        have w2' := hW.2.2.2.2
        have hWD : ab_WD (B + 20) D2 := by
          refine hW.sl (s := s) (by omega) (.inl z0) (by omega) (by omega) (by omega) (by omega) (fun k _ _ _ h => zo k (by omega)) ⟨by omega, by omega, by omega, by omega, by omega, by omega, fun q => by omega, fun q => ?_⟩
          rw [s2, s3, s4]
          refine ⟨fun j hj => absurd hj (by omega), fun j hj => ?_, fun i j a b hi => absurd hi (by omega), fun i a hi => absurd hi (by omega), fun q => by rw [s1] at q; omega⟩
          have : j = 0 := by omega
          subst this
          exact ⟨hx0, hx1, hy0, hy1⟩
        rw [ab_cPlots hCR hWD hWD.1 hWD.2.1, Option.bind_some]
        have hb0 : 0 ≤ ab_S (fun s => if 1 ≤ D2 (31 + 37 * s) then (1 : Int) else 0) (D2 0).toNat := ab_S_nonneg (fun j hj => by split <;> decide)
        have hb1 : ab_S (fun s => if 1 ≤ D2 (31 + 37 * s) then (1 : Int) else 0) (D2 0).toNat ≤ ((D2 0).toNat : Int) * 1 := ab_S_le (fun j hj => by split <;> decide)
        refine ⟨.inr ⟨rfl, h2, rfl⟩, _, D2, _, σ', _, hb0, by omega, rfl, rfl, ab_fR.rf, ?_, u2, hCR, hWD, fun c hc => nm c (by omega), (ab_fM.up.trans ab_fM.up).trans (ab_fM.up.trans ab_fM.up)⟩
        show f_X10_starts σ' (ab_I s) (ab_I x) (ab_I y) = _
        unfold f_X10_starts
        rw [show f_X10_ls σ' (ab_I s) 1 1 = _ from ab_ls_put (w := 1) (by omega) (by decide), Option.bind_some, show f_X10_ls _ (ab_I s) 2 (ab_I x) = _ from ab_ls_put (w := 2) (by omega) (by decide), Option.bind_some, show f_X10_ls _ (ab_I s) 3 (ab_I y) = _ from ab_ls_put (w := 3) (by omega) (by decide), Option.bind_some, show f_X10_ls _ (ab_I s) 4 0 = _ from ab_ls_put (w := 4) (by omega) (by decide), Option.bind_some]
        have hp := ab_rPlots u2 hWD hWD.1 hWD.2.1 (m := 1) (by decide) (by decide)
        have hp2 : f_X10_plots (q_up (q_up (q_up (q_up σ' 293 (30 + 37 * s + 1) 1) 293 (30 + 37 * s + 2) (ab_I x)) 293 (30 + 37 * s + 3) (ab_I y)) 293 (30 + 37 * s + 4) 0) 1 = _ := hp
        rw [hp2, Option.bind_some]
        rfl
/-- a peg -/
theorem ab_sim_peg (hC : ab_CR σ 2 D) (hM : ab_MR σ' 293 0 D) (hW : ab_WD B D) (a b c : Int32) : ab_sim B σ σ' (f_X8_setPeg σ a b c) (fun e => (e = 1 ∧ f_X10_isCorner a b = 0) ∨ (e = 2 ∧ f_X10_isCorner a b = 1 ∧ f_X10_isPeriod c = some 0) ∨ (e = 0 ∧ f_X10_isCorner a b = 1 ∧ f_X10_isPeriod c = some 1)) (f_X10_isRefusedPeg σ' a b) (fun υ => f_X10_sets υ a b c) := by
  have hM1 : σ' 293 1 = ab_I (D 1) := hM 1 (by decide)
  unfold ab_sim f_X8_setPeg
  rw [ab_corner_eq, ab_isPeriod]
  rcases ab_corner (a := a) (b := b) with g | ⟨g, x, y, hx0, hx1, hy0, hy1, rfl, rfl⟩
  · left
    rw [g, if_pos rfl]
    exact ⟨.inl ⟨rfl, rfl⟩, rfl⟩
  · right
    rcases ab_from (a := c) 2 5 (by decide) (by decide) (by decide) (by decide) with h | ⟨h, d, hd0, hd1, rfl⟩
    · left
      have h : f_X9_isFrom c 2 5 = 0 := h
      rw [g, if_neg (by decide), h, if_pos rfl]
      exact ⟨.inr (.inl ⟨rfl, rfl, rfl⟩), rfl⟩
    · right
      have h : f_X9_isFrom (ab_I d) 2 5 = 1 := h
      unfold f_X10_isRefusedPeg
      rw [g, if_neg (by decide), h, if_neg (by decide), show f_X5_findAt σ 8 (ab_I x) (ab_I y) = _ from ab_findAt hC hW (by omega) (by omega) (by omega) (by omega), Option.bind_some, ab_pegAt hM hW (by omega) (by omega) (by omega) (by omega), Option.bind_some, show σ 8 0 = _ from hC.2.1, hM1]
      rcases ab_find_b hW x y with hf | ⟨p, hp, hp8, hf⟩
      · obtain ⟨n, hn⟩ : ∃ n : Nat, D 1 = n := ⟨(D 1).toNat, by have := hW.2.2.1; omega⟩
        have hn8 : n ≤ 8 := by have := hW.2.2.2.1; omega
        rw [hf, if_pos (show ab_I (-1) = -1 from rfl), if_pos (show ab_I (-1) < 0 by decide), hn]
        by_cases q : n = 8
        · left
          obtain ⟨υ, u1, u2, u3, u4⟩ := ab_isBad (σ := σ') (w := 1) (n := 8)
          subst q
          rw [if_neg (show ¬ ab_I ((8 : Nat) : Int) < 8 by decide), if_pos (show ab_I ((8 : Nat) : Int) = 8 from rfl), u1]
          exact ⟨.inr (.inr ⟨rfl, rfl, rfl⟩), 1, 8, υ, by decide, rfl, rfl, u2, u3, u4⟩
        · right
          have hlt : n < 8 := by omega
          rw [if_pos (by rw [show (8 : Int32) = ab_I 8 from rfl, ab_Ilt (by omega) (by omega) (by omega) (by omega)]; omega), if_neg (by rw [show (8 : Int32) = ab_I 8 from rfl, ab_Ieq (by omega) (by omega) (by omega) (by omega)]; omega)]
          have e8 : σ 8 0 = ab_I n := by rw [← hn]; exact hC.2.1
          have ea : f_X5_add σ 8 (ab_I x) (ab_I y) (ab_I d) = q_up (q_up (q_up (q_up σ 9 n (ab_I x)) 10 n (ab_I y)) 11 n (ab_I d)) 8 0 (ab_I (n + 1)) := by
            unfold f_X5_add
            rw [e8]
            simp only [ab_put hlt (show 8 < 2000000000 by decide)]
            simp only [ab_up_ne (show (8 : Nat) ≠ 8 + 1 by decide), ab_up_ne (show (8 : Nat) ≠ 8 + 2 by decide), ab_up_ne (show (8 : Nat) ≠ 8 + 3 by decide), e8, ab_put hlt (show 8 < 2000000000 by decide)]
            rw [show ab_I (n : Int) + 1 = ab_I (n + 1) from ab_Iadd (b := 1)]
          rw [ea]
          have u2 := (((hM.up (6 + 3 * n) x).up (7 + 3 * n) y).up (8 + 3 * n) d).up 1 (n + 1)
          generalize hD2 : ab_u (ab_u (ab_u (ab_u D (6 + 3 * n) x) (7 + 3 * n) y) (8 + 3 * n) d) 1 (n + 1) = D2 at u2
          have zo : ∀ k, k ≠ 1 → (k < 6 + 3 * n ∨ 9 + 3 * n ≤ k) → D2 k = D k := fun k h1 h => by rw [← hD2, ab_u_ne (by omega), ab_u_ne (by omega), ab_u_ne (by omega), ab_u_ne (by omega)]
          have z1 : D2 1 = n + 1 := by rw [← hD2, ab_u_at]
          have zx : D2 (6 + 3 * n) = x := by rw [← hD2, ab_u_ne (by omega), ab_u_ne (by omega), ab_u_ne (by omega), ab_u_at]
          have zy : D2 (7 + 3 * n) = y := by rw [← hD2, ab_u_ne (by omega), ab_u_ne (by omega), ab_u_at]
          have zd : D2 (8 + 3 * n) = d := by rw [← hD2, ab_u_ne (by omega), ab_u_at]
          have sl : ∀ s k, k < 37 → ab_sl D2 s k = ab_sl D s k := fun s k hk => zo _ (by omega) (by omega)
          obtain ⟨a1, a2, a3, a4, a5, a6, a7⟩ := hC
          obtain ⟨w1, w2, w3, w4, w5, w6, w7, w8, w9, w10⟩ := hW
          have z0 := zo 0 (by decide) (by omega)
          have z2 := zo 2 (by decide) (by omega)
          have z3 := zo 3 (by decide) (by omega)
          generalize hτ : q_up (q_up (q_up (q_up σ 9 n (ab_I x)) 10 n (ab_I y)) 11 n (ab_I d)) 8 0 (ab_I (n + 1)) = τ
          have nm : ∀ c, (c < 8 ∨ 12 ≤ c) → τ c = σ c := fun c hc => by rw [← hτ, ab_up_ne (by omega), ab_up_ne (by omega), ab_up_ne (by omega), ab_up_ne (by omega)]
          have t8 : τ 8 0 = ab_I (n + 1) := by rw [← hτ, ab_up_at]
          have t9 : τ 9 = q_up σ 9 n (ab_I x) 9 := by rw [← hτ, ab_up_ne (by decide), ab_up_ne (by decide), ab_up_ne (by decide)]
          have t10 : τ 10 = q_up σ 10 n (ab_I y) 10 := by
            rw [← hτ, ab_up_ne (by decide), ab_up_ne (by decide)]
            funext j
            simp [ab_up]
          have t11 : τ 11 = q_up σ 11 n (ab_I d) 11 := by
            rw [← hτ, ab_up_ne (by decide)]
            funext j
            simp [ab_up]
          refine ⟨.inr (.inr ⟨rfl, rfl, rfl⟩), n, D2, τ, σ', _, by omega, by omega, ?_, rfl, ab_fR.rf, ?_, u2, ⟨?_, ?_, ?_, ?_, fun s hs => ?_, fun p hp => ?_, fun s hs => ?_⟩, ⟨by omega, by omega, by omega, by omega, by omega, by omega, by omega, by omega, fun s hs => ?_, fun p hp => ?_⟩, fun c hc => nm c (by omega), (ab_fM.up.trans ab_fM.up).trans (ab_fM.up.trans ab_fM.up)⟩
          · rw [t8, show ab_I ((n : Int) + 1) - 1 = ab_I (n + 1 - 1) from ab_Isub (b := 1), Int.add_sub_cancel]
          · show f_X10_sets σ' (ab_I x) (ab_I y) (ab_I d) = _
            unfold f_X10_sets
            rw [hM1, hn]
            have e1 : (6 : Int32) + 3 * ab_I n = ab_I ((6 + 3 * n : Nat) : Int) := by
              rw [show (6 : Int32) = ab_I 6 from rfl, show (3 : Int32) = ab_I 3 from rfl, ab_Imul, ab_Iadd]
              exact congrArg ab_I (by omega)
            have e2 : ab_I ((6 + 3 * n : Nat) : Int) + 1 = ab_I ((7 + 3 * n : Nat) : Int) := by
              rw [show (1 : Int32) = ab_I 1 from rfl, ab_Iadd]
              exact congrArg ab_I (by omega)
            have e3 : ab_I ((6 + 3 * n : Nat) : Int) + 2 = ab_I ((8 + 3 * n : Nat) : Int) := by
              rw [show (2 : Int32) = ab_I 2 from rfl, ab_Iadd]
              exact congrArg ab_I (by omega)
            rw [e1, e2, e3, ab_Icl (by omega) (by omega), ab_Icl (by omega) (by omega), ab_Icl (by omega) (by omega), Int.toNat_natCast, Int.toNat_natCast, Int.toNat_natCast]
            rw [if_neg (by rw [ab_Iltc (by omega) (by omega)]; exact fun h => h.elim id (fun h => by omega)), if_neg (by rw [ab_Iltc (by omega) (by omega)]; exact fun h => h.elim id (fun h => by omega)), if_neg (by rw [ab_Iltc (by omega) (by omega)]; exact fun h => h.elim id (fun h => by omega)), ab_up_nk (by omega), ab_up_nk (by omega), ab_up_nk (by omega), hM1, hn, show ab_I (n : Int) + 1 = ab_I (n + 1) from ab_Iadd (b := 1)]
          · rw [nm 2 (by omega), z0]; exact a1
          · rw [z1]; exact t8
          · rw [nm 2 (by omega), z2]; exact a3
          · rw [nm 2 (by omega), z3]; exact a4
          · have hs2 : (s : Int) < D 0 := by omega
            have gw := w9 s hs2
            refine ⟨?_, ?_⟩
            · rw [nm _ (by omega), zo _ (by omega) (by omega)]; exact (a5 s hs2).1
            · exact (((a5 s hs2).2).same (nm _ (by omega)) (nm _ (by omega)) (nm _ (by omega))).congr gw.2.2.2.2.1 gw.2.2.2.2.2.1 (fun k _ hk => sl s k hk)
          · show τ 9 p = _ ∧ τ 10 p = _ ∧ τ 11 p = _
            rw [t9, t10, t11]
            by_cases e : p = n
            · subst e
              rw [ab_up_at, ab_up_at, ab_up_at, zx, zy, zd]
              exact ⟨rfl, rfl, rfl⟩
            · rw [ab_up_nk e, ab_up_nk e, ab_up_nk e, zo _ (by omega) (by omega), zo _ (by omega) (by omega), zo _ (by omega) (by omega)]
              exact a6 p (by omega)
          · rw [nm _ (by omega)]; exact a7 s hs
          · exact (w9 s (by omega)).congr (fun k hk => sl s k hk)
          · by_cases e : p = n
            · subst e
              rw [zx, zy, zd]
              exact ⟨hx0, hx1, hy0, hy1, hd0, hd1⟩
            · rw [zo _ (by omega) (by omega), zo _ (by omega) (by omega), zo _ (by omega) (by omega)]
              exact w10 p (by omega)
      · left
        obtain ⟨υ, u1, u2, u3, u4⟩ := ab_isBad (σ := σ') (w := 2) (n := ab_I p)
        rw [hf, if_neg (by rw [show (-1 : Int32) = ab_I (-1) from rfl, ab_Ieq (by omega) (by omega) (by omega) (by omega)]; omega), if_neg (by rw [show (0 : Int32) = ab_I 0 from rfl, ab_Ilt (by omega) (by omega) (by omega) (by omega)]; omega), Option.bind_some, u1, if_pos (.inr rfl)]
        exact ⟨.inr (.inr ⟨rfl, rfl, rfl⟩), 2, _, υ, by decide, rfl, rfl, u2, u3, u4⟩
end
