/-! questions about one sleeper -/
theorem ab_g_eq {σ : q_S} {x y : Int32} : ab_eq σ (ab_g σ x y) := by
  refine ⟨fun c a b => ?_, fun k a => ?_⟩
  · funext k
    unfold ab_g
    rw [if_neg b]
  · unfold ab_sf at a
    unfold ab_g
    rw [if_pos rfl, if_neg (by omega), if_neg (by omega)]
theorem ab_hasC {σ σ' : q_S} {D : Nat → Int} {B : Int} (hC : ab_CR σ 2 D) (hM : ab_MR σ' 293 0 D) (hW : ab_WD B D) (a b : Int32) : ((f_X2_hasSleeper σ 2 a = 0 ∨ (f_X2_hasSleeper σ 2 a = 1 ∧ f_X6_hasChain σ (f_X2_plotOf 2 a) b = 0)) ∧ f_X10_hasChain σ' a b = some 0) ∨ (f_X2_hasSleeper σ 2 a = 1 ∧ f_X6_hasChain σ (f_X2_plotOf 2 a) b = 1 ∧ f_X10_hasChain σ' a b = some 1 ∧ ∃ s k : Nat, (s : Int) < D 0 ∧ s < 5 ∧ (k : Int) < ab_sl D s 4 ∧ a = ab_I s ∧ b = ab_I k) := by
  have hM0 : σ' 293 0 = ab_I (D 0) := hM 0 (by decide)
  have w5 := hW.2.1
  unfold f_X10_hasChain
  rcases ab_hasS (a := a) hC.1 hM0 hW.1 hW.2.1 with ⟨h1, h2⟩ | ⟨h1, h2, s, hs, rfl⟩
  · left
    rw [h2, Option.bind_some, if_pos rfl]
    exact ⟨.inl h1, rfl⟩
  · have w := hW.2.2.2.2.2.2.2.2.1 s hs
    have hp := (hC.2.2.2.2.1 s hs).2
    have w4 := w.2.2.2.2.1
    have w6 := w.2.2.2.2.2.1
    have e6 : σ (2 + (10 + 3 * s)) 6 = ab_I (ab_sl D s 4) := hp.2.2.1
    rw [h2, Option.bind_some, if_neg (show ¬ ((1 : Int32) = 0) by decide), (ab_svn hM (s := s) (by omega)).2.2.2.2, Option.bind_some, ab_plotOf (by omega), ab_in_from]
    unfold f_X6_hasChain
    rw [e6]
    rcases ab_upto (a := b) (n := ab_sl D s 4) w4 (by omega) with ⟨g1, g2⟩ | ⟨g1, k, hk, rfl⟩
    · left
      rw [g1, if_pos rfl]
      refine ⟨.inr ⟨h1, ?_⟩, rfl⟩
      by_cases q : b < 0
      · rw [if_pos q]
      · rw [if_neg q, if_pos (g2.resolve_left q)]
    · right
      rw [g1, if_neg (show ¬ ((1 : Int32) = 0) by decide)]
      exact ⟨h1, by rw [if_neg (show ¬ ab_I (k : Int) < 0 by rw [ab_Iltc (by omega) (by omega)]; exact id), if_neg (by rw [ab_Ile (by omega) (by omega) (by omega) (by omega)]; omega)], rfl, s, k, hs, by omega, hk, rfl, rfl⟩
theorem ab_ok_9 {t : Nat} {σ : q_S} (hI : ab_Inv t σ) (_ht : t < 512) (a b c : Int32) : w_ok_9 σ a b c (ab_Inv (t + 1)) := by
  have hI2 := hI
  obtain ⟨D, ⟨hC, hM, hW⟩, hO⟩ := hI
  have hM' : ab_MR (q_up σ 292 4 0) 293 0 D := hM
  unfold w_ok_9
  rcases ab_hasC hC hM' hW a b with ⟨h1, h2⟩ | ⟨h1, h2, h3, s, k, hs, s5, hk, rfl, rfl⟩
  · refine ⟨1, 0, 0, q_up (q_up σ 292 4 0) 292 4 1, ?_, .inr (.inl rfl), ?_, rfl, fun z => absurd z (by decide), ab_sI2 hI2 0 1⟩
    · unfold f_X9_chainOf
      rcases h1 with h1 | ⟨h1, h3⟩
      · rw [h1, if_pos rfl]
      · rw [h1, if_neg (show ¬ ((1 : Int32) = 0) by decide), h3, if_pos rfl]
    · unfold f_X10_chainOf
      rw [h2, Option.bind_some, if_pos rfl]
      rfl
  · have w := hW.2.2.2.2.2.2.2.2.1 s hs
    have hp := (hC.2.2.2.2.1 s hs).2
    have w16 := w.2.2.2.2.2.1
    have wk := w.ch hk
    have hg := ab_goesTo hM' s5 w (m := k) (by omega)
    have hd := ab_dir_at hp w hk
    rw [ab_plotOf s5] at h2
    generalize hX : ab_px (ab_sl D s 2) (ab_ds (ab_sl D s)) (ab_ls (ab_sl D s)) k = X at hg
    generalize hY : ab_py (ab_sl D s 3) (ab_ds (ab_sl D s)) (ab_ls (ab_sl D s)) k = Y at hg
    have hMg : ab_MR (ab_g (q_up σ 292 4 0) (ab_I X) (ab_I Y)) 293 0 D := ab_g_MR hM'
    have eqg : ab_eq σ (ab_g (q_up σ 292 4 0) (ab_I X) (ab_I Y)) := (ab_eq.up (.inr ⟨rfl, .inl rfl⟩)).trans ab_g_eq
    have cl : f_X9_chainOf σ (ab_I s) (ab_I k) c = if c = 0 then some (0, ab_I (ab_ds (ab_sl D s) k)) else if c = 1 then some (0, ab_I (ab_ls (ab_sl D s) k)) else if c = 2 then some (0, ab_I X) else if c = 3 then some (0, ab_I Y) else some (2, 0) := by
      unfold f_X9_chainOf
      rw [h1, if_neg (show ¬ ((1 : Int32) = 0) by decide), ab_plotOf s5, h2, if_neg (show ¬ ((1 : Int32) = 0) by decide), hd.1, hd.2, ab_startX hp w wk.1 (by omega), ab_startY hp w wk.1 (by omega), Option.bind_some, Option.bind_some, hX, hY]
    have rf : f_X10_chainOf σ (ab_I s) (ab_I k) c = if c = 0 then some (ab_I (ab_ds (ab_sl D s) k), ab_g (q_up σ 292 4 0) (ab_I X) (ab_I Y)) else if c = 1 then some (ab_I (ab_ls (ab_sl D s) k), ab_g (q_up σ 292 4 0) (ab_I X) (ab_I Y)) else if c = 2 then some (ab_I X, ab_g (q_up σ 292 4 0) (ab_I X) (ab_I Y)) else if c = 3 then some (ab_I Y, ab_g (q_up σ 292 4 0) (ab_I X) (ab_I Y)) else some (0, q_up (ab_g (q_up σ 292 4 0) (ab_I X) (ab_I Y)) 292 4 2) := by
      unfold f_X10_chainOf
      rw [h3, Option.bind_some, if_neg (show ¬ ((1 : Int32) = 0) by decide), hg, Option.bind_some, ab_way hMg s5 (by omega), ab_len hMg s5 (by omega), Option.bind_some, Option.bind_some, ab_g_14, ab_g_15]
      rfl
    rw [cl, rf]
    have fin : ∀ v : Int32, ∃ (e : Nat) (v2 w : Int32) (υ : q_S), some (0, v) = some (e, v2) ∧ (e = 0 ∨ e = 1 ∨ e = 2) ∧ some (v, ab_g (q_up σ 292 4 0) (ab_I X) (ab_I Y)) = some (w, υ) ∧ f_X10_thrown υ = q_cd [1, 2] e ∧ (e = 0 → v2 = w) ∧ ab_Inv (t + 1) υ := fun v => ⟨0, v, v, _, rfl, .inl rfl, rfl, rfl, fun _ => rfl, hI2.same eqg⟩
    by_cases q0 : c = 0
    · simp only [if_pos q0]; exact fin _
    · by_cases q1 : c = 1
      · simp only [if_neg q0, if_pos q1]; exact fin _
      · by_cases q2 : c = 2
        · simp only [if_neg q0, if_neg q1, if_pos q2]; exact fin _
        · by_cases q3 : c = 3
          · simp only [if_neg q0, if_neg q1, if_neg q2, if_pos q3]; exact fin _
          · simp only [if_neg q0, if_neg q1, if_neg q2, if_neg q3]
            exact ⟨2, 0, 0, _, rfl, .inr (.inr rfl), rfl, rfl, fun z => absurd z (by decide), hI2.same (eqg.trans (ab_eq.up (.inr ⟨rfl, .inl rfl⟩)))⟩
theorem ab_chainsFor (v : Int) : f_X9_chainsFor (ab_I v) = (f_X10_size (ab_I v) + 8) / 9 := by
  unfold f_X9_chainsFor f_X10_size
  have e : ∀ x : Int, ab_I x + 9 - 1 = ab_I x + 8 := fun x => by
    rw [show (9 : Int32) = ab_I 9 from rfl, show (1 : Int32) = ab_I 1 from rfl, show (8 : Int32) = ab_I 8 from rfl, ab_Iadd, ab_Isub, ab_Iadd]
    exact congrArg ab_I (by omega)
  by_cases q : (0 : Int32) ≤ ab_I v
  · rw [if_pos q, if_pos q, e]
  · rw [if_neg q, if_neg q, show (0 : Int32) - ab_I v = ab_I (0 - v) from ab_Isub (a := 0), ab_Ineg, e, show 0 - v = -v by omega]
theorem ab_ok_18 {t : Nat} {σ : q_S} (hI : ab_Inv t σ) (_ht : t < 512) (a b c : Int32) : w_ok_18 σ a b c (ab_Inv (t + 1)) := by
  have hI2 := hI
  obtain ⟨D, ⟨hC, hM, hW⟩, hO⟩ := hI
  have hM' : ab_MR (q_up σ 292 4 0) 293 0 D := hM
  have hM0 : σ 293 0 = ab_I (D 0) := hM 0 (by decide)
  have w5 := hW.2.1
  unfold w_ok_18
  rcases ab_hasS (a := a) hC.1 hM0 hW.1 hW.2.1 with ⟨h1, h2⟩ | ⟨h1, h2, s, hs, rfl⟩
  · refine ⟨1, 0, 0, q_up σ 292 4 1, ?_, .inr (.inl rfl), ?_, rfl, fun z => absurd z (by decide), ab_sI hI2 1⟩
    · unfold f_X9_closes
      rw [h1, if_pos rfl]
    · unfold f_X10_closes
      rw [h2, Option.bind_some, if_pos rfl]
      unfold f_X10_closes_27
      rw [ab_up_at, if_neg (show ¬ ((1 : Int32) ≤ 0) by decide)]
  · have s5 : s < 5 := by omega
    have w := hW.2.2.2.2.2.2.2.2.1 s hs
    have hp := (hC.2.2.2.2.1 s hs).2
    have w0 := w.2.2.1
    have w2 := w.2.2.2.1
    have w4 := w.2.2.2.2.1
    by_cases q : ab_sl D s 1 = 0
    · refine ⟨4, 0, 0, q_up σ 292 4 2, ?_, .inr (.inr rfl), ?_, rfl, fun z => absurd z (by decide), ab_sI hI2 2⟩
      · unfold f_X9_closes
        rw [h1, if_neg (show ¬ ((1 : Int32) = 0) by decide), ab_plotOf s5, hp.1, if_neg (show ¬ (1 : Int) ≤ ab_sl D s 1 by omega), if_pos (show ab_I 0 = 0 from rfl)]
      · unfold f_X10_closes
        rw [h2, Option.bind_some, if_neg (show ¬ ((1 : Int32) = 0) by decide), (ab_svn hM s5).2.1, Option.bind_some, q, if_pos (show ab_I 0 = 0 from rfl)]
        unfold f_X10_closes_27
        rw [ab_up_at, if_neg (show ¬ ((2 : Int32) ≤ 0) by decide)]
    · obtain ⟨m, hm⟩ : ∃ m : Nat, ab_sl D s 4 = m := ⟨(ab_sl D s 4).toNat, by omega⟩
      have hg := ab_goesTo hM' s5 w (m := m) (by omega)
      have h4 := hp.2.2.2.1 (by omega)
      rw [show (ab_sl D s 4).toNat = m by omega] at h4
      generalize hX : ab_px (ab_sl D s 2) (ab_ds (ab_sl D s)) (ab_ls (ab_sl D s)) m = X at hg h4
      generalize hY : ab_py (ab_sl D s 3) (ab_ds (ab_sl D s)) (ab_ls (ab_sl D s)) m = Y at hg h4
      have hMg : ab_MR (ab_g (q_up σ 292 4 0) (ab_I X) (ab_I Y)) 293 0 D := ab_g_MR hM'
      refine ⟨0, f_X9_chainsFor (ab_I (X - ab_sl D s 2)) + f_X9_chainsFor (ab_I (Y - ab_sl D s 3)), f_X9_chainsFor (ab_I (X - ab_sl D s 2)) + f_X9_chainsFor (ab_I (Y - ab_sl D s 3)), ab_g (q_up σ 292 4 0) (ab_I X) (ab_I Y), ?_, .inl rfl, ?_, rfl, fun _ => rfl, hI2.same ((ab_eq.up (.inr ⟨rfl, .inl rfl⟩)).trans ab_g_eq)⟩
      · unfold f_X9_closes
        rw [h1, if_neg (show ¬ ((1 : Int32) = 0) by decide), ab_plotOf s5, hp.1, if_pos (show (1 : Int) ≤ ab_sl D s 1 by omega), if_neg (show ¬ (ab_I 1 = 0) by decide), h4.1, h4.2.1, h4.2.2.1, h4.2.2.2, ab_Isub, ab_Isub]
      · unfold f_X10_closes
        rw [h2, Option.bind_some, if_neg (show ¬ ((1 : Int32) = 0) by decide), (ab_svn hM s5).2.1, Option.bind_some, if_neg (by rw [show (0 : Int32) = ab_I 0 from rfl, ab_Ieq (by omega) (by omega) (by omega) (by omega)]; exact q)]
        unfold f_X10_closes_27
        rw [ab_up_at, if_pos (show (0 : Int32) ≤ 0 by decide), (ab_svn hM' s5).2.2.2.2, Option.bind_some, hm, hg, Option.bind_some, (ab_svn hMg s5).2.2.1, Option.bind_some, (ab_svn hMg s5).2.2.2.1, Option.bind_some, ab_g_14, ab_g_15, ab_Isub, ab_Isub, ab_chainsFor, ab_chainsFor]
section
variable {σ : q_S} {D : Nat → Int}
theorem ab_cC_lp {c : Nat} {P : Nat → Int} (h : ab_CP σ c P) (hW : ab_WP P) {v : Int} : ∀ r k : Nat, ((k + r : Nat) : Int) = P 4 → ∀ f, r < f → f_X6_corners_24 c σ f (ab_I (v + ab_S (ab_ls P) k)) (ab_I k) = some (ab_I (v + ab_S (ab_ls P) (P 4).toNat)) := by
  have w4 := hW.2.2.2.2.1
  have w6 := hW.2.2.2.2.2.1
  intro r
  induction r with
  | zero =>
    intro k hk f hf
    obtain ⟨f, rfl⟩ : ∃ g, f = g + 1 := ⟨f - 1, by omega⟩
    rw [f_X6_corners_24, h.2.2.1, if_pos (by rw [ab_Ile (by omega) (by omega) (by omega) (by omega)]; omega), show (P 4).toNat = k by omega]
  | succ r ih =>
    intro k hk f hf
    obtain ⟨f, rfl⟩ : ∃ g, f = g + 1 := ⟨f - 1, by omega⟩
    rw [f_X6_corners_24, h.2.2.1, if_neg (by rw [ab_Ile (by omega) (by omega) (by omega) (by omega)]; omega), (ab_dir_at h hW (k := k) (by omega)).2, ab_Iadd, ab_I1, Int.add_assoc]
    exact ih (k + 1) (by omega) f (by omega)
def ab_co (P : Nat → Int) : Int := if P 1 = 0 then 0 else (if P 1 = 2 then 0 else 1) + ab_S (ab_ls P) (P 4).toNat
theorem ab_corners {c : Nat} {P : Nat → Int} (h : ab_CP σ c P) (hW : ab_WP P) : f_X6_corners σ c = some (ab_I (ab_co P)) := by
  have w0 := hW.2.2.1
  have w2 := hW.2.2.2.1
  have w4 := hW.2.2.2.2.1
  have w6 := hW.2.2.2.2.2.1
  unfold f_X6_corners ab_co
  rw [h.1, h.2.1]
  by_cases q : P 1 = 0
  · rw [if_neg (show ¬ (1 : Int) ≤ P 1 by omega), if_pos (show ab_I 0 = 0 from rfl), if_pos q]
    rfl
  · rw [if_pos (show (1 : Int) ≤ P 1 by omega), if_neg (show ¬ ab_I 1 = 0 by decide), if_neg q]
    by_cases q2 : P 1 = 2
    · rw [if_pos q2, if_pos q2, if_neg (show ¬ ab_I 1 = 0 by decide)]
      exact ab_cC_lp h hW (v := 0) (P 4).toNat 0 (by omega) q_fu (by unfold q_fu; omega)
    · rw [if_neg q2, if_neg q2, if_pos (show ab_I 0 = 0 from rfl)]
      exact ab_cC_lp h hW (v := 1) (P 4).toNat 0 (by omega) q_fu (by unfold q_fu; omega)
theorem ab_cR_lp (hM : ab_MR σ 293 0 D) {s : Nat} (hs : s < 5) (hW : ab_WP (ab_sl D s)) {v : Int} : ∀ r k : Nat, ((k + r : Nat) : Int) = ab_sl D s 4 → ∀ f, r < f → f_X10_cornersOf_29 σ f (ab_I s) (ab_I (v + ab_S (ab_ls (ab_sl D s)) k)) (ab_I k) = some (ab_I (v + ab_S (ab_ls (ab_sl D s)) (ab_sl D s 4).toNat)) := by
  have w4 := hW.2.2.2.2.1
  have w6 := hW.2.2.2.2.2.1
  intro r
  induction r with
  | zero =>
    intro k hk f hf
    obtain ⟨f, rfl⟩ : ∃ g, f = g + 1 := ⟨f - 1, by omega⟩
    rw [f_X10_cornersOf_29, (ab_svn hM hs).2.2.2.2, Option.bind_some, if_pos (by rw [ab_Ile (by omega) (by omega) (by omega) (by omega)]; omega), show (ab_sl D s 4).toNat = k by omega]
  | succ r ih =>
    intro k hk f hf
    obtain ⟨f, rfl⟩ : ∃ g, f = g + 1 := ⟨f - 1, by omega⟩
    rw [f_X10_cornersOf_29, (ab_svn hM hs).2.2.2.2, Option.bind_some, if_neg (by rw [ab_Ile (by omega) (by omega) (by omega) (by omega)]; omega), ab_len hM hs (by omega), Option.bind_some, ab_Iadd, ab_I1, Int.add_assoc]
    exact ih (k + 1) (by omega) f (by omega)
theorem ab_cornersOf (hM : ab_MR σ 293 0 D) {s : Nat} (hs : s < 5) (hW : ab_WP (ab_sl D s)) : f_X10_cornersOf σ (ab_I s) = some (ab_I (ab_co (ab_sl D s))) := by
  have w0 := hW.2.2.1
  have w2 := hW.2.2.2.1
  have w4 := hW.2.2.2.2.1
  have w6 := hW.2.2.2.2.2.1
  unfold f_X10_cornersOf ab_co
  rw [(ab_svn hM hs).2.1, Option.bind_some, Option.bind_some]
  by_cases q : ab_sl D s 1 = 0
  · rw [q, if_pos (show ab_I 0 = 0 from rfl), if_pos rfl]
    rfl
  · rw [if_neg (by rw [show (0 : Int32) = ab_I 0 from rfl, ab_Ieq (by omega) (by omega) (by omega) (by omega)]; exact q), if_neg q]
    by_cases q2 : ab_sl D s 1 = 2
    · rw [if_pos q2, if_pos (by rw [q2]; rfl)]
      exact ab_cR_lp hM hs hW (v := 0) (ab_sl D s 4).toNat 0 (by omega) q_fu (by unfold q_fu; omega)
    · rw [if_neg q2, if_neg (by rw [show (2 : Int32) = ab_I 2 from rfl, ab_Ieq (by omega) (by omega) (by omega) (by omega)]; exact q2)]
      exact ab_cR_lp hM hs hW (v := 1) (ab_sl D s 4).toNat 0 (by omega) q_fu (by unfold q_fu; omega)
end
theorem ab_ok_8 {t : Nat} {σ : q_S} (hI : ab_Inv t σ) (_ht : t < 512) (a b c : Int32) : w_ok_8 σ a b c (ab_Inv (t + 1)) := by
  have hI2 := hI
  obtain ⟨D, ⟨hC, hM, hW⟩, hO⟩ := hI
  have hM0 : σ 293 0 = ab_I (D 0) := hM 0 (by decide)
  have w5 := hW.2.1
  unfold w_ok_8
  rcases ab_hasS (σ' := q_up σ 292 4 0) (a := a) hC.1 hM0 hW.1 hW.2.1 with ⟨h1, h2⟩ | ⟨h1, h2, s, hs, rfl⟩
  · refine ⟨1, 0, 0, σ, q_up (q_up σ 292 4 0) 292 4 1, ?_, .inr (.inl rfl), ?_, rfl, fun z => absurd z (by decide), ab_sI2 hI2 0 1⟩
    · unfold f_X9_sleeperOf
      rw [h1, if_pos rfl]
    · unfold f_X10_sleeperOf
      rw [h2, Option.bind_some, if_pos rfl]
      rfl
  · have s5 : s < 5 := by omega
    have w := hW.2.2.2.2.2.2.2.2.1 s hs
    have hp := (hC.2.2.2.2.1 s hs).2
    have w0 := w.2.2.1
    have w2 := w.2.2.2.1
    have w4 := w.2.2.2.2.1
    obtain ⟨m, hm⟩ : ∃ m : Nat, ab_sl D s 4 = m := ⟨(ab_sl D s 4).toNat, by omega⟩
    -- the second program, whatever the first has left of the cells it looks at
    have rf : ∀ τ : q_S, (∀ c, c ≠ 281 → c ≠ 282 → τ c = σ c) → ∃ υ, ab_Inv (t + 1) υ ∧ ab_Inv (t + 1) (q_up υ 292 4 2) ∧ υ 292 4 = 0 ∧ f_X10_sleeperOf τ (ab_I s) b = if b = 0 then some (ab_I (ab_sl D s 0), υ) else if b = 1 then some (ab_I (ab_sl D s 1), υ) else if b = 2 then some (ab_I (ab_sl D s 4), υ) else if b = 3 then some (if ab_sl D s 1 = 0 then -1 else ab_I (ab_px (ab_sl D s 2) (ab_ds (ab_sl D s)) (ab_ls (ab_sl D s)) m), υ) else if b = 4 then some (if ab_sl D s 1 = 0 then -1 else ab_I (ab_py (ab_sl D s 3) (ab_ds (ab_sl D s)) (ab_ls (ab_sl D s)) m), υ) else if b = 5 then some (ab_I (ab_co (ab_sl D s)), υ) else if b = 6 then some (ab_I (ab_cn D 0 s), υ) else some (0, q_up υ 292 4 2) := by
      intro τ t4
      have hMτ : ab_MR (q_up τ 292 4 0) 293 0 D := fun k hk => by rw [ab_up_ne (by decide), t4 293 (by decide) (by decide)]; exact hM k hk
      have h2' : f_X10_isSleeper (q_up τ 292 4 0) (ab_I s) = some 1 := by
        have e : q_up τ 292 4 0 293 = q_up σ 292 4 0 293 := by rw [ab_up_ne (by decide), ab_up_ne (by decide), t4 293 (by decide) (by decide)]
        unfold f_X10_isSleeper at h2 ⊢
        rw [e]
        exact h2
      have hg := ab_goesTo hMτ s5 w (m := m) (by omega)
      have hMg : ab_MR (ab_g (q_up τ 292 4 0) (ab_I (ab_px (ab_sl D s 2) (ab_ds (ab_sl D s)) (ab_ls (ab_sl D s)) m)) (ab_I (ab_py (ab_sl D s 3) (ab_ds (ab_sl D s)) (ab_ls (ab_sl D s)) m))) 293 0 D := ab_g_MR hMτ
      have eqg : ab_eq σ (ab_g (q_up τ 292 4 0) (ab_I (ab_px (ab_sl D s 2) (ab_ds (ab_sl D s)) (ab_ls (ab_sl D s)) m)) (ab_I (ab_py (ab_sl D s 3) (ab_ds (ab_sl D s)) (ab_ls (ab_sl D s)) m))) := ((ab_svq t4).trans (ab_eq.up (.inr ⟨rfl, .inl rfl⟩))).trans ab_g_eq
      refine ⟨_, hI2.same eqg, hI2.same (eqg.trans (ab_eq.up (.inr ⟨rfl, .inl rfl⟩))), rfl, ?_⟩
      have q1 : ∀ z : Int32, (if ab_I (ab_sl D s 1) = 0 then (-1 : Int32) else z) = if ab_sl D s 1 = 0 then -1 else z := fun z => by
        by_cases q : ab_sl D s 1 = 0
        · rw [if_pos q, if_pos (by rw [q]; rfl)]
        · rw [if_neg q, if_neg (by rw [show (0 : Int32) = ab_I 0 from rfl, ab_Ieq (by omega) (by omega) (by omega) (by omega)]; exact q)]
      have q2 : ∀ (z : Int32) (υ : q_S), (if ab_I (ab_sl D s 1) = 0 then some ((-1 : Int32), υ) else some (z, υ)) = some (if ab_sl D s 1 = 0 then -1 else z, υ) := fun z υ => by
        rw [← q1 z]
        split <;> rfl
      unfold f_X10_sleeperOf
      rw [h2', Option.bind_some, if_neg (show ¬ ((1 : Int32) = 0) by decide), (ab_svn hMτ s5).2.2.2.2, Option.bind_some, hm, hg, Option.bind_some, (ab_svn hMg s5).1, (ab_svn hMg s5).2.1, (ab_svn hMg s5).2.2.2.2, ab_cornersOf hMg s5 w, show f_X10_cellsIn _ (ab_I s) 0 = _ from ab_cellsIn hMg hW (h := 0) (s := s) (by decide) (by decide) (by omega) (by omega)]
      simp only [Option.bind_some, q2, ab_g_14, ab_g_15, hm]
      rfl
    have cl : ∀ v : Int32, b ≠ 6 → f_X9_sleeperOf σ (ab_I s) b = if b = 0 then some (0, ab_I (ab_sl D s 0), σ) else if b = 1 then some (0, ab_I (ab_sl D s 1), σ) else if b = 2 then some (0, ab_I (ab_sl D s 4), σ) else if b = 3 then some (0, if ab_sl D s 1 = 0 then -1 else ab_I (ab_px (ab_sl D s 2) (ab_ds (ab_sl D s)) (ab_ls (ab_sl D s)) m), σ) else if b = 4 then some (0, if ab_sl D s 1 = 0 then -1 else ab_I (ab_py (ab_sl D s 3) (ab_ds (ab_sl D s)) (ab_ls (ab_sl D s)) m), σ) else if b = 5 then some (0, ab_I (ab_co (ab_sl D s)), σ) else some (2, 0, σ) := by
      intro _ h6
      unfold f_X9_sleeperOf
      rw [h1, if_neg (show ¬ ((1 : Int32) = 0) by decide), ab_plotOf s5, ab_depthOf hC hs s5, hp.1, hp.2.1, hp.2.2.1, ab_corners hp w, Option.bind_some, if_neg h6]
      rcases (show ab_sl D s 1 = 0 ∨ ab_sl D s 1 = 1 ∨ ab_sl D s 1 = 2 by omega) with q | q | q
      · rw [q]; rfl
      · have h4 := hp.2.2.2.1 (by omega)
        rw [show (ab_sl D s 4).toNat = m by omega] at h4
        rw [q, h4.2.2.1, h4.2.2.2]; rfl
      · have h4 := hp.2.2.2.1 (by omega)
        rw [show (ab_sl D s 4).toNat = m by omega] at h4
        rw [q, h4.2.2.1, h4.2.2.2]; rfl
    by_cases q6 : b = 6
    · subst q6
      obtain ⟨τ, t1, t2, t3, t4⟩ := ab_survey hC hW (h := 0) (by decide) (by decide)
      obtain ⟨υ, u1, u2, u3, u4⟩ := rf τ t4
      refine ⟨0, ab_I (ab_cn D 0 s), ab_I (ab_cn D 0 s), τ, υ, ?_, .inl rfl, ?_, u3, fun _ => rfl, u1⟩
      · unfold f_X9_sleeperOf f_X0_countOf
        rw [h1, if_neg (show ¬ ((1 : Int32) = 0) by decide), if_neg (show ¬ ((6 : Int32) = 0) by decide), if_neg (show ¬ ((6 : Int32) = 1) by decide), if_neg (show ¬ ((6 : Int32) = 2) by decide), if_neg (show ¬ ((6 : Int32) = 3) by decide), if_neg (show ¬ ((6 : Int32) = 4) by decide), if_neg (show ¬ ((6 : Int32) = 5) by decide), if_pos rfl, show f_X0_survey σ 2 0 = _ from t1, Option.bind_some, ab_at s5 (by decide), t3 s s5]
      · rw [u4]
        rfl
    · obtain ⟨υ, u1, u2, u3, u4⟩ := rf σ (fun _ _ _ => rfl)
      by_cases q0 : b = 0
      · exact ⟨0, ab_I (ab_sl D s 0), ab_I (ab_sl D s 0), σ, υ, by rw [cl 0 q6, if_pos q0], .inl rfl, by rw [u4, if_pos q0], u3, fun _ => rfl, u1⟩
      by_cases q1 : b = 1
      · exact ⟨0, ab_I (ab_sl D s 1), ab_I (ab_sl D s 1), σ, υ, by rw [cl 0 q6, if_neg q0, if_pos q1], .inl rfl, by rw [u4, if_neg q0, if_pos q1], u3, fun _ => rfl, u1⟩
      by_cases q2 : b = 2
      · exact ⟨0, ab_I (ab_sl D s 4), ab_I (ab_sl D s 4), σ, υ, by rw [cl 0 q6, if_neg q0, if_neg q1, if_pos q2], .inl rfl, by rw [u4, if_neg q0, if_neg q1, if_pos q2], u3, fun _ => rfl, u1⟩
      by_cases q3 : b = 3
      · exact ⟨0, if ab_sl D s 1 = 0 then -1 else ab_I (ab_px (ab_sl D s 2) (ab_ds (ab_sl D s)) (ab_ls (ab_sl D s)) m), if ab_sl D s 1 = 0 then -1 else ab_I (ab_px (ab_sl D s 2) (ab_ds (ab_sl D s)) (ab_ls (ab_sl D s)) m), σ, υ, by rw [cl 0 q6, if_neg q0, if_neg q1, if_neg q2, if_pos q3], .inl rfl, by rw [u4, if_neg q0, if_neg q1, if_neg q2, if_pos q3], u3, fun _ => rfl, u1⟩
      by_cases q4 : b = 4
      · exact ⟨0, if ab_sl D s 1 = 0 then -1 else ab_I (ab_py (ab_sl D s 3) (ab_ds (ab_sl D s)) (ab_ls (ab_sl D s)) m), if ab_sl D s 1 = 0 then -1 else ab_I (ab_py (ab_sl D s 3) (ab_ds (ab_sl D s)) (ab_ls (ab_sl D s)) m), σ, υ, by rw [cl 0 q6, if_neg q0, if_neg q1, if_neg q2, if_neg q3, if_pos q4], .inl rfl, by rw [u4, if_neg q0, if_neg q1, if_neg q2, if_neg q3, if_pos q4], u3, fun _ => rfl, u1⟩
      by_cases q5 : b = 5
      · exact ⟨0, ab_I (ab_co (ab_sl D s)), ab_I (ab_co (ab_sl D s)), σ, υ, by rw [cl 0 q6, if_neg q0, if_neg q1, if_neg q2, if_neg q3, if_neg q4, if_pos q5], .inl rfl, by rw [u4, if_neg q0, if_neg q1, if_neg q2, if_neg q3, if_neg q4, if_pos q5], u3, fun _ => rfl, u1⟩
      exact ⟨2, 0, 0, σ, q_up υ 292 4 2, by rw [cl 0 q6, if_neg q0, if_neg q1, if_neg q2, if_neg q3, if_neg q4, if_neg q5], .inr (.inr rfl), by rw [u4, if_neg q0, if_neg q1, if_neg q2, if_neg q3, if_neg q4, if_neg q5, if_neg q6], rfl, fun z => absurd z (by decide), u2⟩
