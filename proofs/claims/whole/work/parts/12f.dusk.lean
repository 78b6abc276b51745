/-! hours that go by -/
section
variable {σ σ' : q_S} {D : Nat → Int} {B : Int}
def ab_d (v h : Int) : Int := if h < v then v - h else 0
def ab_dp (D : Nat → Int) (h : Int) (n : Nat) : Nat → Int := fun j => if 30 ≤ j ∧ (j - 30) % 37 = 0 ∧ (j - 30) / 37 < n then ab_d (D j) h else D j
theorem ab_dp_at {h : Int} {n s : Nat} : ab_dp D h n (30 + 37 * s) = if s < n then ab_d (D (30 + 37 * s)) h else D (30 + 37 * s) := by
  unfold ab_dp
  by_cases q : s < n
  · rw [if_pos q, if_pos ⟨by omega, by omega, by omega⟩]
  · rw [if_neg q, if_neg (by omega)]
theorem ab_dp_no {h : Int} {n k : Nat} (hk : k < 30 ∨ (k - 30) % 37 ≠ 0) : ab_dp D h n k = D k := by
  unfold ab_dp
  rw [if_neg (by omega)]
theorem ab_dp_s {h : Int} {n : Nat} : ∀ k, ab_u (ab_dp D h n) (30 + 37 * n) (ab_d (D (30 + 37 * n)) h) k = ab_dp D h (n + 1) k := by
  intro k
  by_cases e : k = 30 + 37 * n
  · subst e
    rw [ab_u_at, ab_dp_at, if_pos (by omega)]
  · rw [ab_u_ne e]
    unfold ab_dp
    by_cases q : 30 ≤ k ∧ (k - 30) % 37 = 0 ∧ (k - 30) / 37 < n
    · rw [if_pos q, if_pos (by omega)]
    · rw [if_neg q, if_neg (by omega)]
theorem ab_d_b {v h : Int} (h0 : 0 ≤ v) (h9 : v ≤ 9) (hh : 0 ≤ h) : 0 ≤ ab_d v h ∧ ab_d v h ≤ 9 := by
  unfold ab_d
  split <;> omega
theorem ab_dp_WD {h : Int} (hW : ab_WD B D) (hh : 0 ≤ h) (n : Nat) : ab_WD B (ab_dp D h n) := by
  obtain ⟨w1, w2, w3, w4, w5, w6, w7, w8, w9, w10⟩ := hW
  have e : ∀ k, k < 30 → ab_dp D h n k = D k := fun k hk => ab_dp_no (.inl hk)
  refine ⟨by rw [e 0 (by decide)]; exact w1, by rw [e 0 (by decide)]; exact w2, by rw [e 1 (by decide)]; exact w3, by rw [e 1 (by decide)]; exact w4, by rw [e 2 (by decide)]; exact w5, by rw [e 2 (by decide)]; exact w6, by rw [e 3 (by decide)]; exact w7, by rw [e 3 (by decide)]; exact w8, fun s hs => ?_, fun p hp => ?_⟩
  · rw [e 0 (by decide)] at hs
    have g := w9 s hs
    have e0 : ab_sl (ab_dp D h n) s 0 = if s < n then ab_d (D (30 + 37 * s)) h else D (30 + 37 * s) := ab_dp_at
    have b := ab_d_b (h := h) (show 0 ≤ D (30 + 37 * s) from g.1) g.2.1 hh
    have g1 : 0 ≤ D (30 + 37 * s) := g.1
    have g2 : D (30 + 37 * s) ≤ 9 := g.2.1
    refine g.congr0 ?_ ?_ (fun k h1 h2 => ab_dp_no (by omega))
    · rw [e0]; split <;> omega
    · rw [e0]; split <;> omega
  · rw [e 1 (by decide)] at hp
    have g := w10 p hp
    rw [e _ (by omega), e _ (by omega), e _ (by omega)]
    exact g
theorem ab_CR.hour {v : Int} (h : ab_CR σ 2 D) : ab_CR (q_up σ 2 5 (ab_I v)) 2 (ab_u D 2 v) := by
  obtain ⟨a1, a2, a3, a4, a5, a6, a7⟩ := h
  have e : ∀ k, k ≠ 2 → ab_u D 2 v k = D k := fun k hk => ab_u_ne hk
  have sl : ∀ s, ab_sl (ab_u D 2 v) s = ab_sl D s := fun s => funext (fun k => ab_u_ne (by omega))
  refine ⟨?_, ?_, ?_, ?_, fun s hs => ?_, fun p hp => ?_, fun s hs => ?_⟩
  · rw [ab_up_nk (by decide), e 0 (by decide)]; exact a1
  · rw [ab_up_ne (by decide), e 1 (by decide)]; exact a2
  · rw [ab_up_at, ab_u_at]
  · rw [ab_up_nk (by decide), e 3 (by decide)]; exact a4
  · rw [e 0 (by decide)] at hs
    rw [ab_up_ne (by decide), e _ (by omega), sl]
    exact ⟨(a5 s hs).1, (a5 s hs).2.same (ab_up_ne (by omega)) (ab_up_ne (by omega)) (ab_up_ne (by omega))⟩
  · rw [e 1 (by decide)] at hp
    rw [ab_up_ne (by decide), ab_up_ne (by decide), ab_up_ne (by decide), e _ (by omega), e _ (by omega), e _ (by omega)]
    exact a6 p hp
  · rw [ab_up_ne (by omega)]
    exact a7 s hs
theorem ab_hours_lp {h : Int} (hW : ab_WD B D) (hB : B ≤ 1000000000) (h1 : 1 ≤ h) (h20 : h ≤ 20) {v2 : Int32} : ∀ r k : Nat, ((k + r : Nat) : Int) = D 0 → ∀ f, r < f → ∀ τ : q_S, ab_CR τ 2 (ab_dp D h k) → ab_fC σ τ → ∃ υ, f_X8_letHoursGoBy_23 f (ab_I h) v2 (ab_I k) τ = some (ab_I (ab_S (fun s => if ab_dp D h (D 0).toNat (30 + 37 * s) = 0 then (1 : Int) else 0) (D 0).toNat) - v2, υ) ∧ ab_CR υ 2 (ab_u (ab_dp D h (D 0).toNat) 2 (D 2 + h)) ∧ ab_fC σ υ := by
  have w := hW
  obtain ⟨w1, w2, w3, w4, w5, w6, w7, w8, w9, w10⟩ := w
  intro r
  induction r with
  | zero =>
    intro k hk f hf τ hC hf2
    obtain ⟨f, rfl⟩ : ∃ g, f = g + 1 := ⟨f - 1, by omega⟩
    have hk2 : (D 0).toNat = k := by omega
    have e0 : ab_dp D h k 0 = D 0 := ab_dp_no (by omega)
    have e2 : ab_dp D h k 2 = D 2 := ab_dp_no (by omega)
    rw [f_X8_letHoursGoBy_23, hC.1, e0, if_pos (by rw [ab_Ile (by omega) (by omega) (by omega) (by omega)]; omega), hC.2.2.1, e2, ab_Iadd, hk2]
    have hC2 := hC.hour (v := D 2 + h)
    have hWk := ab_dp_WD (h := h) hW (by omega) k
    have hW2 : ab_WD (B + 20) (ab_u (ab_dp D h k) 2 (D 2 + h)) := by
      obtain ⟨g1, g2, g3, g4, g5, g6, g7, g8, g9, g10⟩ := hWk
      have e : ∀ j, j ≠ 2 → ab_u (ab_dp D h k) 2 (D 2 + h) j = ab_dp D h k j := fun j hj => ab_u_ne hj
      have sl : ∀ s, ab_sl (ab_u (ab_dp D h k) 2 (D 2 + h)) s = ab_sl (ab_dp D h k) s := fun s => funext (fun k => ab_u_ne (by omega))
      refine ⟨by rw [e 0 (by decide)]; exact g1, by rw [e 0 (by decide)]; exact g2, by rw [e 1 (by decide)]; exact g3, by rw [e 1 (by decide)]; exact g4, by rw [ab_u_at]; omega, by rw [ab_u_at]; omega, by rw [e 3 (by decide)]; exact g7, by rw [e 3 (by decide)]; omega, fun s hs => by rw [sl]; rw [e 0 (by decide)] at hs; exact g9 s hs, fun p hp => ?_⟩
      rw [e 1 (by decide)] at hp
      rw [e _ (by omega), e _ (by omega), e _ (by omega)]
      exact g10 p hp
    have hA := ab_cAwake hC2 hW2 hW2.1 hW2.2.1
    rw [hA, Option.bind_some]
    have es : ab_S (fun s => if ab_u (ab_dp D h k) 2 (D 2 + h) (30 + 37 * s) = 0 then (1 : Int) else 0) (ab_u (ab_dp D h k) 2 (D 2 + h) 0).toNat = ab_S (fun s => if ab_dp D h k (30 + 37 * s) = 0 then (1 : Int) else 0) k := by
      rw [ab_u_ne (by decide), e0, hk2]
      refine ab_S_congr (fun j hj => ?_)
      rw [ab_u_ne (by omega)]
    rw [es]
    exact ⟨_, rfl, hC2, fun c hc => (ab_up_ne (by omega)).trans (hf2 c hc)⟩
  | succ r ih =>
    intro k hk f hf τ hC hf2
    obtain ⟨f, rfl⟩ : ∃ g, f = g + 1 := ⟨f - 1, by omega⟩
    have e0 : ab_dp D h k 0 = D 0 := ab_dp_no (by omega)
    have hWk := ab_dp_WD (h := h) hW (by omega) k
    have gd := w9 k (by omega)
    have gd0 : 0 ≤ D (30 + 37 * k) := gd.1
    have gd9 : D (30 + 37 * k) ≤ 9 := gd.2.1
    have ek : ab_dp D h k (30 + 37 * k) = D (30 + 37 * k) := by rw [ab_dp_at, if_neg (by omega)]
    have hcp := (hC.2.2.2.2.1 k (by omega)).2
    have hfl := hC.2.2.2.2.2.2 k (by omega)
    have gw := hWk.2.2.2.2.2.2.2.2.1 k (by omega)
    rw [f_X8_letHoursGoBy_23, hC.1, e0, if_neg (by rw [ab_Ile (by omega) (by omega) (by omega) (by omega)]; omega), ab_depthOf hC (by omega) (by omega), ek, ab_Isub]
    have ev : (if (0 : Int32) < ab_I (D (30 + 37 * k) - h) then ab_I (D (30 + 37 * k) - h) else 0) = ab_I (ab_d (D (30 + 37 * k)) h) := by
      rw [show (0 : Int32) = ab_I 0 from rfl]
      unfold ab_d
      by_cases q : h < D (30 + 37 * k)
      · rw [if_pos (by rw [ab_Ilt (by omega) (by omega) (by omega) (by omega)]; omega), if_pos q]
      · rw [if_neg (by rw [ab_Ilt (by omega) (by omega) (by omega) (by omega)]; omega), if_neg q]
    rw [ev, ab_put (by omega) (by decide), ab_I1]
    have ds := ab_dp_s (D := D) (h := h) (n := k)
    have hD : ∀ j, j ≠ 30 + 37 * k → ab_dp D h (k + 1) j = ab_dp D h k j := fun j hj => by rw [← ds j, ab_u_ne hj]
    have hDk : ab_dp D h (k + 1) (30 + 37 * k) = ab_d (D (30 + 37 * k)) h := by rw [← ds, ab_u_at]
    refine ih (k + 1) (by omega) f (by omega) _ ?_ (fun c hc => (ab_up_ne (by omega)).trans (hf2 c hc))
    refine hC.sl (s := k) hWk (by omega) (.inl (hD 0 (by omega))) ?_ ?_ ?_ (fun j _ _ _ hj => hD j (by omega)) ?_ (fun s2 h => ab_up_nk h) (fun c h1 h2 h3 => ab_up_ne h2) ?_ ?_ ?_
    · rw [ab_up_ne (by decide), hD 0 (by omega)]; exact hC.1
    · rw [ab_up_ne (by decide), hD 2 (by omega)]; exact hC.2.2.1
    · rw [ab_up_ne (by decide), hD 3 (by omega)]; exact hC.2.2.2.1
    · rw [ab_up_at, hDk]
    · exact (hcp.same (ab_up_ne (by omega)) (ab_up_ne (by omega)) (ab_up_ne (by omega))).congr gw.2.2.2.2.1 gw.2.2.2.2.2.1 (fun j h1 h2 => hD _ (by omega))
    · rw [ab_up_ne (by omega)]; exact hfl.1
    · rw [ab_up_ne (by omega)]; exact hfl.2
theorem ab_goesBy_lp {h : Int} (hW : ab_WD B D) (hB : B ≤ 1000000000) (h1 : 1 ≤ h) (h20 : h ≤ 20) : ∀ r k : Nat, ((k + r : Nat) : Int) = D 0 → ∀ f, r < f → ∀ τ : q_S, ab_MR τ 293 0 (ab_dp D h k) → ab_fM σ' τ → ∃ υ, f_X10_goesBy_4 f (ab_I h) (ab_I (ab_S (fun s => if 0 < D (30 + 37 * s) ∧ ab_d (D (30 + 37 * s)) h = 0 then (1 : Int) else 0) k)) (ab_I k) τ = some (ab_I (ab_S (fun s => if 0 < D (30 + 37 * s) ∧ ab_d (D (30 + 37 * s)) h = 0 then (1 : Int) else 0) (D 0).toNat), υ) ∧ ab_MR υ 293 0 (ab_u (ab_dp D h (D 0).toNat) 2 (D 2 + h)) ∧ ab_fM σ' υ := by
  have w := hW
  obtain ⟨w1, w2, w3, w4, w5, w6, w7, w8, w9, w10⟩ := w
  intro r
  induction r with
  | zero =>
    intro k hk f hf τ hM hf2
    obtain ⟨f, rfl⟩ : ∃ g, f = g + 1 := ⟨f - 1, by omega⟩
    have hk2 : (D 0).toNat = k := by omega
    have e0 : ab_dp D h k 0 = D 0 := ab_dp_no (by omega)
    have e2 : ab_dp D h k 2 = D 2 := ab_dp_no (by omega)
    have m0 : τ 293 0 = ab_I (D 0) := by rw [← e0]; exact hM 0 (by decide)
    have m2 : τ 293 2 = ab_I (D 2) := by rw [← e2]; exact hM 2 (by decide)
    rw [f_X10_goesBy_4, m0, if_pos (by rw [ab_Ile (by omega) (by omega) (by omega) (by omega)]; omega), m2, ab_Iadd, hk2]
    exact ⟨_, rfl, hM.up 2 (D 2 + h), hf2.trans ab_fM.up⟩
  | succ r ih =>
    intro k hk f hf τ hM hf2
    obtain ⟨f, rfl⟩ : ∃ g, f = g + 1 := ⟨f - 1, by omega⟩
    have e0 : ab_dp D h k 0 = D 0 := ab_dp_no (by omega)
    have m0 : τ 293 0 = ab_I (D 0) := by rw [← e0]; exact hM 0 (by decide)
    have gd := w9 k (by omega)
    have gd0 : 0 ≤ D (30 + 37 * k) := gd.1
    have gd9 : D (30 + 37 * k) ≤ 9 := gd.2.1
    have ek : ab_dp D h k (30 + 37 * k) = D (30 + 37 * k) := by rw [ab_dp_at, if_neg (by omega)]
    have sv0 : f_X10_sv τ (ab_I k) 0 = some (ab_I (D (30 + 37 * k))) := by rw [← ek]; exact (ab_svn hM (by omega)).1
    have di : f_X10_depthIn τ (ab_I k) (ab_I h) = some (ab_I (ab_d (D (30 + 37 * k)) h)) := by
      unfold f_X10_depthIn ab_d
      rw [sv0, Option.bind_some, Option.bind_some]
      by_cases q : h < D (30 + 37 * k)
      · rw [if_neg (by rw [ab_Ile (by omega) (by omega) (by omega) (by omega)]; omega), if_pos q, ab_Isub]
      · rw [if_pos (by rw [ab_Ile (by omega) (by omega) (by omega) (by omega)]; omega), if_neg q]
        rfl
    have b := ab_d_b (h := h) gd0 gd9 (by omega)
    have hM2 := (hM.up (30 + 37 * k + 0) (ab_d (D (30 + 37 * k)) h)).congr (fun j _ => (ab_dp_s (D := D) (h := h) (n := k) j).symm)
    have st : ∀ s0 : Int, f_X10_goesBy_38 (f_X10_goesBy_4 f) (ab_I h) (ab_I k) (ab_I s0) (ab_I (ab_S (fun s => if 0 < D (30 + 37 * s) ∧ ab_d (D (30 + 37 * s)) h = 0 then (1 : Int) else 0) k)) τ = f_X10_goesBy_4 f (ab_I h) (ab_I (ab_S (fun s => if 0 < D (30 + 37 * s) ∧ ab_d (D (30 + 37 * s)) h = 0 then (1 : Int) else 0) k + s0)) (ab_I ((k + 1 : Nat) : Int)) (q_up τ 293 (30 + 37 * k + 0) (ab_I (ab_d (D (30 + 37 * k)) h))) := fun s0 => by
      unfold f_X10_goesBy_38
      rw [di, Option.bind_some, show f_X10_ls τ (ab_I k) 0 (ab_I (ab_d (D (30 + 37 * k)) h)) = _ from ab_ls_put (w := 0) (by omega) (by decide), Option.bind_some, ab_Iadd, ab_I1]
    have hs : ab_S (fun s => if 0 < D (30 + 37 * s) ∧ ab_d (D (30 + 37 * s)) h = 0 then (1 : Int) else 0) (k + 1) = ab_S (fun s => if 0 < D (30 + 37 * s) ∧ ab_d (D (30 + 37 * s)) h = 0 then (1 : Int) else 0) k + (if 0 < D (30 + 37 * k) ∧ ab_d (D (30 + 37 * k)) h = 0 then (1 : Int) else 0) := rfl
    obtain ⟨υ, u1, u2, u3⟩ := ih (k + 1) (by omega) f (by omega) _ hM2 (hf2.trans ab_fM.up)
    rw [hs] at u1
    refine ⟨υ, ?_, u2, u3⟩
    rw [f_X10_goesBy_4, m0, if_neg (by rw [ab_Ile (by omega) (by omega) (by omega) (by omega)]; omega), sv0, Option.bind_some, di, Option.bind_some]
    by_cases q0 : D (30 + 37 * k) ≤ 0
    · rw [if_pos (by rw [show (0 : Int32) = ab_I 0 from rfl, ab_Ile (by omega) (by omega) (by omega) (by omega)]; omega)]
      rw [if_neg (by omega)] at u1
      exact (st 0).trans u1
    · rw [if_neg (by rw [show (0 : Int32) = ab_I 0 from rfl, ab_Ile (by omega) (by omega) (by omega) (by omega)]; omega)]
      by_cases q1 : ab_d (D (30 + 37 * k)) h = 0
      · rw [if_pos ⟨by omega, q1⟩] at u1
        rw [if_pos (show ab_I (ab_d (D (30 + 37 * k)) h) = 0 by rw [q1]; rfl)]
        exact (st 1).trans u1
      · rw [if_neg (fun z => q1 z.2)] at u1
        rw [if_neg (by rw [show (0 : Int32) = ab_I 0 from rfl, ab_Ieq (by omega) (by omega) (by omega) (by omega)]; exact q1)]
        exact (st 0).trans u1
/-- hours go by -/
theorem ab_sim_dusk (hC : ab_CR σ 2 D) (hM : ab_MR σ' 293 0 D) (hW : ab_WD B D) (hB : B ≤ 1000000000) (a : Int32) : ab_sim B σ σ' (f_X8_letHoursGoBy σ a) (fun e => (e = 2 ∧ f_X10_areHours a = some 0) ∨ (e = 0 ∧ f_X10_areHours a = some 1)) (some (0, σ')) (fun υ => f_X10_goesBy υ a) := by
  unfold ab_sim f_X8_letHoursGoBy
  rw [ab_areHours]
  right
  rcases ab_from (a := a) 1 20 (by decide) (by decide) (by decide) (by decide) with g | ⟨g, h, hd0, hd1, rfl⟩
  · left
    have g : f_X9_isFrom a 1 20 = 0 := g
    rw [g, if_pos rfl]
    exact ⟨.inl ⟨rfl, rfl⟩, rfl⟩
  · right; right
    have g : f_X9_isFrom (ab_I h) 1 20 = 1 := g
    have w := hW
    obtain ⟨w1, w2, w3, w4, w5, w6, w7, w8, w9, w10⟩ := w
    have z0 : ∀ k, ab_dp D h 0 k = D k := fun k => by unfold ab_dp; rw [if_neg (by omega)]
    have z0' : ab_dp D h 0 = D := funext z0
    rw [g, if_neg (by decide), ab_cAwake hC hW w1 w2, Option.bind_some]
    obtain ⟨τ, t1, t2, t3⟩ := ab_hours_lp (σ := σ) (v2 := ab_I (ab_S (fun s => if D (30 + 37 * s) = 0 then (1 : Int) else 0) (D 0).toNat)) hW hB hd0 hd1 (D 0).toNat 0 (by omega) q_fu (by unfold q_fu; omega) σ (by rw [z0']; exact hC) (fun _ _ => rfl)
    obtain ⟨υ, u1, u2, u3⟩ := ab_goesBy_lp (σ' := σ') hW hB hd0 hd1 (D 0).toNat 0 (by omega) q_fu (by unfold q_fu; omega) σ' (by rw [z0']; exact hM) ⟨fun _ _ _ => rfl, fun _ _ => rfl⟩
    have hb0 : 0 ≤ ab_S (fun s => if 0 < D (30 + 37 * s) ∧ ab_d (D (30 + 37 * s)) h = 0 then (1 : Int) else 0) (D 0).toNat := ab_S_nonneg (fun j hj => by split <;> decide)
    have hb1 : ab_S (fun s => if 0 < D (30 + 37 * s) ∧ ab_d (D (30 + 37 * s)) h = 0 then (1 : Int) else 0) (D 0).toNat ≤ ((D 0).toNat : Int) * 1 := ab_S_le (fun j hj => by split <;> decide)
    have es : ab_S (fun s => if ab_dp D h (D 0).toNat (30 + 37 * s) = 0 then (1 : Int) else 0) (D 0).toNat - ab_S (fun s => if D (30 + 37 * s) = 0 then (1 : Int) else 0) (D 0).toNat = ab_S (fun s => if 0 < D (30 + 37 * s) ∧ ab_d (D (30 + 37 * s)) h = 0 then (1 : Int) else 0) (D 0).toNat := by
      rw [← ab_S_sub]
      refine ab_S_congr (fun j hj => ?_)
      have gd := w9 j (by omega)
      have gd0 : 0 ≤ D (30 + 37 * j) := gd.1
      rw [ab_dp_at, if_pos hj]
      unfold ab_d
      (repeat' split) <;> omega
    rw [ab_Isub, es] at t1
    have hW2 := ab_dp_WD (h := h) hW (by omega) (D 0).toNat
    refine ⟨.inr ⟨rfl, rfl⟩, _, _, τ, σ', υ, hb0, by omega, t1, rfl, ab_fR.rf, u1, u2, t2, ?_, t3, u3⟩
    obtain ⟨g1, g2, g3, g4, g5, g6, g7, g8, g9, g10⟩ := hW2
    have e : ∀ j, j ≠ 2 → ab_u (ab_dp D h (D 0).toNat) 2 (D 2 + h) j = ab_dp D h (D 0).toNat j := fun j hj => ab_u_ne hj
    have sl : ∀ s, ab_sl (ab_u (ab_dp D h (D 0).toNat) 2 (D 2 + h)) s = ab_sl (ab_dp D h (D 0).toNat) s := fun s => funext (fun k => ab_u_ne (by omega))
    refine ⟨by rw [e 0 (by decide)]; exact g1, by rw [e 0 (by decide)]; exact g2, by rw [e 1 (by decide)]; exact g3, by rw [e 1 (by decide)]; exact g4, by rw [ab_u_at]; omega, by rw [ab_u_at]; omega, by rw [e 3 (by decide)]; exact g7, by rw [e 3 (by decide)]; omega, fun s hs => by rw [sl]; rw [e 0 (by decide)] at hs; exact g9 s hs, fun p hp => ?_⟩
    rw [e 1 (by decide)] at hp
    rw [e _ (by omega), e _ (by omega), e _ (by omega)]
    exact g10 p hp
end
