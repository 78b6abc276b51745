/-! the commands that only write: sleepers, depths, giving up -/
theorem ab_CR.sl {σ τ : q_S} {D D2 : Nat → Int} {B : Int} {s : Nat} (h : ab_CR σ 2 D) (hW : ab_WD B D) (hs : s < 5) (hn : D2 0 = D 0 ∨ (D2 0 = D 0 + 1 ∧ (s : Int) = D 0))
    (e0 : τ 2 0 = ab_I (D2 0)) (e5 : τ 2 5 = ab_I (D2 2)) (e6 : τ 2 6 = ab_I (D2 3)) (hD : ∀ k, k ≠ 0 → k ≠ 2 → k ≠ 3 → (k < 30 + 37 * s ∨ 67 + 37 * s ≤ k) → D2 k = D k)
    (d0 : τ 3 s = ab_I (D2 (30 + 37 * s))) (d1 : ∀ s2, s2 ≠ s → τ 3 s2 = σ 3 s2) (hc : ∀ c, c ≠ 2 → c ≠ 3 → (c < 12 + 3 * s ∨ 15 + 3 * s ≤ c) → τ c = σ c)
    (hp : ab_CP τ (2 + (10 + 3 * s)) (ab_sl D2 s)) (f0 : ab_flag (τ (2 + (10 + 3 * s)) 0)) (f1 : ab_flag (τ (2 + (10 + 3 * s)) 1)) : ab_CR τ 2 D2 := by
  obtain ⟨a1, a2, a3, a4, a5, a6, a7⟩ := h
  obtain ⟨w1, w2, w3, w4, w5, w6, w7, w8, w9, w10⟩ := hW
  refine ⟨e0, ?_, e5, e6, fun s2 hs2 => ?_, fun p hp2 => ?_, fun s2 hs2 => ?_⟩
  · rw [hc (2 + 6) (by omega) (by omega) (by omega), hD 1 (by decide) (by decide) (by decide) (by omega)]
    exact a2
  · by_cases e : s2 = s
    · subst e
      exact ⟨d0, hp⟩
    · have hs3 : (s2 : Int) < D 0 := by omega
      have g := a5 s2 hs3
      have gw := w9 s2 hs3
      refine ⟨?_, ?_⟩
      · rw [show 2 + 1 = 3 from rfl, d1 s2 e, hD _ (by omega) (by omega) (by omega) (by omega)]
        exact g.1
      · refine (g.2.same (hc _ (by omega) (by omega) (by omega)) (hc _ (by omega) (by omega) (by omega)) (hc _ (by omega) (by omega) (by omega))).congr gw.2.2.2.2.1 gw.2.2.2.2.2.1 (fun k hk1 hk => ?_)
        exact hD _ (by omega) (by omega) (by omega) (by omega)
  · rw [hD 1 (by decide) (by decide) (by decide) (by omega)] at hp2
    rw [hc (2 + 7) (by omega) (by omega) (by omega), hc (2 + 8) (by omega) (by omega) (by omega), hc (2 + 9) (by omega) (by omega) (by omega), hD _ (by omega) (by omega) (by omega) (by omega), hD _ (by omega) (by omega) (by omega) (by omega), hD _ (by omega) (by omega) (by omega) (by omega)]
    exact a6 p hp2
  · by_cases e : s2 = s
    · subst e
      exact ⟨f0, f1⟩
    · rw [hc _ (by omega) (by omega) (by omega)]
      exact a7 s2 hs2
theorem ab_WD.sl {D D2 : Nat → Int} {B : Int} {s : Nat} (hW : ab_WD B D) (h5 : D2 0 ≤ 5) (hn : D2 0 = D 0 ∨ (D2 0 = D 0 + 1 ∧ (s : Int) = D 0)) (h20 : 0 ≤ D2 2) (h21 : D2 2 ≤ B + 20) (h30 : 0 ≤ D2 3) (h31 : D2 3 ≤ B + 20) (hD : ∀ k, k ≠ 0 → k ≠ 2 → k ≠ 3 → (k < 30 + 37 * s ∨ 67 + 37 * s ≤ k) → D2 k = D k) (hp : ab_WP (ab_sl D2 s)) : ab_WD (B + 20) D2 := by
  obtain ⟨w1, w2, w3, w4, w5, w6, w7, w8, w9, w10⟩ := hW
  have e1 := hD 1 (by decide) (by decide) (by decide) (by omega)
  refine ⟨by omega, h5, by rw [e1]; exact w3, by rw [e1]; exact w4, h20, h21, h30, h31, fun s2 hs2 => ?_, fun p hp2 => ?_⟩
  · by_cases e : s2 = s
    · subst e
      exact hp
    · exact (w9 s2 (by omega)).congr (fun k hk => hD _ (by omega) (by omega) (by omega) (by omega))
  · rw [e1] at hp2
    rw [hD _ (by omega) (by omega) (by omega) (by omega), hD _ (by omega) (by omega) (by omega) (by omega), hD _ (by omega) (by omega) (by omega) (by omega)]
    exact w10 p hp2
section
variable {σ σ' : q_S} {D : Nat → Int} {B : Int}
theorem ab_hn (hW : ab_WD B D) : ∃ n : Nat, D 0 = n ∧ n ≤ 5 := ⟨(D 0).toNat, by have := hW.1; omega, by have := hW.2.1; omega⟩
theorem ab_depthOf {z : Nat} (hC : ab_CR σ z D) {s : Nat} (hs : (s : Int) < D 0) (h5 : s < 5) : f_X2_depthOf σ z (ab_I s) = ab_I (D (30 + 37 * s)) := by
  unfold f_X2_depthOf
  rw [ab_at h5 (by decide)]
  exact (hC.2.2.2.2.1 s hs).1
theorem ab_fr01 (a lo hi : Int32) : f_X9_isFrom a lo hi = 0 ∨ f_X9_isFrom a lo hi = 1 := by
  unfold f_X9_isFrom
  split
  · exact .inl rfl
  · split
    · exact .inl rfl
    · exact .inr rfl
theorem ab_isDepth (b : Int32) : f_X10_isDepth b = some (f_X9_isFrom b 0 9) := if_pos (ab_fr01 b 0 9)
theorem ab_isPeriod (b : Int32) : f_X10_isPeriod b = some (f_X9_isFrom b 2 5) := if_pos (ab_fr01 b 2 5)
theorem ab_areHours (b : Int32) : f_X10_areHours b = some (f_X9_isFrom b 1 20) := if_pos (ab_fr01 b 1 20)
theorem ab_isLength (b : Int32) : f_X10_isLength b = some (f_X9_isFrom b 1 9) := if_pos (ab_fr01 b 1 9)
/-- depth -/
theorem ab_sim_deep (hC : ab_CR σ 2 D) (hM : ab_MR σ' 293 0 D) (hW : ab_WD B D) (a b : Int32) : ab_sim B σ σ' (some (f_X8_giveDepth σ a b)) (fun e => (e = 1 ∧ f_X10_isSleeper σ' a = some 0) ∨ (e = 2 ∧ f_X10_isSleeper σ' a = some 1 ∧ f_X10_isDepth b = some 0) ∨ (e = 0 ∧ f_X10_isSleeper σ' a = some 1 ∧ f_X10_isDepth b = some 1)) (f_X10_isRefusedDeep σ' a b) (fun υ => f_X10_deepens υ a b) := by
  have hM0 : σ' 293 0 = ab_I (D 0) := hM 0 (by decide)
  unfold ab_sim f_X8_giveDepth
  rw [ab_isDepth]
  rcases ab_hasS (a := a) hC.1 hM0 hW.1 hW.2.1 with ⟨h1, h2⟩ | ⟨h1, h2, s, hs, rfl⟩
  · left
    rw [h1, if_pos rfl]
    exact ⟨.inl ⟨rfl, h2⟩, rfl⟩
  · have h05 := hW.2.1
    rcases ab_from (a := b) 0 9 (by decide) (by decide) (by decide) (by decide) with g | ⟨g, d, hd0, hd1, rfl⟩
    · right; left
      have g : f_X9_isFrom b 0 9 = 0 := g
      rw [h1, if_neg (by decide), if_pos g, g]
      exact ⟨.inr (.inl ⟨rfl, h2, rfl⟩), rfl⟩
    · right; right
      have g : f_X9_isFrom (ab_I d) 0 9 = 1 := g
      have e0 : ∀ υ, ab_MR υ 293 0 D → f_X10_sv υ (ab_I s) 0 = some (ab_I (D (30 + 37 * s))) := fun υ hM => (ab_svn hM (by omega)).1
      have w := hW.2.2.2.2.2.2.2.2.1 s hs
      have wd0 : 0 ≤ D (30 + 37 * s) := w.1
      have wd9 : D (30 + 37 * s) ≤ 9 := w.2.1
      rw [h1, if_neg (by decide), g, if_neg (by decide), ab_depthOf hC hs (by omega)]
      unfold f_X10_isRefusedDeep f_X10_deepens
      rw [e0 σ' hM, Option.bind_some]
      by_cases hq : D (30 + 37 * s) = d
      · left
        obtain ⟨υ, u1, u2, u3, u4⟩ := ab_isBad (σ := σ') (w := 10) (n := ab_I d)
        rw [hq, if_pos rfl, if_pos rfl, u1]
        exact ⟨.inr (.inr ⟨rfl, h2, rfl⟩), 10, ab_I d, υ, by decide, rfl, rfl, u2, u3, u4⟩
      · right
        rw [if_neg (by rw [ab_Ieq (by omega) (by omega) (by omega) (by omega)]; exact hq), if_neg (by rw [ab_Ieq (by omega) (by omega) (by omega) (by omega)]; exact hq), ab_put (by omega) (by decide)]
        have hD : ∀ k, k ≠ 0 → k ≠ 2 → k ≠ 3 → (k < 30 + 37 * s ∨ 67 + 37 * s ≤ k) → ab_u D (30 + 37 * s) d k = D k := fun k _ _ _ hk => ab_u_ne (by omega)
        have e02 : ab_u D (30 + 37 * s) d 0 = D 0 := ab_u_ne (by omega)
        have e22 : ab_u D (30 + 37 * s) d 2 = D 2 := ab_u_ne (by omega)
        have e32 : ab_u D (30 + 37 * s) d 3 = D 3 := ab_u_ne (by omega)
        have hsl : ∀ k, 1 ≤ k → k < 37 → ab_sl (ab_u D (30 + 37 * s) d) s k = ab_sl D s k := fun k h1 h2 => ab_u_ne (by omega)
        have hsl0 : ab_sl (ab_u D (30 + 37 * s) d) s 0 = d := ab_u_at
        have hf := hC.2.2.2.2.2.2 s (by omega)
        refine ⟨.inr (.inr ⟨rfl, h2, rfl⟩), D (30 + 37 * s), ab_u D (30 + 37 * s) d, q_up σ 3 s (ab_I d), σ', q_up σ' 293 (30 + 37 * s + 0) (ab_I d), wd0, by omega, rfl, rfl, ab_fR.rf, ?_, hM.up _ _, ?_, ?_, fun c hc => ab_up_ne (by omega), ab_fM.up⟩
        · show Option.bind (f_X10_sv σ' (ab_I s) 0) _ = _
          rw [e0 σ' hM, Option.bind_some, show f_X10_ls σ' (ab_I s) 0 (ab_I d) = _ from ab_ls_put (w := 0) (by omega) (by decide), Option.bind_some]
        · refine hC.sl (s := s) hW (by omega) (.inl e02) ?_ ?_ ?_ hD ?_ (fun s2 h => ab_up_nk h) (fun c h1 h2 h3 => ab_up_ne h2) ?_ ?_ ?_
          · rw [ab_up_ne (by decide), e02]; exact hC.1
          · rw [ab_up_ne (by decide), e22]; exact hC.2.2.1
          · rw [ab_up_ne (by decide), e32]; exact hC.2.2.2.1
          · rw [ab_up_at, ab_u_at]
          · exact ((hC.2.2.2.2.1 s hs).2.same (ab_up_ne (by omega)) (ab_up_ne (by omega)) (ab_up_ne (by omega))).congr w.2.2.2.2.1 w.2.2.2.2.2.1 hsl
          · rw [ab_up_ne (by omega)]; exact hf.1
          · rw [ab_up_ne (by omega)]; exact hf.2
        · have w2 := hW.2.2.2.2
          exact hW.sl (s := s) (by omega) (.inl e02) (by omega) (by omega) (by omega) (by omega) hD (w.congr0 (by omega) (by omega) hsl)
/-- the numbers from o on, n of them, all 0 -/
def ab_z (D : Nat → Int) (o n : Nat) : Nat → Int := fun j => if o ≤ j ∧ j < o + n then 0 else D j
theorem ab_MR.congr {c : Nat} {D2 : Nat → Int} (h : ab_MR σ c 0 D) (he : ∀ k, k < 220 → D2 k = D k) : ab_MR σ c 0 D2 := fun k hk => by rw [he k hk]; exact h k hk
theorem ab_z_s {o n : Nat} : ∀ k, ab_u (ab_z D o n) (o + n) 0 k = ab_z D o (n + 1) k := by
  intro k
  unfold ab_u ab_z
  by_cases h : k = o + n
  · rw [if_pos h, if_pos (by omega)]
  · rw [if_neg h]
    by_cases h2 : o ≤ k ∧ k < o + n
    · rw [if_pos h2, if_pos (by omega)]
    · rw [if_neg h2, if_neg (by omega)]
theorem ab_drops_lp {v : Int32} {s : Nat} (hs : s < 5) : ∀ r k : Nat, k + r = 37 → 1 ≤ k → ∀ f, r < f → ∀ τ : q_S, ab_MR τ 293 0 (ab_z D (31 + 37 * s) (k - 1)) → ∃ υ, f_X10_drops_9 f (ab_I s) v (ab_I k) τ = some (v, υ) ∧ ab_MR υ 293 0 (ab_z D (31 + 37 * s) 36) ∧ ab_fM τ υ := by
  intro r
  induction r with
  | zero =>
    intro k hk hk1 f hf τ h
    obtain ⟨f, rfl⟩ : ∃ g, f = g + 1 := ⟨f - 1, by omega⟩
    have : k = 37 := by omega
    subst this
    rw [f_X10_drops_9, if_pos (by rw [show (37 : Int32) = ab_I 37 from rfl, ab_Ile (by omega) (by omega) (by omega) (by omega)]; omega)]
    exact ⟨τ, rfl, h, fun _ _ _ => rfl, fun _ _ => rfl⟩
  | succ r ih =>
    intro k hk hk1 f hf τ h
    obtain ⟨f, rfl⟩ : ∃ g, f = g + 1 := ⟨f - 1, by omega⟩
    rw [f_X10_drops_9, if_neg (by rw [show (37 : Int32) = ab_I 37 from rfl, ab_Ile (by omega) (by omega) (by omega) (by omega)]; omega), ab_ls_put hs (by omega), Option.bind_some, ab_I1]
    have h2 := h.up (30 + 37 * s + k) 0
    obtain ⟨υ, u1, u2, u3⟩ := ih (k + 1) (by omega) (by omega) f (by omega) _ (h2.congr (fun j hj => by
      have e := ab_z_s (D := D) (o := 31 + 37 * s) (n := k - 1) j
      rw [show 31 + 37 * s + (k - 1) = 30 + 37 * s + k by omega, show k - 1 + 1 = k + 1 - 1 by omega] at e
      exact e.symm))
    exact ⟨υ, u1, u2, ab_fM.up.trans u3⟩
/-- giving a plot up -/
theorem ab_sim_drop (hC : ab_CR σ 2 D) (hM : ab_MR σ' 293 0 D) (hW : ab_WD B D) (a : Int32) : ab_sim B σ σ' (some (f_X8_giveUp σ a)) (fun e => (e = 1 ∧ f_X10_isSleeper σ' a = some 0) ∨ (e = 0 ∧ f_X10_isSleeper σ' a = some 1)) (f_X10_isRefusedDrop σ' a) (fun υ => f_X10_drops υ a) := by
  have hM0 : σ' 293 0 = ab_I (D 0) := hM 0 (by decide)
  unfold ab_sim f_X8_giveUp
  rcases ab_hasS (a := a) hC.1 hM0 hW.1 hW.2.1 with ⟨h1, h2⟩ | ⟨h1, h2, s, hs, rfl⟩
  · left
    rw [h1, if_pos rfl]
    exact ⟨.inl ⟨rfl, h2⟩, rfl⟩
  · have h05 := hW.2.1
    right; right
    have w := hW.2.2.2.2.2.2.2.2.1 s hs
    have hcp := (hC.2.2.2.2.1 s hs).2
    have e1 : ∀ υ, ab_MR υ 293 0 D → f_X10_sv υ (ab_I s) 1 = some (ab_I (ab_sl D s 1)) ∧ f_X10_sv υ (ab_I s) 4 = some (ab_I (ab_sl D s 4)) := fun υ hM => ⟨(ab_svn hM (by omega)).2.1, (ab_svn hM (by omega)).2.2.2.2⟩
    obtain ⟨c1, c2, c3, c4, c5⟩ := hcp
    obtain ⟨w1, w2, w3, w4, w5, w6, w7, w8⟩ := w
    rw [h1, if_neg (by decide), ab_plotOf (by omega), c1, c3]
    unfold f_X10_isRefusedDrop
    rw [(e1 σ' hM).1, Option.bind_some]
    by_cases hq : ab_sl D s 1 = 0
    · left
      obtain ⟨υ, u1, u2, u3, u4⟩ := ab_isBad (σ := σ') (w := 4) (n := ab_I s)
      rw [hq, if_pos (show ab_I (if (1 : Int) ≤ 0 then 1 else 0) = 0 from rfl), if_pos (show ab_I 0 = 0 from rfl), u1]
      exact ⟨.inr ⟨rfl, h2⟩, 4, ab_I s, υ, by decide, rfl, rfl, u2, u3, u4⟩
    · right
      rw [if_neg (by rw [if_pos (by omega)]; decide), if_neg (by rw [show (0 : Int32) = ab_I 0 from rfl, ab_Ieq (by omega) (by omega) (by omega) (by omega)]; exact hq)]
      obtain ⟨υ2, u1, u2, u3⟩ := ab_drops_lp (D := D) (v := ab_I (ab_sl D s 4)) (s := s) (by omega) 36 1 (by decide) (by decide) q_fu (by unfold q_fu; omega) σ' (hM.congr (fun k hk => by unfold ab_z; rw [if_neg (by omega)]))
      have hD : ∀ k, k ≠ 0 → k ≠ 2 → k ≠ 3 → (k < 30 + 37 * s ∨ 67 + 37 * s ≤ k) → ab_z D (31 + 37 * s) 36 k = D k := fun k _ _ _ hk => by unfold ab_z; rw [if_neg (by omega)]
      have hz : ∀ k, k < 31 → ab_z D (31 + 37 * s) 36 k = D k := fun k hk => by unfold ab_z; rw [if_neg (by omega)]
      have hsl : ∀ k, 1 ≤ k → k < 37 → ab_sl (ab_z D (31 + 37 * s) 36) s k = 0 := fun k h1 h2 => by unfold ab_sl ab_z; rw [if_pos (by omega)]
      have hsl0 : ab_z D (31 + 37 * s) 36 (30 + 37 * s) = ab_sl D s 0 := by unfold ab_z; rw [if_neg (by omega)]; rfl
      have hP : ab_sl (ab_z D (31 + 37 * s) 36) s 0 = ab_sl D s 0 := hsl0
      have nm : ∀ c, c ≠ 2 + (10 + 3 * s) → f_X6_end σ (2 + (10 + 3 * s)) c = σ c := fun c hc => by
        unfold f_X6_end
        rw [ab_up_ne hc, ab_up_ne hc, ab_up_ne hc]
      refine ⟨.inr ⟨rfl, h2⟩, ab_sl D s 4, ab_z D (31 + 37 * s) 36, _, σ', υ2, w5, by omega, rfl, rfl, ab_fR.rf, ?_, u2, ?_, ?_, fun c hc => nm c (by omega), u3⟩
      · show Option.bind (f_X10_sv σ' (ab_I s) 4) _ = _
        rw [(e1 σ' hM).2, Option.bind_some]
        exact u1
      · refine hC.sl (s := s) hW (by omega) (.inl (hz 0 (by decide))) ?_ ?_ ?_ hD ?_ (fun s2 h => by rw [nm 3 (by omega)]) (fun c h1 h2 h3 => nm c (by omega)) ⟨?_, ?_, ?_, fun q => ?_, fun k hk => ?_⟩ ?_ ?_
        · rw [nm 2 (by omega), hz 0 (by decide)]; exact hC.1
        · rw [nm 2 (by omega), hz 2 (by decide)]; exact hC.2.2.1
        · rw [nm 2 (by omega), hz 3 (by decide)]; exact hC.2.2.2.1
        · rw [nm 3 (by omega), hsl0]; exact (hC.2.2.2.2.1 s hs).1
        · rw [hsl 1 (by decide) (by decide)]; unfold f_X6_end; rw [ab_up_nk (by decide), ab_up_nk (by decide), ab_up_at]; rfl
        · rw [hsl 1 (by decide) (by decide)]; unfold f_X6_end; rw [ab_up_nk (by decide), ab_up_at]; rfl
        · rw [hsl 4 (by decide) (by decide)]; unfold f_X6_end; rw [ab_up_at]; rfl
        · rw [hsl 1 (by decide) (by decide)] at q; omega
        · rw [hsl 4 (by decide) (by decide)] at hk; omega
        · unfold f_X6_end; rw [ab_up_nk (by decide), ab_up_nk (by decide), ab_up_at]; exact .inl rfl
        · unfold f_X6_end; rw [ab_up_nk (by decide), ab_up_at]; exact .inl rfl
      · have w2' := hW.2.2.2.2
        have z0 := hz 0 (by decide)
        have z2 := hz 2 (by decide)
        have z3 := hz 3 (by decide)
        refine hW.sl (s := s) (by omega) (.inl z0) (by omega) (by omega) (by omega) (by omega) hD ⟨by rw [hP]; exact w1, by rw [hP]; exact w2, ?_, ?_, ?_, ?_, fun _ => hsl 4 (by decide) (by decide), fun q => ?_⟩
        · rw [hsl 1 (by decide) (by decide)]; decide
        · rw [hsl 1 (by decide) (by decide)]; decide
        · rw [hsl 4 (by decide) (by decide)]; decide
        · rw [hsl 4 (by decide) (by decide)]; decide
        · rw [hsl 1 (by decide) (by decide)] at q; omega
end
