/-! bending, said alike -/
section
variable {σ σ' : q_S} {D : Nat → Int} {B : Int}
theorem ab_isBendR (c : Int32) : (f_X10_isBend c = 0 ∧ (c = 0 ∨ (c ≠ 0 ∧ f_X9_isFrom c (-9) 9 = 0))) ∨ (¬ f_X10_isBend c = 0 ∧ c ≠ 0 ∧ f_X9_isFrom c (-9) 9 = 1 ∧ ∃ v : Int, -9 ≤ v ∧ v ≤ 9 ∧ v ≠ 0 ∧ c = ab_I v) := by
  unfold f_X10_isBend
  rw [ab_in_from]
  by_cases h : c = 0
  · left
    refine ⟨?_, .inl h⟩
    split
    · rfl
    · rfl
  · rcases ab_from (a := c) (-9) 9 (by decide) (by decide) (by decide) (by decide) with g | ⟨g, v, v0, v1, rfl⟩
    · have g : f_X9_isFrom c (-9) 9 = 0 := g
      left
      rw [if_pos g]
      exact ⟨rfl, .inr ⟨h, g⟩⟩
    · have g : f_X9_isFrom (ab_I v) (-9) 9 = 1 := g
      right
      rw [g, if_neg (by decide), if_neg h]
      exact ⟨by decide, h, rfl, v, v0, v1, fun e => h (by rw [e]; rfl), rfl⟩
theorem ab_ar_b {P : Nat → Int} (hW : ab_WP P) : 0 ≤ ab_ar P ∧ ab_ar P ≤ 2000 := by
  have w4 := hW.2.2.2.2.1
  have b := ab_ar_sum hW (k := (P 4).toNat) (by omega)
  unfold ab_ar
  (repeat' split) <;> omega
theorem ab_sim_bend (hC : ab_CR σ 2 D) (hM : ab_MR σ' 293 0 D) (hW : ab_WD B D) (hB : B ≤ 1000000000) (a b c : Int32) : ab_sim B σ σ' (f_X8_bendChain σ a b c) (fun e => (e = 1 ∧ f_X10_hasChain σ' a b = some 0) ∨ (e = 2 ∧ f_X10_hasChain σ' a b = some 1 ∧ f_X10_isBend c = 0) ∨ (e = 0 ∧ f_X10_hasChain σ' a b = some 1 ∧ ¬ f_X10_isBend c = 0)) (f_X10_isRefusedBend σ' a b c) (fun υ => f_X10_bends υ a b c) := by
  unfold ab_sim f_X8_bendChain
  rcases ab_hasC hC hM hW a b with ⟨h1, h2⟩ | ⟨h0, h1, h2, s, k, hs, s5, hk, rfl, rfl⟩
  · left
    refine ⟨.inl ⟨rfl, h2⟩, ?_⟩
    rcases h1 with h1 | ⟨h1, h3⟩
    · rw [h1, if_pos rfl]
    · rw [h1, if_neg (by decide), h3, if_pos rfl]
  right
  rw [h0, if_neg (by decide), h1, if_neg (by decide)]
  rcases ab_isBendR c with ⟨b1, b2⟩ | ⟨b1, b2, b3, v, v0, v9, vn, rfl⟩
  · left
    refine ⟨.inr (.inl ⟨rfl, h2, b1⟩), ?_⟩
    rcases b2 with b2 | ⟨b2, b3⟩
    · rw [if_pos b2]
    · rw [if_neg b2, b3, if_pos rfl]
  right
  have hgood : (0 = 1 ∧ f_X10_hasChain σ' (ab_I s) (ab_I k) = some 0) ∨ (0 = 2 ∧ f_X10_hasChain σ' (ab_I s) (ab_I k) = some 1 ∧ f_X10_isBend (ab_I v) = 0) ∨ (0 = 0 ∧ f_X10_hasChain σ' (ab_I s) (ab_I k) = some 1 ∧ ¬ f_X10_isBend (ab_I v) = 0) := .inr (.inr ⟨rfl, h2, b1⟩)
  rw [if_neg b2, b3, if_neg (by decide), ab_plotOf s5]
  have w := hW.2.2.2.2.2.2.2.2.1 s hs
  have hcp := (hC.2.2.2.2.1 s hs).2
  have e1' := ab_svn (σ := σ') hM (s := s) s5
  have h05 := hW.2.1
  have hch := w.ch hk
  obtain ⟨n, hn⟩ : ∃ n : Nat, ab_sl D s 4 = n := ⟨(ab_sl D s 4).toNat, by omega⟩
  have hn16 : n ≤ 16 := by have := w.2.2.2.2.2.1; omega
  rw [hcp.2.1, hcp.2.2.1]
  by_cases q2 : ab_sl D s 1 = 2
  case neg =>
    left
    obtain ⟨υ, u1, u2, u3, u4⟩ := ab_isBad (σ := σ') (w := 6) (n := ab_I (ab_sl D s 4))
    refine ⟨hgood, 6, ab_I (ab_sl D s 4), υ, by decide, ?_, ?_, u2, u3, u4⟩
    · rw [if_neg q2, if_pos (show ab_I 0 = 0 from rfl)]
    · unfold f_X10_isRefusedBend
      rw [e1'.2.1, Option.bind_some, if_neg (by rw [show (2 : Int32) = ab_I 2 from rfl, ab_Ieq (by have := w.2.2.1; omega) (by have := w.2.2.2.1; omega) (by omega) (by omega)]; exact q2), e1'.2.2.2.2, Option.bind_some, u1]
      rfl
  by_cases q16 : n ≤ 14
  case neg =>
    left
    obtain ⟨υ, u1, u2, u3, u4⟩ := ab_isBad (σ := σ') (w := 1) (n := 16)
    refine ⟨hgood, 1, 16, υ, by decide, ?_, ?_, u2, u3, u4⟩
    · rw [if_pos q2, if_neg (show ¬ ab_I 1 = 0 by decide), hn, show ab_I (n : Int) + 2 = _ from ab_ip (c := 2), if_neg (by rw [show (16 : Int32) = ab_I 16 from rfl, ab_Ile (by omega) (by omega) (by omega) (by omega)]; omega)]
    · unfold f_X10_isRefusedBend
      rw [e1'.2.1, Option.bind_some, q2, if_pos (show ab_I 2 = 2 from rfl), e1'.2.2.2.2, Option.bind_some, hn, show ab_I (n : Int) + 2 = _ from ab_ip (c := 2), if_neg (by rw [show (16 : Int32) = ab_I 16 from rfl, ab_Ile (by omega) (by omega) (by omega) (by omega)]; omega), u1]
      rfl
  have hvf : 1 ≤ ab_av v ∧ ab_av v ≤ 9 := by unfold ab_av; split <;> omega
  have hside : (if ab_I v ≤ 0 then (f_X8_bendChain_121 (2 + (10 + 3 * s)) (ab_I k) (ab_I v) (f_X9_oppositeOf (f_X9_leftOf (f_X6_directionOf σ (2 + (10 + 3 * s)) (ab_I k)))) σ) else (f_X8_bendChain_121 (2 + (10 + 3 * s)) (ab_I k) (ab_I v) (f_X9_leftOf (f_X6_directionOf σ (2 + (10 + 3 * s)) (ab_I k))) σ)) = f_X8_bendChain_121 (2 + (10 + 3 * s)) (ab_I k) (ab_I v) (ab_I (ab_sd (ab_ds (ab_sl D s) k) v)) σ := by
    rw [(ab_dir_at hcp w hk).1]
    by_cases hv : v ≤ 0
    · rw [if_pos (by rw [show (0 : Int32) = ab_I 0 from rfl, ab_Ile (by omega) (by omega) (by omega) (by omega)]; exact hv), ab_sdR hch.2.1 hch.2.2.1 hv]
    · rw [if_neg (by rw [show (0 : Int32) = ab_I 0 from rfl, ab_Ile (by omega) (by omega) (by omega) (by omega)]; exact hv), ab_sdL hch.2.1 hch.2.2.1 hv]
  rw [if_pos q2, if_neg (show ¬ ab_I 1 = 0 by decide), hn, show ab_I (n : Int) + 2 = _ from ab_ip (c := 2), if_pos (by rw [show (16 : Int32) = ab_I 16 from rfl, ab_Ile (by omega) (by omega) (by omega) (by omega)]; omega), hside]
  unfold f_X8_bendChain_121
  rw [ab_Iab (by omega) (by omega)]
  have hsb := ab_sd_b (v := v) hch.2.1 hch.2.2.1
  rcases ab_bending hC hM hW hB hs q2 hk (by omega) v0 v9 rfl hvf.1 hvf.2 with ⟨w0, m0, υ, hw0, k1, k2, k3, k4, k5⟩ | ⟨k1, υ, k2, k3, hfree⟩
  · left
    refine ⟨hgood, w0, m0, υ, hw0, ?_, k2, k3, k4, k5⟩
    rw [k1, Option.bind_some, if_neg (show ¬ (1 : Int32) = 0 by decide)]
    rfl
  right
  generalize hf : ab_av v = f at *
  generalize he : ab_sd (ab_ds (ab_sl D s) k) v = e at *
  have hMυ := k3.M hM
  have hcl := hcp.2.2.2.1 (by omega)
  rw [hn, Int.toNat_natCast] at hcl
  obtain ⟨τ1, r1, p1, p2, p3, p4, p5, p6, p7, p8⟩ := ab_repl (σ := σ) (c := 2 + (10 + 3 * s)) (k := k) (e := e) (F := ab_I f) q16 (by omega) (by rw [hcp.2.2.1, hn]) hsb.1 hsb.2.1
  rw [(hcp.2.2.2.2 k hk).1, (hcp.2.2.2.2 k hk).2] at p3
  obtain ⟨D2, ω, o1, o2, ⟨d1, d2, d3, d4, d5, d6, d7, d8⟩, o4⟩ := ab_bends_lp (D := D) (s := s) (n := n) (k := k) (v := v) (f := f) (e := e) (a := ab_ds (ab_sl D s) k) (z := ab_ls (ab_sl D s) k) s5 q16 (by omega) v0 v9 hf hsb.1 hsb.2.1 (n - 1 - k) (n - 1) (by omega) (by omega) q_fu (by unfold q_fu; omega) υ D hMυ (fun _ _ => ⟨rfl, rfl⟩) (fun j h1 h2 => absurd h1 (by omega)) (fun _ _ => rfl)
  have hWW : ab_W (ab_sl D s 2) (ab_sl D s 3) n (ab_ds (ab_sl D s)) (ab_ls (ab_sl D s)) True := by
    have h := w.2.2.2.2.2.2.2 (by omega)
    rw [hn, Int.toNat_natCast, eq_true q2] at h
    exact h
  have hend := hWW.2.2.2.2 trivial
  unfold ab_wfree at hfree
  rw [hn, Int.toNat_natCast] at hfree
  have hWn := hWW.bend (k := k) (by omega) hsb.1 hsb.2.1 hsb.2.2 hvf.1 hvf.2 (fun j hj => (d1 j hj).1) (fun j hj => (d1 j hj).2) d2.1 d2.2 d3.1 d3.2 d4.1 d4.2 (fun j h1 h2 => (d5 j h1 h2).1) (fun j h1 h2 => (d5 j h1 h2).2) hfree
  have s0 : D2 (30 + 37 * s) = D (30 + 37 * s) := d8 _ (by omega) (by omega) (by omega)
  have s1 : ab_sl D2 s 1 = 2 := (d8 _ (by omega) (by omega) (by omega)).trans q2
  have s2 : ab_sl D2 s 2 = ab_sl D s 2 := d8 _ (by omega) (by omega) (by omega)
  have s3 : ab_sl D2 s 3 = ab_sl D s 3 := d8 _ (by omega) (by omega) (by omega)
  have z0 := d8 0 (by omega) (by omega) (by omega)
  have z1 := d8 1 (by omega) (by omega) (by omega)
  have z2 := d8 2 (by omega) (by omega) (by omega)
  have zoo : ∀ i, i ≠ 0 → i ≠ 2 → i ≠ 3 → (i < 30 + 37 * s ∨ 67 + 37 * s ≤ i) → D2 i = D i := fun i _ _ h h2 => d8 i h (by omega) (by omega)
  have w2' := hW.2.2.2.2
  have hWP2 : ab_WP (ab_sl D2 s) := by
    refine ⟨?_, ?_, by omega, by omega, by omega, by omega, fun q => by omega, fun q => ?_⟩
    · show 0 ≤ D2 (30 + 37 * s)
      rw [s0]; exact w.1
    · show D2 (30 + 37 * s) ≤ 9
      rw [s0]; exact w.2.1
    · rw [d6, s2, s3, show ((n : Int) + 2).toNat = n + 2 by omega, eq_true s1]
      exact hWn
  have hWD : ab_WD (B + 20) D2 := hW.sl (s := s) (by omega) (.inl z0) (by omega) (by omega) (by omega) (by omega) zoo hWP2
  have nm : ∀ c, c ≠ 2 → (c < 2 + (10 + 3 * s) ∨ 2 + (10 + 3 * s) + 3 ≤ c) → q_up τ1 2 6 (τ1 2 6 + 1) c = σ c := fun c h1 h2 => by rw [ab_up_ne h1, p8 c h2]
  have t2 : τ1 2 = σ 2 := p8 2 (by omega)
  have hcpn : ab_CP (q_up τ1 2 6 (τ1 2 6 + 1)) (2 + (10 + 3 * s)) (ab_sl D2 s) := by
    refine ⟨?_, ?_, ?_, fun q => ⟨?_, ?_, ?_, ?_⟩, fun j hj => ?_⟩
    · rw [ab_up_ne (by omega), p6 0 (by decide), hcp.1, s1, if_pos (by omega), if_pos (by decide)]
    · rw [ab_up_ne (by omega), p6 1 (by decide), hcp.2.1, s1, if_pos q2, if_pos rfl]
    · rw [ab_up_ne (by omega), p7, hcp.2.2.1, hn, d6, show ab_I (n : Int) + 2 = _ from ab_Iadd (b := 2)]
    · rw [ab_up_ne (by omega), p6 2 (by decide), s2]; exact hcl.1
    · rw [ab_up_ne (by omega), p6 3 (by decide), s3]; exact hcl.2.1
    · rw [ab_up_ne (by omega), p6 4 (by decide), hcl.2.2.1, hend.2.1, d6, s2, show ((n : Int) + 2).toNat = n + 2 by omega, (hWn.2.2.2.2 trivial).2.1]
    · rw [ab_up_ne (by omega), p6 5 (by decide), hcl.2.2.2, hend.2.2, d6, s3, show ((n : Int) + 2).toNat = n + 2 by omega, (hWn.2.2.2.2 trivial).2.2]
    · rw [d6] at hj
      rw [ab_up_ne (by omega), ab_up_ne (by omega)]
      show τ1 (2 + (10 + 3 * s) + 1) j = ab_I (ab_ds (ab_sl D2 s) j) ∧ τ1 (2 + (10 + 3 * s) + 2) j = ab_I (ab_ls (ab_sl D2 s) j)
      by_cases j0 : j < k
      · rw [(p1 j j0).1, (p1 j j0).2, (d1 j j0).1, (d1 j j0).2]
        exact hcp.2.2.2.2 j (by omega)
      by_cases j1 : j = k
      · rw [j1, p2.1, p2.2, d2.1, d2.2]
        exact ⟨rfl, rfl⟩
      by_cases j2 : j = k + 1
      · rw [j2, p3.1, p3.2, d3.1, d3.2]
        exact ⟨rfl, rfl⟩
      by_cases j3 : j = k + 2
      · rw [j3, p4.1, p4.2, d4.1, d4.2]
        exact ⟨rfl, rfl⟩
      obtain ⟨i, hi⟩ : ∃ i, j = i + 2 := ⟨j - 2, by omega⟩
      rw [hi, (p5 i (by omega) (by omega)).1, (p5 i (by omega) (by omega)).2, (d5 i (by omega) (by omega)).1, (d5 i (by omega) (by omega)).2]
      exact hcp.2.2.2.2 i (by omega)
  have hCR : ab_CR (q_up τ1 2 6 (τ1 2 6 + 1)) 2 D2 := by
    refine hC.sl (s := s) hW (by omega) (.inl z0) ?_ ?_ ?_ zoo ?_ (fun s2 h => by rw [nm 3 (by omega) (by omega)]) (fun c h1 h2 h3 => nm c h1 (by omega)) hcpn ?_ ?_
    · rw [ab_up_nk (by decide), t2, z0]; exact hC.1
    · rw [ab_up_nk (by decide), t2, z2]; exact hC.2.2.1
    · rw [ab_up_at, t2, d7, show σ 2 6 = _ from hC.2.2.2.1]
      exact ab_Iadd (b := 1)
    · rw [nm 3 (by omega) (by omega), s0]; exact (hC.2.2.2.2.1 s hs).1
    · rw [hcpn.1, s1]; exact .inr rfl
    · rw [hcpn.2.1, s1]; exact .inr rfl
  have hb := ab_ar_b hWP2
  refine ⟨hgood, ab_ar (ab_sl D2 s), D2, q_up τ1 2 6 (τ1 2 6 + 1), υ, ω, hb.1, by omega, ?_, k2, k3, ?_, o2, hCR, hWD, fun c hc => nm c (by omega) (by omega), o4⟩
  · rw [k1, Option.bind_some]
    dsimp only
    rw [if_pos (show (0 : Int32) = 0 from rfl), r1, Option.bind_some, ab_areaByChains hcpn hWP2, Option.bind_some]
  · show f_X10_bends υ (ab_I s) (ab_I k) (ab_I v) = _
    have v4 := (ab_svn hMυ (s := s) s5).2.2.2.2
    have e1 : ab_I (n : Int) - 1 = ab_I ((n - 1 : Nat) : Int) := by
      rw [show ab_I (n : Int) - 1 = _ from ab_Isub (b := 1)]
      exact congrArg ab_I (by omega)
    unfold f_X10_bends
    rw [ab_way hMυ s5 (by omega), Option.bind_some, ab_len hMυ s5 (by omega), Option.bind_some, v4, Option.bind_some, hn, ab_sdS hch.2.1 hch.2.2.1 (by omega) (by omega), he, e1, o1, ab_areaOf o2 s5 hWP2, Option.bind_some, ab_ar_ca hWP2]
end
