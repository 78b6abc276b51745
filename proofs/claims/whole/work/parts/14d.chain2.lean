/-! laying: both walks; what is written then -/
theorem ab_fR.trans {σ τ υ : q_S} (h : ab_fR σ τ) (g : ab_fR τ υ) : ab_fR σ υ := ⟨h.1.trans g.1, g.2.1.trans h.2.1, fun c hc => (g.2.2.1 c hc).trans (h.2.2.1 c hc), g.2.2.2.1.trans h.2.2.2.1, g.2.2.2.2.1.trans h.2.2.2.2.1, g.2.2.2.2.2.1.trans h.2.2.2.2.2.1, fun k a b => (g.2.2.2.2.2.2 k a b).trans (h.2.2.2.2.2.2 k a b)⟩
theorem ab_fk.R {σ τ : q_S} (h : ab_fk σ τ) : ab_fR σ τ := by
  refine ⟨⟨fun c a b => h.1 c b (fun e => a ?_), fun k a => h.2 k (fun e => a ?_) (fun e => a ?_)⟩, h.1 294 (by decide) (by decide), fun c hc => h.1 c (by omega) (by omega), h.2 4 (by decide) (by decide), h.1 300 (by decide) (by decide), h.1 301 (by decide) (by decide), fun k a b => h.2 k (by omega) (by omega)⟩
  · subst e; unfold ab_sc; omega
  · subst e; unfold ab_sf; omega
  · subst e; unfold ab_sf; omega
theorem ab_fR.up {σ : q_S} {k : Nat} {v : Int32} (hk : ab_sf k) (h4 : k ≠ 4 ∧ k < 23) : ab_fR σ (q_up σ 292 k v) := ⟨ab_eq.up (.inr ⟨rfl, hk⟩), by rw [ab_up_ne (by decide)], fun c hc => ab_up_ne (by omega), by rw [ab_up_nk (Ne.symm h4.1)], by rw [ab_up_ne (by decide)], by rw [ab_up_ne (by decide)], fun k2 a b => by rw [ab_up_nk (by omega)]⟩
theorem ab_fR.M {σ τ : q_S} {D : Nat → Int} (h : ab_fR σ τ) (hM : ab_MR σ 293 0 D) : ab_MR τ 293 0 D := fun k hk => by
  rw [h.1.1 293 (by unfold ab_sc; omega) (by decide)]
  exact hM k hk
theorem ab_up_up {σ : q_S} {c k : Nat} {v w : Int32} : q_up (q_up σ c k v) c k w = q_up σ c k w := by
  funext c2 k2
  by_cases h : c2 = c
  · subst h
    by_cases h2 : k2 = k
    · subst h2
      rw [ab_up_at, ab_up_at]
    · rw [ab_up_nk h2, ab_up_nk h2, ab_up_nk h2]
  · rw [ab_up_ne h, ab_up_ne h, ab_up_ne h]
theorem ab_badR {ρ : q_S} {g w m : Int32} : ab_fR ρ (f_X10_isBad (q_up ρ 292 17 g) w m).2 :=
  ((ab_fR.up (.inr (.inr (.inr (.inl (by decide))))) (by decide)).trans (ab_fR.up (.inr (.inl rfl)) (by decide))).trans (ab_fR.up (.inr (.inr (.inl rfl))) (by decide))
section
variable {σ σ' : q_S} {D : Nat → Int} {B : Int}
theorem ab_lay (hC : ab_CR σ 2 D) (hM : ab_MR σ' 293 0 D) (hW : ab_WD B D) (hB : B ≤ 1000000000) {s : Nat} (hs : (s : Int) < D 0) (h1 : ab_sl D s 1 = 1) {n : Nat} (hn : ab_sl D s 4 = n) (hn16 : n < 16) {e : Int} {z : Nat} (he0 : 0 ≤ e) (he3 : e ≤ 3) (hz1 : 1 ≤ z) (hz9 : z ≤ 9) :
    (∃ (w m : Int32) (υ : q_S), w ≠ 0 ∧ f_X8_isLayingBarred σ (2 + (10 + 3 * s)) (ab_I e) (ab_I z) = some (1, (f_X7_refuse σ w m).2) ∧ f_X10_isRefusedChain σ' (ab_I s) (ab_I e) (ab_I z) = some (1, υ) ∧ ab_fR σ' υ ∧ υ 292 6 = w ∧ υ 292 7 = m) ∨
    (f_X8_isLayingBarred σ (2 + (10 + 3 * s)) (ab_I e) (ab_I z) = some (0, σ) ∧ ∃ υ, f_X10_isRefusedChain σ' (ab_I s) (ab_I e) (ab_I z) = some (0, υ) ∧ ab_fR σ' υ ∧
      (∀ a : Int, 1 ≤ a → a ≤ z → 0 ≤ ab_px (ab_sl D s 2) (ab_ds (ab_sl D s)) (ab_ls (ab_sl D s)) n + ab_sx e * a ∧ ab_px (ab_sl D s 2) (ab_ds (ab_sl D s)) (ab_ls (ab_sl D s)) n + ab_sx e * a ≤ 12 ∧ 0 ≤ ab_py (ab_sl D s 3) (ab_ds (ab_sl D s)) (ab_ls (ab_sl D s)) n + ab_sy e * a ∧ ab_py (ab_sl D s 3) (ab_ds (ab_sl D s)) (ab_ls (ab_sl D s)) n + ab_sy e * a ≤ 8) ∧
      (∀ a : Int, 1 ≤ a → a ≤ z → (a = z ∧ 3 ≤ n ∧ ab_px (ab_sl D s 2) (ab_ds (ab_sl D s)) (ab_ls (ab_sl D s)) n + ab_sx e * a = ab_sl D s 2 ∧ ab_py (ab_sl D s 3) (ab_ds (ab_sl D s)) (ab_ls (ab_sl D s)) n + ab_sy e * a = ab_sl D s 3) ∨ ∀ (j : Nat) (b : Int), j < n → 0 ≤ b → b ≤ ab_ls (ab_sl D s) j → ab_cx (ab_sl D s 2) (ab_ds (ab_sl D s)) (ab_ls (ab_sl D s)) j b = ab_px (ab_sl D s 2) (ab_ds (ab_sl D s)) (ab_ls (ab_sl D s)) n + ab_sx e * a → ab_cy (ab_sl D s 3) (ab_ds (ab_sl D s)) (ab_ls (ab_sl D s)) j b = ab_py (ab_sl D s 3) (ab_ds (ab_sl D s)) (ab_ls (ab_sl D s)) n + ab_sy e * a → False)) := by
  have w5 := hW.2.1
  have s5 : s < 5 := by omega
  have hWP := hW.2.2.2.2.2.2.2.2.1 s hs
  have hcp := (hC.2.2.2.2.1 s hs).2
  have hp := hWP.pos (by omega) (k := n) (by omega)
  have hcl := hcp.2.2.2.1 (by omega)
  obtain ⟨υ0, m1, m2, m3⟩ := ab_marks hM s5 hWP (by omega) (m := -1) (by omega) (by omega)
  have m1 : f_X10_marks σ' (ab_I s) (-1) = some υ0 := m1
  have hM0 := m3.M hM
  have gt := ab_goesTo hM0 s5 hWP (m := n) (by omega)
  rw [hn, Int.toNat_natCast] at hcl
  generalize hpx : ab_px (ab_sl D s 2) (ab_ds (ab_sl D s)) (ab_ls (ab_sl D s)) n = px at *
  generalize hpy : ab_py (ab_sl D s 3) (ab_ds (ab_sl D s)) (ab_ls (ab_sl D s)) n = py at *
  generalize hρ : ab_g υ0 (ab_I px) (ab_I py) = ρ at *
  have hMρ : ∀ v : Int32, ab_MR (q_up ρ 292 17 v) 293 0 D := fun v k hk => by
    rw [ab_up_ne (by decide), ← hρ]
    exact hM0 k hk
  have hFρ : ∀ v : Int32, ab_fl (q_up ρ 292 17 v) (fun x y => (x = ab_sl D s 2 ∧ y = ab_sl D s 3) ∨ ab_Mk (ab_sl D s) (-1) x y) := fun v => m2.same (by rw [ab_up_ne (by decide), ← hρ]; rfl)
  have hRρ : ab_fR σ' ρ := by
    rw [← hρ]
    exact (m3.trans ab_fk.g).R
  have ex : ∀ g : Nat, px + ab_sx e * (g : Int) + ab_sx e = px + ab_sx e * ((g + 1 : Nat) : Int) := fun g => by
    rw [Int.natCast_add, Int.natCast_one, Int.mul_add, Int.mul_one]
    omega
  have ey : ∀ g : Nat, py + ab_sy e * (g : Int) + ab_sy e = py + ab_sy e * ((g + 1 : Nat) : Int) := fun g => by
    rw [Int.natCast_add, Int.natCast_one, Int.mul_add, Int.mul_one]
    omega
  have bx : ∀ g : Nat, g ≤ 9 → -9 ≤ ab_sx e * (g : Int) ∧ ab_sx e * (g : Int) ≤ 9 ∧ -9 ≤ ab_sy e * (g : Int) ∧ ab_sy e * (g : Int) ≤ 9 := fun g hg => by
    rcases ab_dir he0 he3 with h | h | h | h <;> rw [h] <;> simp [ab_sx, ab_sy] <;> omega
  -- where the plot began counts for both alike
  have tkM : ∀ g : Nat, g < z → (ab_tk (ab_sl D s) z (px + ab_sx e * ((g + 1 : Nat) : Int)) (py + ab_sy e * ((g + 1 : Nat) : Int)) g = true ↔ ((px + ab_sx e * ((g + 1 : Nat) : Int) = ab_sl D s 2 ∧ py + ab_sy e * ((g + 1 : Nat) : Int) = ab_sl D s 3) ∨ ab_Mk (ab_sl D s) (-1) (px + ab_sx e * ((g + 1 : Nat) : Int)) (py + ab_sy e * ((g + 1 : Nat) : Int))) ∧ (if (g : Int) + 1 = z ∧ 3 ≤ ab_sl D s 4 ∧ px + ab_sx e * ((g + 1 : Nat) : Int) = ab_sl D s 2 ∧ py + ab_sy e * ((g + 1 : Nat) : Int) = ab_sl D s 3 then (1 : Int32) else 0) = 0) := by
    intro g hg
    unfold ab_tk
    by_cases cl : (g : Int) + 1 = z ∧ 3 ≤ ab_sl D s 4 ∧ px + ab_sx e * ((g + 1 : Nat) : Int) = ab_sl D s 2 ∧ py + ab_sy e * ((g + 1 : Nat) : Int) = ab_sl D s 3
    · rw [if_pos cl, if_pos cl]
      exact ⟨fun h => absurd h (by decide), fun h => absurd h.2 (by decide)⟩
    · rw [if_neg cl, if_neg cl, ab_go_iff hWP]
      refine ⟨fun h => ⟨.inr h, rfl⟩, fun h => ?_⟩
      rcases h.1 with ⟨q1, q2⟩ | q
      · by_cases hz : n = 0
        · subst hz
          have hpx : ab_sl D s 2 = px := hpx
          have hpy : ab_sl D s 3 = py := hpy
          have := ab_str (a := ((g + 1 : Nat) : Int)) (b := 0) he0 he3 (x0 := px) (y0 := py) (by rw [Int.mul_zero, Int.add_zero, q1, hpx]) (by rw [Int.mul_zero, Int.add_zero, q2, hpy])
          omega
        · have := hWP.ch (k := 0) (by omega)
          exact ⟨0, 0, by omega, by omega, by omega, by omega, by rw [ab_cx_0, q1]; rfl, by rw [ab_cy_0, q2]; rfl⟩
      · exact q
  have hwalk := ab_walk (D := D) (σ := σ) (ρ := ρ) (N := z) (x := fun g => px + ab_sx e * ((g + 1 : Nat) : Int)) (y := fun g => py + ab_sy e * ((g + 1 : Nat) : Int)) (tk := fun g => ab_tk (ab_sl D s) z (px + ab_sx e * ((g + 1 : Nat) : Int)) (py + ab_sy e * ((g + 1 : Nat) : Int)) g)
    (fc := fun f g => f_X8_isLayingBarred_15 (2 + (10 + 3 * s)) f (ab_I e) (ab_I z) (ab_I (px + ab_sx e * (g : Int))) (ab_I (py + ab_sy e * (g : Int))) (ab_I g) σ)
    (fr := fun f g => f_X10_isRefusedChain_82 f (ab_I s) (ab_I e) (ab_I z) (ab_I ((g + 1 : Nat) : Int)) (q_up ρ 292 17 (ab_I g)))
    (fun f => by
      show f_X8_isLayingBarred_15 _ (f + 1) _ _ _ _ _ σ = _
      rw [f_X8_isLayingBarred_15, if_pos (by rw [ab_Ile (by omega) (by omega) (by omega) (by omega)]; omega)])
    (fun f g hg => by
      have b := bx g (by omega)
      have b2 := bx (g + 1) (by omega)
      show f_X8_isLayingBarred_15 _ (f + 1) _ _ _ _ _ σ = _
      rw [ab_layC_step hcp hWP (by omega) he0 he3 (by omega) (by omega) (by omega) (by omega) (by omega) (by omega), ex, ey, ab_barC hC hW hB (by omega) (by omega) (by omega) (by omega), Option.bind_some]
      split
      · rw [if_pos (show ((0 : Int32), σ).1 = 0 from rfl)]
      · rfl)
    (fun f => by
      show f_X10_isRefusedChain_82 (f + 1) _ _ _ _ _ = _
      rw [f_X10_isRefusedChain_82, if_pos (by rw [ab_Ilt (by omega) (by omega) (by omega) (by omega)]; omega)])
    (fun f g hg => by
      have b := bx g (by omega)
      have b2 := bx (g + 1) (by omega)
      show f_X10_isRefusedChain_82 (f + 1) _ _ _ _ _ = _
      rw [ab_layR_step (hMρ _) s5 hWP (by omega) he0 he3 hp.1 hp.2.1 hp.2.2.1 hp.2.2.2 (by rw [ab_up_nk (by decide), ← hρ]; rfl) (by rw [ab_up_nk (by decide), ← hρ]; rfl) (by omega) (by omega), ab_barR (hFρ _) (hMρ _) hW hB (by omega) (by omega) (by omega) (by omega) (ab_tk (ab_sl D s) z (px + ab_sx e * ((g + 1 : Nat) : Int)) (py + ab_sy e * ((g + 1 : Nat) : Int)) g) (g := g) ab_up_at (fun _ => tkM g hg), Option.bind_some]
      split
      · rw [if_pos (show ((0 : Int32), q_up ρ 292 17 (ab_I (g : Int))).1 = 0 from rfl)]
        dsimp only
        rw [ab_up_at, ab_up_up, ab_I1]
      · rfl) z 0 (by omega) q_fu q_fu (by unfold q_fu; omega) (by unfold q_fu; omega)
  have fc0 : f_X8_isLayingBarred σ (2 + (10 + 3 * s)) (ab_I e) (ab_I z) = f_X8_isLayingBarred_15 (2 + (10 + 3 * s)) q_fu (ab_I e) (ab_I z) (ab_I (px + ab_sx e * ((0 : Nat) : Int))) (ab_I (py + ab_sy e * ((0 : Nat) : Int))) (ab_I ((0 : Nat) : Int)) σ := by
    unfold f_X8_isLayingBarred
    rw [hcl.2.2.1, hcl.2.2.2, show ((0 : Nat) : Int) = 0 from rfl, Int.mul_zero, Int.mul_zero, Int.add_zero, Int.add_zero]
    rfl
  have fr0 : f_X10_isRefusedChain σ' (ab_I s) (ab_I e) (ab_I z) = f_X10_isRefusedChain_82 q_fu (ab_I s) (ab_I e) (ab_I z) (ab_I ((0 + 1 : Nat) : Int)) (q_up ρ 292 17 (ab_I ((0 : Nat) : Int))) := by
    obtain ⟨_, v1, _, _, v4⟩ := ab_svn hM s5
    obtain ⟨_, _, _, _, u4⟩ := ab_svn hM0 s5
    unfold f_X10_isRefusedChain
    rw [v1, Option.bind_some, h1, if_neg (show ¬ ab_I 1 = 0 by decide), Option.bind_some, if_neg (show ¬ ab_I 1 = 2 by decide), v4, Option.bind_some, hn, if_neg (show ¬ ab_I (n : Int) = 16 by rw [show (16 : Int32) = ab_I 16 from rfl, ab_Ieq (by omega) (by omega) (by omega) (by omega)]; omega), m1, Option.bind_some, u4, hn, Option.bind_some, gt, Option.bind_some]
    rfl
  rcases hwalk with ⟨w, m, g, hw, k1, k2⟩ | ⟨k1, k2, k3⟩
  · refine .inl ⟨ab_I w, ab_I m, _, ?_, fc0.trans k1, fr0.trans k2, hRρ.trans ab_badR, rfl, rfl⟩
    rcases hw with rfl | rfl | rfl <;> decide
  · refine .inr ⟨fc0.trans k1, _, fr0.trans k2, hRρ.trans (ab_fR.up (.inr (.inr (.inr (.inl (by decide))))) (by decide)), fun a ha haz => ?_, fun a ha haz => ?_⟩
    · obtain ⟨g, hg⟩ : ∃ g : Nat, a = ((g + 1 : Nat) : Int) := ⟨(a - 1).toNat, by omega⟩
      have q := ab_br0 (k3 g (by omega) (by omega))
      rw [hg]
      exact ⟨q.1.1, q.1.2, q.2.1.1, q.2.1.2⟩
    · obtain ⟨g, hg⟩ : ∃ g : Nat, a = ((g + 1 : Nat) : Int) := ⟨(a - 1).toNat, by omega⟩
      have q := (ab_br0 (k3 g (by omega) (by omega))).2.2
      have q : ab_tk (ab_sl D s) z (px + ab_sx e * ((g + 1 : Nat) : Int)) (py + ab_sy e * ((g + 1 : Nat) : Int)) g = false := q
      rw [hg]
      unfold ab_tk at q
      by_cases cl : (g : Int) + 1 = z ∧ 3 ≤ ab_sl D s 4 ∧ px + ab_sx e * ((g + 1 : Nat) : Int) = ab_sl D s 2 ∧ py + ab_sy e * ((g + 1 : Nat) : Int) = ab_sl D s 3
      · exact .inl ⟨by omega, by omega, cl.2.2.1, cl.2.2.2⟩
      · rw [if_neg cl] at q
        refine .inr (fun j b hj hb0 hb1 hx hy => ?_)
        have := (ab_go_iff hWP _ _ (-1)).mpr ⟨j, b, by omega, by omega, hb0, hb1, hx, hy⟩
        rw [q] at this
        exact absurd this (by decide)
/-- a chain put behind the others -/
theorem ab_add {c n : Nat} {X Y px py e z : Int} (hn : n < 16) (h2 : σ c 2 = ab_I X) (h3 : σ c 3 = ab_I Y) (h4 : σ c 4 = ab_I px) (h5 : σ c 5 = ab_I py) (h6 : σ c 6 = ab_I n) (he0 : 0 ≤ e) (he3 : e ≤ 3) (hX0 : -1000 ≤ X) (hX1 : X ≤ 1000) (hY0 : -1000 ≤ Y) (hY1 : Y ≤ 1000) (hx0 : -1000 ≤ px + ab_sx e * z) (hx1 : px + ab_sx e * z ≤ 1000) (hy0 : -1000 ≤ py + ab_sy e * z) (hy1 : py + ab_sy e * z ≤ 1000) :
    f_X6_add σ c (ab_I e) (ab_I z) = q_up (q_up (q_up (q_up (q_up (q_up σ (c + 1) n (ab_I e)) (c + 2) n (ab_I z)) c 6 (ab_I ((n + 1 : Nat) : Int))) c 4 (ab_I (px + ab_sx e * z))) c 5 (ab_I (py + ab_sy e * z))) c 1 (if px + ab_sx e * z = X ∧ py + ab_sy e * z = Y then 1 else 0) := by
  have hs : f_X6_setChain σ c (ab_I n) (ab_I e) (ab_I z) = q_up (q_up σ (c + 1) n (ab_I e)) (c + 2) n (ab_I z) := by
    unfold f_X6_setChain
    rw [ab_put hn (by decide), ab_put hn (by decide)]
  unfold f_X6_add
  rw [h6, hs, ab_stepX he0 he3, ab_stepY he0 he3, ab_Imul, ab_Imul]
  have g2 : (q_up (q_up σ (c + 1) n (ab_I e)) (c + 2) n (ab_I z)) c 2 = ab_I X := by rw [ab_up_ne (by omega), ab_up_ne (by omega)]; exact h2
  have g3 : (q_up (q_up σ (c + 1) n (ab_I e)) (c + 2) n (ab_I z)) c 3 = ab_I Y := by rw [ab_up_ne (by omega), ab_up_ne (by omega)]; exact h3
  have g4 : (q_up (q_up σ (c + 1) n (ab_I e)) (c + 2) n (ab_I z)) c 4 = ab_I px := by rw [ab_up_ne (by omega), ab_up_ne (by omega)]; exact h4
  have g5 : (q_up (q_up σ (c + 1) n (ab_I e)) (c + 2) n (ab_I z)) c 5 = ab_I py := by rw [ab_up_ne (by omega), ab_up_ne (by omega)]; exact h5
  have g6 : (q_up (q_up σ (c + 1) n (ab_I e)) (c + 2) n (ab_I z)) c 6 = ab_I n := by rw [ab_up_ne (by omega), ab_up_ne (by omega)]; exact h6
  generalize q_up (q_up σ (c + 1) n (ab_I e)) (c + 2) n (ab_I z) = S at *
  simp (disch := decide) only [ab_up_at, ab_up_nk, g2, g3, g4, g5, g6, ab_I1, ab_Iadd]
  generalize px + ab_sx e * z = x' at *
  generalize py + ab_sy e * z = y' at *
  simp only [ab_Ieq (a := x') (b := X) (by omega) (by omega) (by omega) (by omega), ab_Ieq (a := y') (b := Y) (by omega) (by omega) (by omega) (by omega)]
  by_cases q1 : x' = X
  · by_cases q2 : y' = Y
    · rw [if_pos q1, if_pos q2, if_pos ⟨q1, q2⟩]
    · rw [if_pos q1, if_neg q2, if_neg (fun h => q2 h.2)]
  · rw [if_neg q1, if_neg (fun h => q1 h.1)]
theorem ab_goesTo2_lp (hR : ab_MR σ 293 0 D) {s m : Nat} (hs : s < 5) (h16 : m ≤ 16) (hd : ∀ k, k < m → 0 ≤ ab_ds (ab_sl D s) k ∧ ab_ds (ab_sl D s) k ≤ 3) : ∀ r k, k + r = m → ∀ f, r < f → f_X10_goesTo_22 f (ab_I s) (ab_I m) (ab_I k) (ab_g σ (ab_I (ab_px (ab_sl D s 2) (ab_ds (ab_sl D s)) (ab_ls (ab_sl D s)) k)) (ab_I (ab_py (ab_sl D s 3) (ab_ds (ab_sl D s)) (ab_ls (ab_sl D s)) k))) = some (ab_g σ (ab_I (ab_px (ab_sl D s 2) (ab_ds (ab_sl D s)) (ab_ls (ab_sl D s)) m)) (ab_I (ab_py (ab_sl D s 3) (ab_ds (ab_sl D s)) (ab_ls (ab_sl D s)) m))) := by
  intro r
  induction r with
  | zero =>
    intro k hk f hf
    obtain ⟨f, rfl⟩ : ∃ g, f = g + 1 := ⟨f - 1, by omega⟩
    rw [f_X10_goesTo_22, if_pos (by rw [ab_Ile (by omega) (by omega) (by omega) (by omega)]; omega), show k = m by omega]
  | succ r ih =>
    intro k hk f hf
    obtain ⟨f, rfl⟩ : ∃ g, f = g + 1 := ⟨f - 1, by omega⟩
    have w := hd k (by omega)
    rw [f_X10_goesTo_22, if_neg (by rw [ab_Ile (by omega) (by omega) (by omega) (by omega)]; omega), ab_len (ab_g_MR hR) hs (by omega), Option.bind_some, ab_way (ab_g_MR hR) hs (by omega), Option.bind_some]
    rw [ab_g_14, ab_rstepX w.1 w.2, ab_Imul, ab_Iadd, ab_g_x, ab_len (ab_g_MR hR) hs (by omega), Option.bind_some, ab_way (ab_g_MR hR) hs (by omega), Option.bind_some, ab_g_15, ab_rstepY w.1 w.2, ab_Imul, ab_Iadd, ab_g_y, ab_I1, Int.mul_comm _ (ab_sx _), Int.mul_comm _ (ab_sy _)]
    exact ih (k + 1) (by omega) f (by omega)
theorem ab_goesTo2 (hR : ab_MR σ 293 0 D) {s m : Nat} (hs : s < 5) (h16 : m ≤ 16) (hd : ∀ k, k < m → 0 ≤ ab_ds (ab_sl D s) k ∧ ab_ds (ab_sl D s) k ≤ 3) : f_X10_goesTo σ (ab_I s) (ab_I m) = some (ab_g σ (ab_I (ab_px (ab_sl D s 2) (ab_ds (ab_sl D s)) (ab_ls (ab_sl D s)) m)) (ab_I (ab_py (ab_sl D s 3) (ab_ds (ab_sl D s)) (ab_ls (ab_sl D s)) m))) := by
  unfold f_X10_goesTo
  rw [(ab_svn hR hs).2.2.1, Option.bind_some]
  have hR2 : ab_MR (q_up σ 292 14 (ab_I (ab_sl D s 2))) 293 0 D := hR
  rw [(ab_svn hR2 hs).2.2.2.1, Option.bind_some, ab_g_0]
  exact ab_goesTo2_lp hR hs h16 hd m 0 (by omega) q_fu (by unfold q_fu; omega)
end
