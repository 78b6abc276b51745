/-! a chain that is laid -/
section
variable {X Y : Int} {n : Nat} {d l d2 l2 : Nat → Int}
theorem ab_str {e x0 y0 a b : Int} (h0 : 0 ≤ e) (h3 : e ≤ 3) (hx : x0 + ab_sx e * a = x0 + ab_sx e * b) (hy : y0 + ab_sy e * a = y0 + ab_sy e * b) : a = b := by
  rcases ab_dir h0 h3 with h | h | h | h <;> rw [h] at hx hy <;> simp [ab_sx, ab_sy] at hx hy <;> omega
/-- the chains with one more behind them -/
theorem ab_W.lay {e z : Int} (h : ab_W X Y n d l False) (he0 : 0 ≤ e) (he3 : e ≤ 3) (hz1 : 1 ≤ z) (hz9 : z ≤ 9) (hd : ∀ j, j < n → d2 j = d j) (hl : ∀ j, j < n → l2 j = l j) (hdn : d2 n = e) (hln : l2 n = z)
    (hon : ∀ a : Int, 1 ≤ a → a ≤ z → 0 ≤ ab_px X d l n + ab_sx e * a ∧ ab_px X d l n + ab_sx e * a ≤ 12 ∧ 0 ≤ ab_py Y d l n + ab_sy e * a ∧ ab_py Y d l n + ab_sy e * a ≤ 8)
    (hok : ∀ a : Int, 1 ≤ a → a ≤ z → (a = z ∧ 3 ≤ n ∧ ab_px X d l n + ab_sx e * a = X ∧ ab_py Y d l n + ab_sy e * a = Y) ∨ ∀ (j : Nat) (b : Int), j < n → 0 ≤ b → b ≤ l j → ab_cx X d l j b = ab_px X d l n + ab_sx e * a → ab_cy Y d l j b = ab_py Y d l n + ab_sy e * a → False)
    {hend : Prop} (hE : hend ↔ ab_px X d l n + ab_sx e * z = X ∧ ab_py Y d l n + ab_sy e * z = Y) : ab_W X Y (n + 1) d2 l2 hend := by
  have px : ∀ k, k ≤ n → ab_px X d2 l2 k = ab_px X d l k := fun k hk => ab_px_congr (fun j hj => hd j (by omega)) (fun j hj => hl j (by omega))
  have py : ∀ k, k ≤ n → ab_py Y d2 l2 k = ab_py Y d l k := fun k hk => ab_py_congr (fun j hj => hd j (by omega)) (fun j hj => hl j (by omega))
  have cx : ∀ k a, k < n → ab_cx X d2 l2 k a = ab_cx X d l k a := fun k a hk => by unfold ab_cx; rw [px k (by omega), hd k hk]
  have cy : ∀ k a, k < n → ab_cy Y d2 l2 k a = ab_cy Y d l k a := fun k a hk => by unfold ab_cy; rw [py k (by omega), hd k hk]
  have cxn : ∀ a, ab_cx X d2 l2 n a = ab_px X d l n + ab_sx e * a := fun a => by unfold ab_cx; rw [px n (Nat.le_refl _), hdn]
  have cyn : ∀ a, ab_cy Y d2 l2 n a = ab_py Y d l n + ab_sy e * a := fun a => by unfold ab_cy; rw [py n (Nat.le_refl _), hdn]
  obtain ⟨h1, h2, h3, h4, h5⟩ := h
  -- the beginning is passed only where the plot closes
  have beg : ∀ a : Int, 1 ≤ a → a ≤ z → ab_px X d l n + ab_sx e * a = X → ab_py Y d l n + ab_sy e * a = Y → a = z ∧ 3 ≤ n := by
    intro a ha haz hx hy
    rcases hok a ha haz with ⟨q1, q2, _⟩ | q
    · exact ⟨q1, q2⟩
    · exfalso
      by_cases hn : n = 0
      · subst hn
        have := ab_str (a := a) (b := 0) he0 he3 (x0 := X) (y0 := Y) (by rw [Int.mul_zero, Int.add_zero]; exact hx) (by rw [Int.mul_zero, Int.add_zero]; exact hy)
        omega
      · have := h1 0 (by omega)
        exact q 0 0 (by omega) (by omega) (by omega) (by rw [ab_cx_0, hx]; rfl) (by rw [ab_cy_0, hy]; rfl)
  -- a new corner is none of the old ones
  have cross : ∀ (i : Nat) (a b : Int), i < n → 1 ≤ a → a ≤ l i → 1 ≤ b → b ≤ z → ab_cx X d l i a = ab_px X d l n + ab_sx e * b → ab_cy Y d l i a = ab_py Y d l n + ab_sy e * b → False := by
    intro i a b hi ha hal hb hbz hx hy
    rcases hok b hb hbz with ⟨q1, q2, q3, q4⟩ | q
    · exact (h4 i a hi ha hal (hx.trans q3) (hy.trans q4)).1
    · exact q i a hi (by omega) hal hx hy
  refine ⟨fun j hj => ?_, fun j hj => ?_, fun i j a b hi hj ha hal hb hbl hx hy => ?_, fun i a hi ha hal hx hy => ?_, fun he => ?_⟩
  · by_cases q : j < n
    · rw [hd j q, hl j q]; exact h1 j q
    · rw [show j = n by omega, hdn, hln]; exact ⟨he0, he3, hz1, hz9⟩
  · by_cases q : j ≤ n
    · rw [px j q, py j q]; exact h2 j q
    · rw [show j = n + 1 by omega, ab_px, ab_py, px n (Nat.le_refl _), py n (Nat.le_refl _), hdn, hln]
      exact hon z hz1 (Int.le_refl _)
  · by_cases qi : i < n
    · rw [hl i qi] at hal
      rw [cx i a qi] at hx
      rw [cy i a qi] at hy
      by_cases qj : j < n
      · rw [hl j qj] at hbl
        rw [cx j b qj] at hx
        rw [cy j b qj] at hy
        exact h3 i j a b qi qj ha hal hb hbl hx hy
      · have ej : j = n := by omega
        rw [ej, hln] at hbl
        rw [ej, cxn] at hx
        rw [ej, cyn] at hy
        exact (cross i a b qi ha hal hb hbl hx hy).elim
    · have ei : i = n := by omega
      rw [ei, hln] at hal
      rw [ei, cxn] at hx
      rw [ei, cyn] at hy
      by_cases qj : j < n
      · rw [hl j qj] at hbl
        rw [cx j b qj] at hx
        rw [cy j b qj] at hy
        exact (cross j b a qj hb hbl ha hal hx.symm hy.symm).elim
      · have ej : j = n := by omega
        rw [ej, cxn] at hx
        rw [ej, cyn] at hy
        exact ⟨by omega, ab_str he0 he3 hx hy⟩
  · by_cases qi : i < n
    · rw [hl i qi] at hal
      rw [cx i a qi] at hx
      rw [cy i a qi] at hy
      exact (h4 i a qi ha hal hx hy).1.elim
    · have ei : i = n := by omega
      rw [ei, hln] at hal
      rw [ei, cxn] at hx
      rw [ei, cyn] at hy
      have q := beg a ha hal hx hy
      rw [ei, hln]
      exact ⟨hE.mpr ⟨by rw [← q.1]; exact hx, by rw [← q.1]; exact hy⟩, rfl, q.1⟩
  · have he := hE.mp he
    have q := beg z hz1 (Int.le_refl _) he.1 he.2
    rw [ab_px, ab_py, px n (Nat.le_refl _), py n (Nat.le_refl _), hdn, hln]
    exact ⟨by omega, he.1, he.2⟩
end
section
variable {σ τ : q_S} {c : Nat} {P D : Nat → Int} {B : Int}
def ab_tk (P : Nat → Int) (z x y : Int) (g : Nat) : Bool := if (g : Int) + 1 = z ∧ 3 ≤ P 4 ∧ x = P 2 ∧ y = P 3 then false else ab_go P x y (-1)
theorem ab_layC_step (h : ab_CP σ c P) (hW : ab_WP P) (h1 : 1 ≤ P 1) {e z x y : Int} (he0 : 0 ≤ e) (he3 : e ≤ 3) {g : Nat} (hg : (g : Int) < z) (hz : z ≤ 9) (hx0 : -500 ≤ x) (hx1 : x ≤ 500) (hy0 : -500 ≤ y) (hy1 : y ≤ 500) {f : Nat} : f_X8_isLayingBarred_15 c (f + 1) (ab_I e) (ab_I z) (ab_I x) (ab_I y) (ab_I g) σ = Option.bind (f_X8_isBarred σ (ab_I (x + ab_sx e)) (ab_I (y + ab_sy e)) (ab_I g) (ab_I (ab_b (ab_tk P z (x + ab_sx e) (y + ab_sy e) g)))) (fun q5 => if q5.1 = 0 then f_X8_isLayingBarred_15 c f (ab_I e) (ab_I z) (ab_I (x + ab_sx e)) (ab_I (y + ab_sy e)) (ab_I ((g + 1 : Nat) : Int)) q5.2 else some (1, q5.2)) := by
  have w4 := hW.2.2.2.2.1
  have w16 := hW.2.2.2.2.2.1
  have p := hW.pos h1 (k := 0) (by omega)
  have p : 0 ≤ P 2 ∧ P 2 ≤ 12 ∧ 0 ≤ P 3 ∧ P 3 ≤ 8 := p
  have hb : (-1 ≤ ab_sx e ∧ ab_sx e ≤ 1) ∧ (-1 ≤ ab_sy e ∧ ab_sy e ≤ 1) := by
    rcases ab_dir he0 he3 with h | h | h | h <;> rw [h] <;> decide
  rw [f_X8_isLayingBarred_15, if_neg (by rw [ab_Ile (by omega) (by omega) (by omega) (by omega)]; omega), ab_stepX he0 he3, ab_stepY he0 he3, ab_Iadd, ab_Iadd]
  have hx' : -1000 ≤ x + ab_sx e ∧ x + ab_sx e ≤ 1000 := by omega
  have hy' : -1000 ≤ y + ab_sy e ∧ y + ab_sy e ≤ 1000 := by omega
  generalize x + ab_sx e = x' at *
  generalize y + ab_sy e = y' at *
  have go := ab_goesOver h hW h1 (x := x') (y := y') (m := -1) (by omega) (by omega) (by omega) (by omega) (by omega) (by omega)
  rw [show ab_I (-1) = (-1 : Int32) from rfl] at go
  generalize f_X8_isLayingBarred_15 c f = K
  have h121 : ∀ b : Bool, f_X8_isLayingBarred_121 c K (ab_I e) (ab_I z) (ab_I x') (ab_I y') (ab_I g) (ab_I (ab_b b)) (ab_I g) (ab_I y') (ab_I x') σ = Option.bind (f_X8_isBarred σ (ab_I x') (ab_I y') (ab_I g) (ab_I (ab_b b))) (fun q5 => if q5.1 = 0 then K (ab_I e) (ab_I z) (ab_I x') (ab_I y') (ab_I ((g + 1 : Nat) : Int)) q5.2 else some (1, q5.2)) := fun b => by
    unfold f_X8_isLayingBarred_121
    rw [ab_I1]
  have h89 : f_X8_isLayingBarred_89 c K (ab_I e) (ab_I z) (ab_I x') (ab_I y') (ab_I g) σ = Option.bind (f_X8_isBarred σ (ab_I x') (ab_I y') (ab_I g) (ab_I (ab_b (ab_go P x' y' (-1))))) (fun q5 => if q5.1 = 0 then K (ab_I e) (ab_I z) (ab_I x') (ab_I y') (ab_I ((g + 1 : Nat) : Int)) q5.2 else some (1, q5.2)) := by
    unfold f_X8_isLayingBarred_89 f_X8_isLayingBarred_90
    rw [if_pos (show (0 : Int32) = 0 from rfl), go, Option.bind_some]
    cases ab_go P x' y' (-1)
    · rw [if_pos (show ab_I (ab_b false) = 0 from rfl)]
      exact h121 false
    · rw [if_neg (show ¬ ab_I (ab_b true) = 0 by decide)]
      exact h121 true
  have e1 : ab_I z - 1 = ab_I (z - 1) := ab_Isub (b := 1)
  unfold ab_tk
  rw [e1, h.2.2.1, show (3 : Int32) = ab_I 3 from rfl]
  by_cases q1 : (g : Int) = z - 1
  · rw [if_pos (by rw [q1])]
    by_cases q2 : P 4 < 3
    · rw [if_pos (by rw [ab_Ilt (by omega) (by omega) (by omega) (by omega)]; exact q2), if_neg (fun h => absurd h.2.1 (by omega))]
      exact h89
    · rw [if_neg (by rw [ab_Ilt (by omega) (by omega) (by omega) (by omega)]; exact q2)]
      unfold f_X8_isLayingBarred_60
      rw [if_neg (show ¬ (1 : Int32) = 0 by decide), (h.2.2.2.1 h1).1, (h.2.2.2.1 h1).2.1]
      by_cases q3 : x' = P 2
      · rw [if_pos (by rw [q3])]
        by_cases q4 : y' = P 3
        · rw [if_pos (by rw [q4]), if_pos ⟨by omega, by omega, q3, q4⟩]
          unfold f_X8_isLayingBarred_90
          rw [if_neg (show ¬ (1 : Int32) = 0 by decide)]
          exact h121 false
        · rw [if_neg (by rw [ab_Ieq (by omega) (by omega) (by omega) (by omega)]; exact q4), if_neg (fun h => q4 h.2.2.2)]
          exact h89
      · rw [if_neg (by rw [ab_Ieq (by omega) (by omega) (by omega) (by omega)]; exact q3), if_neg (fun h => q3 h.2.2.1)]
        exact h89
  · rw [if_neg (by rw [ab_Ieq (by omega) (by omega) (by omega) (by omega)]; exact q1), if_neg (fun h => absurd h.1 (by omega))]
    exact h89
theorem ab_layR_step (hM : ab_MR τ 293 0 D) {s : Nat} (hs : s < 5) (hW : ab_WP (ab_sl D s)) (h1 : 1 ≤ ab_sl D s 1) {e z px py : Int} (he0 : 0 ≤ e) (he3 : e ≤ 3) (hp0 : 0 ≤ px) (hp1 : px ≤ 12) (hq0 : 0 ≤ py) (hq1 : py ≤ 8) (t14 : τ 292 14 = ab_I px) (t15 : τ 292 15 = ab_I py) {g : Nat} (hg : (g : Int) < z) (hz : z ≤ 9) {f : Nat} : f_X10_isRefusedChain_82 (f + 1) (ab_I s) (ab_I e) (ab_I z) (ab_I ((g + 1 : Nat) : Int)) τ = Option.bind (f_X10_isBarred τ (ab_I (px + ab_sx e * ((g + 1 : Nat) : Int))) (ab_I (py + ab_sy e * ((g + 1 : Nat) : Int))) (if (g : Int) + 1 = z ∧ 3 ≤ ab_sl D s 4 ∧ px + ab_sx e * ((g + 1 : Nat) : Int) = ab_sl D s 2 ∧ py + ab_sy e * ((g + 1 : Nat) : Int) = ab_sl D s 3 then 1 else 0)) (fun q12 => if q12.1 = 0 then f_X10_isRefusedChain_82 f (ab_I s) (ab_I e) (ab_I z) (ab_I ((g + 1 + 1 : Nat) : Int)) (q_up q12.2 292 17 (q12.2 292 17 + 1)) else some (1, q12.2)) := by
  have w4 := hW.2.2.2.2.1
  have w16 := hW.2.2.2.2.2.1
  have p := hW.pos h1 (k := 0) (by omega)
  have p : 0 ≤ ab_sl D s 2 ∧ ab_sl D s 2 ≤ 12 ∧ 0 ≤ ab_sl D s 3 ∧ ab_sl D s 3 ≤ 8 := p
  have hbx : -9 ≤ ab_sx e * ((g + 1 : Nat) : Int) ∧ ab_sx e * ((g + 1 : Nat) : Int) ≤ 9 := by
    rcases ab_dir he0 he3 with h | h | h | h <;> rw [h] <;> simp [ab_sx] <;> omega
  have hby : -9 ≤ ab_sy e * ((g + 1 : Nat) : Int) ∧ ab_sy e * ((g + 1 : Nat) : Int) ≤ 9 := by
    rcases ab_dir he0 he3 with h | h | h | h <;> rw [h] <;> simp [ab_sy] <;> omega
  obtain ⟨_, _, sv2, sv3, sv4⟩ := ab_svn hM hs
  rw [f_X10_isRefusedChain_82, if_neg (by rw [ab_Ilt (by omega) (by omega) (by omega) (by omega)]; omega), t14, t15, ab_rstepX he0 he3, ab_rstepY he0 he3, ab_Imul, ab_Imul, ab_Iadd, ab_Iadd, Int.mul_comm _ (ab_sx e), Int.mul_comm _ (ab_sy e)]
  generalize ab_sx e * ((g + 1 : Nat) : Int) = ax at *
  generalize ab_sy e * ((g + 1 : Nat) : Int) = ay at *
  generalize f_X10_isRefusedChain_82 f = K
  have h159 : ∀ s0 : Int32, f_X10_isRefusedChain_159 K (ab_I s) (ab_I e) (ab_I z) (ab_I ((g + 1 : Nat) : Int)) (ab_I (px + ax)) (ab_I (py + ay)) s0 τ = Option.bind (f_X10_isBarred τ (ab_I (px + ax)) (ab_I (py + ay)) s0) (fun q12 => if q12.1 = 0 then K (ab_I s) (ab_I e) (ab_I z) (ab_I ((g + 1 + 1 : Nat) : Int)) (q_up q12.2 292 17 (q12.2 292 17 + 1)) else some (1, q12.2)) := fun s0 => by
    unfold f_X10_isRefusedChain_159
    rw [ab_I1]
  unfold f_X10_isRefusedChain_158
  by_cases q1 : (g : Int) + 1 = z
  · rw [if_pos (show ab_I ((g + 1 : Nat) : Int) = ab_I z from congrArg ab_I (by omega)), sv4, Option.bind_some]
    by_cases q2 : ab_sl D s 4 < 3
    · rw [if_pos (show ab_I (ab_sl D s 4) < 3 by rw [show (3 : Int32) = ab_I 3 from rfl, ab_Ilt (by omega) (by omega) (by omega) (by omega)]; exact q2), h159, if_neg (fun h : _ ∧ _ ∧ _ ∧ _ => absurd h.2.1 (by omega))]
    · rw [if_neg (show ¬ ab_I (ab_sl D s 4) < 3 by rw [show (3 : Int32) = ab_I 3 from rfl, ab_Ilt (by omega) (by omega) (by omega) (by omega)]; exact q2), sv2, Option.bind_some]
      by_cases q3 : px + ax = ab_sl D s 2
      · rw [if_pos (show ab_I (px + ax) = ab_I (ab_sl D s 2) by rw [q3]), sv3, Option.bind_some]
        by_cases q4 : py + ay = ab_sl D s 3
        · rw [if_pos (show ab_I (py + ay) = ab_I (ab_sl D s 3) by rw [q4]), h159, if_pos (show (g : Int) + 1 = z ∧ 3 ≤ ab_sl D s 4 ∧ px + ax = ab_sl D s 2 ∧ py + ay = ab_sl D s 3 from ⟨q1, by omega, q3, q4⟩)]
        · rw [if_neg (show ¬ ab_I (py + ay) = ab_I (ab_sl D s 3) by rw [ab_Ieq (by omega) (by omega) (by omega) (by omega)]; exact q4), h159, if_neg (fun h : _ ∧ _ ∧ _ ∧ _ => q4 h.2.2.2)]
      · rw [if_neg (show ¬ ab_I (px + ax) = ab_I (ab_sl D s 2) by rw [ab_Ieq (by omega) (by omega) (by omega) (by omega)]; exact q3), h159, if_neg (fun h : _ ∧ _ ∧ _ ∧ _ => q3 h.2.2.1)]
  · rw [if_neg (show ¬ ab_I ((g + 1 : Nat) : Int) = ab_I z by rw [ab_Ieq (by omega) (by omega) (by omega) (by omega)]; omega), h159, if_neg (fun h : _ ∧ _ ∧ _ ∧ _ => q1 h.1)]
end
