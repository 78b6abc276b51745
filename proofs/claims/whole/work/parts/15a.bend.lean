/-! a chain that is bent -/
/-- where the way around is after g corners -/
def ab_wy (s0 se sd f z g : Int) : Int := if g ≤ f then s0 + se * g else if g ≤ f + z then s0 + se * f + sd * (g - f) else s0 + se * f + sd * z - se * (g - f - z)
def ab_op (e : Int) : Int := if e = 0 then 2 else if e = 1 then 3 else if e = 2 then 0 else 1
theorem ab_op_b {e : Int} (h0 : 0 ≤ e) (h3 : e ≤ 3) : 0 ≤ ab_op e ∧ ab_op e ≤ 3 ∧ ab_sx (ab_op e) = - ab_sx e ∧ ab_sy (ab_op e) = - ab_sy e := by
  rcases ab_dir h0 h3 with h | h | h | h <;> rw [h] <;> decide
/-- across -/
def ab_pp (a e : Int) : Prop := ((a = 0 ∨ a = 2) ∧ (e = 1 ∨ e = 3)) ∨ ((a = 1 ∨ a = 3) ∧ (e = 0 ∨ e = 2))
set_option maxHeartbeats 4000000 in
theorem ab_wself {x0 y0 a e f z g g2 : Int} (hp : ab_pp a e) (hf : 1 ≤ f) (hz : 1 ≤ z) (h1 : 1 ≤ g) (h2 : g ≤ 2 * f + z - 1) (k1 : 1 ≤ g2) (k2 : g2 ≤ 2 * f + z - 1) (hx : ab_wy x0 (ab_sx e) (ab_sx a) f z g = ab_wy x0 (ab_sx e) (ab_sx a) f z g2) (hy : ab_wy y0 (ab_sy e) (ab_sy a) f z g = ab_wy y0 (ab_sy e) (ab_sy a) f z g2) : g = g2 := by
  unfold ab_wy at hx hy
  rcases hp with ⟨h | h, q | q⟩ | ⟨h | h, q | q⟩ <;> rw [h, q] at hx hy <;> simp only [ab_sx, ab_sy] at hx hy <;> simp at hx hy <;> by_cases c1 : g ≤ f <;> by_cases c2 : g2 ≤ f <;> by_cases c3 : g ≤ f + z <;> by_cases c4 : g2 ≤ f + z <;> simp only [c1, c2, c3, c4, if_true, if_false] at hx hy <;> omega
theorem ab_wy_1 {s0 se sd f z g : Int} (h : g ≤ f) : ab_wy s0 se sd f z g = s0 + se * g := by unfold ab_wy; rw [if_pos h]
theorem ab_wy_2 {s0 se sd f z g : Int} (hz : 0 ≤ z) (h : f < g) (h2 : g ≤ f + z) : ab_wy s0 se sd f z g = s0 + se * f + sd * (g - f) := by unfold ab_wy; rw [if_neg (by omega), if_pos h2]
theorem ab_wy_3 {s0 se sd f z g : Int} (hz : 0 ≤ z) (h : f + z < g) : ab_wy s0 se sd f z g = s0 + se * f + sd * z - se * (g - f - z) := by unfold ab_wy; rw [if_neg (by omega), if_neg (by omega)]
section
variable {X Y : Int} {n k : Nat} {d l d2 l2 : Nat → Int}
/-- the chain k in the way around -/
theorem ab_W.bend {e f : Int} (h : ab_W X Y n d l True) (hk : k < n) (he0 : 0 ≤ e) (he3 : e ≤ 3) (hp : ab_pp (d k) e) (hf1 : 1 ≤ f) (hf9 : f ≤ 9)
    (hd0 : ∀ j, j < k → d2 j = d j) (hl0 : ∀ j, j < k → l2 j = l j) (hd1 : d2 k = e) (hl1 : l2 k = f) (hd2 : d2 (k + 1) = d k) (hl2 : l2 (k + 1) = l k) (hd3 : d2 (k + 2) = ab_op e) (hl3 : l2 (k + 2) = f)
    (hd4 : ∀ j, k < j → j < n → d2 (j + 2) = d j) (hl4 : ∀ j, k < j → j < n → l2 (j + 2) = l j)
    (hw : ∀ g : Int, 1 ≤ g → g ≤ 2 * f + l k - 1 → (0 ≤ ab_wy (ab_px X d l k) (ab_sx e) (ab_sx (d k)) f (l k) g ∧ ab_wy (ab_px X d l k) (ab_sx e) (ab_sx (d k)) f (l k) g ≤ 12 ∧ 0 ≤ ab_wy (ab_py Y d l k) (ab_sy e) (ab_sy (d k)) f (l k) g ∧ ab_wy (ab_py Y d l k) (ab_sy e) (ab_sy (d k)) f (l k) g ≤ 8) ∧
      ∀ (j : Nat) (b : Int), j < n → j ≠ k → 0 ≤ b → b ≤ l j → ab_cx X d l j b = ab_wy (ab_px X d l k) (ab_sx e) (ab_sx (d k)) f (l k) g → ab_cy Y d l j b = ab_wy (ab_py Y d l k) (ab_sy e) (ab_sy (d k)) f (l k) g → False) : ab_W X Y (n + 2) d2 l2 True := by
  obtain ⟨h1, h2, h3, h4, h5⟩ := h
  have h5 := h5 trivial
  have hzk := h1 k hk
  have ho := ab_op_b he0 he3
  have px : ∀ j, j ≤ k → ab_px X d2 l2 j = ab_px X d l j := fun j hj => ab_px_congr (fun i hi => hd0 i (by omega)) (fun i hi => hl0 i (by omega))
  have py : ∀ j, j ≤ k → ab_py Y d2 l2 j = ab_py Y d l j := fun j hj => ab_py_congr (fun i hi => hd0 i (by omega)) (fun i hi => hl0 i (by omega))
  have px1 : ab_px X d2 l2 (k + 1) = ab_px X d l k + ab_sx e * f := by rw [ab_px, px k (Nat.le_refl _), hd1, hl1]
  have py1 : ab_py Y d2 l2 (k + 1) = ab_py Y d l k + ab_sy e * f := by rw [ab_py, py k (Nat.le_refl _), hd1, hl1]
  have px2 : ab_px X d2 l2 (k + 2) = ab_px X d l k + ab_sx e * f + ab_sx (d k) * l k := by rw [ab_px, px1, hd2, hl2]
  have py2 : ab_py Y d2 l2 (k + 2) = ab_py Y d l k + ab_sy e * f + ab_sy (d k) * l k := by rw [ab_py, py1, hd2, hl2]
  have px3 : ∀ i j, i = j → k + 1 ≤ j → j ≤ n → ab_px X d2 l2 (j + 2) = ab_px X d l j := by
    intro i
    induction i with
    | zero => intro j hj h1 h2; omega
    | succ i ih =>
      intro j hj h1 h2
      by_cases q : j = k + 1
      · rw [q, ab_px, px2, hd3, hl3, ho.2.2.1, ab_px, Int.neg_mul]
        omega
      · have hi := ih i rfl (by omega) (by omega)
        rw [show j = i + 1 by omega]
        show ab_px X d2 l2 (i + 2) + ab_sx (d2 (i + 2)) * l2 (i + 2) = ab_px X d l i + ab_sx (d i) * l i
        rw [hi, hd4 i (by omega) (by omega), hl4 i (by omega) (by omega)]
  have py3 : ∀ i j, i = j → k + 1 ≤ j → j ≤ n → ab_py Y d2 l2 (j + 2) = ab_py Y d l j := by
    intro i
    induction i with
    | zero => intro j hj h1 h2; omega
    | succ i ih =>
      intro j hj h1 h2
      by_cases q : j = k + 1
      · rw [q, ab_py, py2, hd3, hl3, ho.2.2.2, ab_py, Int.neg_mul]
        omega
      · have hi := ih i rfl (by omega) (by omega)
        rw [show j = i + 1 by omega]
        show ab_py Y d2 l2 (i + 2) + ab_sy (d2 (i + 2)) * l2 (i + 2) = ab_py Y d l i + ab_sy (d i) * l i
        rw [hi, hd4 i (by omega) (by omega), hl4 i (by omega) (by omega)]
  -- the way around meets no corner of the others, nor the last of the chain itself
  have cross : ∀ (g : Int) (i : Nat) (b : Int), 1 ≤ g → g ≤ 2 * f + l k - 1 → i < n → 1 ≤ b → b ≤ l i → (i = k → b = l k) → ab_cx X d l i b = ab_wy (ab_px X d l k) (ab_sx e) (ab_sx (d k)) f (l k) g → ab_cy Y d l i b = ab_wy (ab_py Y d l k) (ab_sy e) (ab_sy (d k)) f (l k) g → False := by
    intro g i b g1 g2 hi b1 b2 hb hx hy
    by_cases q : i = k
    · subst q
      rw [hb rfl] at hx hy
      by_cases q2 : i + 1 < n
      · have := h1 (i + 1) q2
        exact (hw g g1 g2).2 (i + 1) 0 q2 (by omega) (by omega) (by omega) (by rw [ab_cx_0]; exact hx) (by rw [ab_cy_0]; exact hy)
      · have := h1 0 (by omega)
        have en : i + 1 = n := by omega
        refine (hw g g1 g2).2 0 0 (by omega) (by omega) (by omega) (by omega) ?_ ?_
        · rw [ab_cx_0, ← hx, ab_cx_e, en, h5.2.1]; rfl
        · rw [ab_cy_0, ← hy, ab_cy_e, en, h5.2.2]; rfl
    · exact (hw g g1 g2).2 i b hi q (by omega) b2 hx hy
  -- .. nor where the plot begins
  have beg : ∀ g : Int, 1 ≤ g → g ≤ 2 * f + l k - 1 → ab_wy (ab_px X d l k) (ab_sx e) (ab_sx (d k)) f (l k) g = X → ab_wy (ab_py Y d l k) (ab_sy e) (ab_sy (d k)) f (l k) g = Y → False := by
    intro g g1 g2 hx hy
    by_cases q : k = 0
    · obtain ⟨m, hm⟩ : ∃ m, n = m + 1 := ⟨n - 1, by omega⟩
      have := h1 m (by omega)
      refine (hw g g1 g2).2 m (l m) (by omega) (by omega) (by omega) (Int.le_refl _) ?_ ?_
      · rw [ab_cx_e, ← hm, h5.2.1]; exact hx.symm
      · rw [ab_cy_e, ← hm, h5.2.2]; exact hy.symm
    · have := h1 0 (by omega)
      refine (hw g g1 g2).2 0 0 (by omega) (by omega) (by omega) (by omega) ?_ ?_
      · rw [ab_cx_0]; exact hx.symm
      · rw [ab_cy_0]; exact hy.symm
  -- what each corner is
  have cls : ∀ (j : Nat) (a : Int), j < n + 2 → 1 ≤ a → a ≤ l2 j →
      (∃ (i : Nat) (b : Int), i < n ∧ 1 ≤ b ∧ b ≤ l i ∧ (i = k → b = l k) ∧ ab_cx X d2 l2 j a = ab_cx X d l i b ∧ ab_cy Y d2 l2 j a = ab_cy Y d l i b ∧ ((i < k ∧ j = i ∧ a = b) ∨ (i = k ∧ b = l k ∧ j = k + 2 ∧ a = f) ∨ (k < i ∧ j = i + 2 ∧ a = b))) ∨
      (∃ g : Int, 1 ≤ g ∧ g ≤ 2 * f + l k - 1 ∧ ab_cx X d2 l2 j a = ab_wy (ab_px X d l k) (ab_sx e) (ab_sx (d k)) f (l k) g ∧ ab_cy Y d2 l2 j a = ab_wy (ab_py Y d l k) (ab_sy e) (ab_sy (d k)) f (l k) g ∧ ((j = k ∧ a = g ∧ g ≤ f) ∨ (j = k + 1 ∧ a = g - f ∧ f < g ∧ g ≤ f + l k) ∨ (j = k + 2 ∧ a = g - f - l k ∧ f + l k < g))) := by
    intro j a hj ha hal
    by_cases q0 : j < k
    · rw [hl0 j q0] at hal
      refine .inl ⟨j, a, by omega, ha, hal, fun h => absurd h (by omega), ?_, ?_, .inl ⟨q0, rfl, rfl⟩⟩
      · unfold ab_cx; rw [px j (by omega), hd0 j q0]
      · unfold ab_cy; rw [py j (by omega), hd0 j q0]
    by_cases q1 : j = k
    · rw [q1, hl1] at hal
      refine .inr ⟨a, ha, by omega, ?_, ?_, .inl ⟨q1, rfl, hal⟩⟩
      · rw [ab_wy_1 hal]; unfold ab_cx; rw [q1, px k (Nat.le_refl _), hd1]
      · rw [ab_wy_1 hal]; unfold ab_cy; rw [q1, py k (Nat.le_refl _), hd1]
    by_cases q2 : j = k + 1
    · rw [q2, hl2] at hal
      refine .inr ⟨f + a, by omega, by omega, ?_, ?_, .inr (.inl ⟨q2, by omega, by omega, by omega⟩)⟩
      · rw [ab_wy_2 (by omega) (by omega) (by omega), show f + a - f = a by omega]; unfold ab_cx; rw [q2, px1, hd2]
      · rw [ab_wy_2 (by omega) (by omega) (by omega), show f + a - f = a by omega]; unfold ab_cy; rw [q2, py1, hd2]
    by_cases q3 : j = k + 2
    · rw [q3, hl3] at hal
      by_cases q4 : a = f
      · refine .inl ⟨k, l k, hk, by omega, Int.le_refl _, fun _ => rfl, ?_, ?_, .inr (.inl ⟨rfl, rfl, q3, q4⟩)⟩
        · rw [ab_cx_e, ← px3 (k + 1) (k + 1) rfl (by omega) (by omega), q3, q4, ← hl3, ab_cx_e]
        · rw [ab_cy_e, ← py3 (k + 1) (k + 1) rfl (by omega) (by omega), q3, q4, ← hl3, ab_cy_e]
      · refine .inr ⟨f + l k + a, by omega, by omega, ?_, ?_, .inr (.inr ⟨q3, by omega, by omega⟩)⟩
        · rw [ab_wy_3 (by omega) (by omega), show f + l k + a - f - l k = a by omega]; unfold ab_cx; rw [q3, px2, hd3, ho.2.2.1, Int.neg_mul]; omega
        · rw [ab_wy_3 (by omega) (by omega), show f + l k + a - f - l k = a by omega]; unfold ab_cy; rw [q3, py2, hd3, ho.2.2.2, Int.neg_mul]; omega
    obtain ⟨i, hi⟩ : ∃ i, j = i + 2 := ⟨j - 2, by omega⟩
    rw [hi, hl4 i (by omega) (by omega)] at hal
    refine .inl ⟨i, a, by omega, ha, hal, fun h => absurd h (by omega), ?_, ?_, .inr (.inr ⟨by omega, hi, rfl⟩)⟩
    · unfold ab_cx; rw [hi, px3 i i rfl (by omega) (by omega), hd4 i (by omega) (by omega)]
    · unfold ab_cy; rw [hi, py3 i i rfl (by omega) (by omega), hd4 i (by omega) (by omega)]
  refine ⟨fun j hj => ?_, fun j hj => ?_, fun i j a b hi hj ha hal hb hbl hx hy => ?_, fun i a hi ha hal hx hy => ?_, fun _ => ⟨by omega, ?_, ?_⟩⟩
  · by_cases q0 : j < k
    · rw [hd0 j q0, hl0 j q0]; exact h1 j (by omega)
    by_cases q1 : j = k
    · rw [q1, hd1, hl1]; exact ⟨he0, he3, hf1, hf9⟩
    by_cases q2 : j = k + 1
    · rw [q2, hd2, hl2]; exact hzk
    by_cases q3 : j = k + 2
    · rw [q3, hd3, hl3]; exact ⟨ho.1, ho.2.1, hf1, hf9⟩
    obtain ⟨i, hi⟩ : ∃ i, j = i + 2 := ⟨j - 2, by omega⟩
    rw [hi, hd4 i (by omega) (by omega), hl4 i (by omega) (by omega)]
    exact h1 i (by omega)
  · by_cases q0 : j ≤ k
    · rw [px j q0, py j q0]; exact h2 j (by omega)
    by_cases q2 : j = k + 1
    · have := (hw f (by omega) (by omega)).1
      rw [ab_wy_1 (Int.le_refl _), ab_wy_1 (Int.le_refl _)] at this
      rw [q2, px1, py1]
      exact this
    by_cases q3 : j = k + 2
    · have := (hw (f + l k) (by omega) (by omega)).1
      rw [ab_wy_2 (by omega) (by omega) (Int.le_refl _), ab_wy_2 (by omega) (by omega) (Int.le_refl _), show f + l k - f = l k by omega] at this
      rw [q3, px2, py2]
      exact this
    obtain ⟨i, hi⟩ : ∃ i, j = i + 2 := ⟨j - 2, by omega⟩
    rw [hi, px3 i i rfl (by omega) (by omega), py3 i i rfl (by omega) (by omega)]
    exact h2 i (by omega)
  · rcases cls i a hi ha hal with ⟨i1, a1, p1, p2, p3, p4, p5, p6, p7⟩ | ⟨g, p1, p2, p5, p6, p7⟩
    · rcases cls j b hj hb hbl with ⟨i2, a2, r1, r2, r3, r4, r5, r6, r7⟩ | ⟨g, r1, r2, r5, r6, r7⟩
      · have := h3 i1 i2 a1 a2 p1 r1 p2 p3 r2 r3 (by rw [← p5, ← r5]; exact hx) (by rw [← p6, ← r6]; exact hy)
        omega
      · exact (cross g i1 a1 r1 r2 p1 p2 p3 p4 (by rw [← p5, ← r5]; exact hx) (by rw [← p6, ← r6]; exact hy)).elim
    · rcases cls j b hj hb hbl with ⟨i2, a2, r1, r2, r3, r4, r5, r6, r7⟩ | ⟨g2, r1, r2, r5, r6, r7⟩
      · exact (cross g i2 a2 p1 p2 r1 r2 r3 r4 (by rw [← p5, ← r5]; exact hx.symm) (by rw [← p6, ← r6]; exact hy.symm)).elim
      · have := ab_wself hp hf1 hzk.2.2.1 p1 p2 r1 r2 (by rw [← p5, ← r5]; exact hx) (by rw [← p6, ← r6]; exact hy)
        omega
  · rcases cls i a hi ha hal with ⟨i1, a1, p1, p2, p3, p4, p5, p6, p7⟩ | ⟨g, p1, p2, p5, p6, p7⟩
    · have q := h4 i1 a1 p1 p2 p3 (by rw [← p5]; exact hx) (by rw [← p6]; exact hy)
      refine ⟨trivial, by omega, ?_⟩
      rcases p7 with ⟨c1, c2, c3⟩ | ⟨c1, c2, c3, c4⟩ | ⟨c1, c2, c3⟩
      · omega
      · rw [c3, c4, hl3]
      · rw [c2, hl4 i1 c1 p1, c3]; exact q.2.2
    · exact (beg g p1 p2 (by rw [← p5]; exact hx) (by rw [← p6]; exact hy)).elim
  · rw [px3 n n rfl (by omega) (Nat.le_refl _)]; exact h5.2.1
  · rw [py3 n n rfl (by omega) (Nat.le_refl _)]; exact h5.2.2
end
