/-! corners at which a plot has been -/
/-- .. but for the chain m -/
def ab_Mk (P : Nat → Int) (m x y : Int) : Prop := ∃ (j : Nat) (b : Int), (j : Int) < P 4 ∧ (j : Int) ≠ m ∧ 0 ≤ b ∧ b ≤ ab_ls P j ∧ ab_cx (P 2) (ab_ds P) (ab_ls P) j b = x ∧ ab_cy (P 3) (ab_ds P) (ab_ls P) j b = y
/-- .. up to the corner a of the chain i -/
def ab_mk (P : Nat → Int) (m : Int) (i : Nat) (a : Int) (x y : Int) : Prop := (x = P 2 ∧ y = P 3) ∨ ∃ (j : Nat) (b : Int), (j : Int) ≠ m ∧ 0 ≤ b ∧ b ≤ ab_ls P j ∧ (j < i ∨ (j = i ∧ b < a)) ∧ ab_cx (P 2) (ab_ds P) (ab_ls P) j b = x ∧ ab_cy (P 3) (ab_ds P) (ab_ls P) j b = y
theorem ab_go_iff {P : Nat → Int} (hW : ab_WP P) (x y m : Int) : ab_go P x y m = true ↔ ab_Mk P m x y := by
  have h4 := hW.2.2.2.2.1
  unfold ab_go ab_Mk
  rw [ab_any_iff]
  constructor
  · rintro ⟨i, _, h2, h3⟩
    rw [Bool.and_eq_true] at h3
    obtain ⟨h3, h5⟩ := h3
    have h5 := of_decide_eq_true h5
    unfold ab_on at h3
    rw [Bool.and_eq_true] at h3
    have hx := of_decide_eq_true h3.1
    have hy := of_decide_eq_true h3.2
    have w := hW.ch (k := i) (by omega)
    unfold ab_cx ab_cy
    unfold ab_mn ab_mx at hx hy
    rw [ab_px] at hx
    rw [ab_py] at hy
    have key : ∃ b : Int, 0 ≤ b ∧ b ≤ ab_ls P i ∧ ab_px (P 2) (ab_ds P) (ab_ls P) i + ab_sx (ab_ds P i) * b = x ∧ ab_py (P 3) (ab_ds P) (ab_ls P) i + ab_sy (ab_ds P i) * b = y := by
      generalize ab_px (P 2) (ab_ds P) (ab_ls P) i = px at hx ⊢
      generalize ab_py (P 3) (ab_ds P) (ab_ls P) i = py at hy ⊢
      generalize ab_ls P i = z at w hx hy ⊢
      rcases ab_dir w.2.1 w.2.2.1 with h | h | h | h <;> rw [h] at hx hy ⊢ <;> simp [ab_sx, ab_sy] at hx hy ⊢
      · exact ⟨py - y, by (repeat' split at hy) <;> omega, by (repeat' split at hy) <;> omega, by (repeat' split at hx) <;> omega, by omega⟩
      · exact ⟨x - px, by (repeat' split at hx) <;> omega, by (repeat' split at hx) <;> omega, by omega, by (repeat' split at hy) <;> omega⟩
      · exact ⟨y - py, by (repeat' split at hy) <;> omega, by (repeat' split at hy) <;> omega, by (repeat' split at hx) <;> omega, by omega⟩
      · exact ⟨px - x, by (repeat' split at hx) <;> omega, by (repeat' split at hx) <;> omega, by omega, by (repeat' split at hy) <;> omega⟩
    obtain ⟨b, k1, k2, k3, k4⟩ := key
    exact ⟨i, b, by omega, h5, k1, k2, k3, k4⟩
  · rintro ⟨j, b, h1, h2, h3, h5, h6, h7⟩
    refine ⟨j, by omega, by omega, ?_⟩
    have w := hW.ch (k := j) h1
    rw [Bool.and_eq_true]
    refine ⟨?_, decide_eq_true h2⟩
    unfold ab_on
    rw [Bool.and_eq_true]
    unfold ab_cx at h6
    unfold ab_cy at h7
    unfold ab_mn ab_mx
    rw [ab_px, ab_py]
    generalize ab_px (P 2) (ab_ds P) (ab_ls P) j = px at h6 ⊢
    generalize ab_py (P 3) (ab_ds P) (ab_ls P) j = py at h7 ⊢
    generalize ab_ls P j = z at w h5 ⊢
    refine ⟨decide_eq_true ?_, decide_eq_true ?_⟩ <;>
    (rcases ab_dir w.2.1 w.2.2.1 with h | h | h | h <;> rw [h] at h6 h7 ⊢ <;> simp [ab_sx, ab_sy] at h6 h7 ⊢ <;> (repeat' split) <;> omega)
theorem ab_fl.congr {σ : q_S} {M M2 : Int → Int → Prop} (h : ab_fl σ M) (e : ∀ x y : Nat, x < 13 → y < 9 → (M x y ↔ M2 x y)) : ab_fl σ M2 := fun x y hx hy => by
  rw [← e x y hx hy]
  exact h x y hx hy
theorem ab_fl.same {σ τ : q_S} {M : Int → Int → Prop} (h : ab_fl σ M) (e : τ 297 = σ 297) : ab_fl τ M := fun x y hx hy => by
  rw [e]
  exact h x y hx hy
theorem ab_nar1 : vp_nar .boolean 1 = 1 := by decide +kernel
theorem ab_nar0 : vp_nar .boolean 0 = 0 := by decide +kernel
/-- what marking leaves as it was -/
def ab_fk (σ τ : q_S) : Prop := (∀ c, c ≠ 292 → c ≠ 297 → τ c = σ c) ∧ ∀ k, k ≠ 14 → k ≠ 15 → τ 292 k = σ 292 k
theorem ab_fk.rf {σ : q_S} : ab_fk σ σ := ⟨fun _ _ _ => rfl, fun _ _ _ => rfl⟩
theorem ab_fk.trans {σ τ υ : q_S} (h : ab_fk σ τ) (g : ab_fk τ υ) : ab_fk σ υ := ⟨fun c a b => (g.1 c a b).trans (h.1 c a b), fun k a b => (g.2 k a b).trans (h.2 k a b)⟩
theorem ab_fk.up {σ : q_S} {k : Nat} {v : Int32} : ab_fk σ (q_up σ 297 k v) := ⟨fun c _ h => ab_up_ne h, fun k _ _ => by rw [ab_up_ne (by decide)]⟩
theorem ab_fk.g {σ : q_S} {a b : Int32} : ab_fk σ (ab_g σ a b) := ⟨fun c h _ => by unfold ab_g; funext k; rw [if_neg h], fun k h1 h2 => by unfold ab_g; rw [if_pos rfl, if_neg h1, if_neg h2]⟩
theorem ab_fk.M {σ τ : q_S} {D : Nat → Int} (h : ab_fk σ τ) (hM : ab_MR σ 293 0 D) : ab_MR τ 293 0 D := fun k hk => by rw [h.1 293 (by decide) (by decide)]; exact hM k hk
section
variable {σ τ : q_S} {D : Nat → Int} {B : Int}
theorem ab_marks64_lp {s : Nat} (hs : s < 5) (hW : ab_WP (ab_sl D s)) {k45 : Int32 → Int32 → Int32 → q_S → Option q_S} {m : Int} (hm0 : -1 ≤ m) (hm1 : m ≤ 1000) {i : Nat} (hi : (i : Int) < ab_sl D s 4) : ∀ r a : Nat, ((a + r : Nat) : Int) = ab_ls (ab_sl D s) i + 1 → ∀ f, r < f → ∀ τ : q_S, ab_MR τ 293 0 D → τ 292 14 = ab_I (ab_px (ab_sl D s 2) (ab_ds (ab_sl D s)) (ab_ls (ab_sl D s)) i) → τ 292 15 = ab_I (ab_py (ab_sl D s 3) (ab_ds (ab_sl D s)) (ab_ls (ab_sl D s)) i) → ab_fl τ (ab_mk (ab_sl D s) m i a) →
    ∃ υ, f_X10_marks_64 k45 f (ab_I s) (ab_I m) (ab_I i) (ab_I a) τ = k45 (ab_I s) (ab_I m) (ab_I ((i + 1 : Nat) : Int)) υ ∧ ab_fl υ (ab_mk (ab_sl D s) m (i + 1) 0) ∧ ab_fk τ υ := by
  have w := hW.ch hi
  have h16 := hW.2.2.2.2.2.1
  have hWW := hW.2.2.2.2.2.2.2 w.1
  have done : ∀ (a : Nat) (τ : q_S), ((a : Int) = ab_ls (ab_sl D s) i + 1 ∨ (i : Int) = m) → ab_fl τ (ab_mk (ab_sl D s) m i a) → ab_fl τ (ab_mk (ab_sl D s) m (i + 1) 0) := by
    intro a τ ha h
    refine h.congr (fun x y _ _ => or_congr Iff.rfl ⟨?_, ?_⟩)
    · rintro ⟨j, b, h1, h2, h3, h4, h5⟩
      exact ⟨j, b, h1, h2, h3, by omega, h5⟩
    · rintro ⟨j, b, h1, h2, h3, h4, h5⟩
      refine ⟨j, b, h1, h2, h3, ?_, h5⟩
      by_cases e : j = i
      · subst e
        exact .inr ⟨rfl, by omega⟩
      · exact .inl (by omega)
  intro r
  induction r with
  | zero =>
    intro a ha f hf τ hM e1 e2 hF
    obtain ⟨f, rfl⟩ : ∃ g, f = g + 1 := ⟨f - 1, by omega⟩
    refine ⟨τ, ?_, done a τ (.inl (by omega)) hF, ab_fk.rf⟩
    rw [f_X10_marks_64, ab_len hM hs (by omega), Option.bind_some, if_pos (by rw [ab_Ilt (by omega) (by omega) (by omega) (by omega)]; omega), ab_I1]
  | succ r ih =>
    intro a ha f hf τ hM e1 e2 hF
    obtain ⟨f, rfl⟩ : ∃ g, f = g + 1 := ⟨f - 1, by omega⟩
    rw [f_X10_marks_64, ab_len hM hs (by omega), Option.bind_some, if_neg (by rw [ab_Ilt (by omega) (by omega) (by omega) (by omega)]; omega)]
    by_cases q : (i : Int) = m
    · refine ⟨τ, ?_, done a τ (.inr q) hF, ab_fk.rf⟩
      rw [if_pos (by rw [q]), ab_I1]
    · have c := ab_c_map hWW (j := i) (a := (a : Int)) (by omega) (by omega) (by omega)
      unfold ab_cx ab_cy at c
      have e : (13 : Int32) * (τ 292 15 + ab_I a * f_X10_stepY (ab_I (ab_ds (ab_sl D s) i))) + τ 292 14 + ab_I a * f_X10_stepX (ab_I (ab_ds (ab_sl D s) i)) = ab_I (((13 * (ab_cy (ab_sl D s 3) (ab_ds (ab_sl D s)) (ab_ls (ab_sl D s)) i a).toNat + (ab_cx (ab_sl D s 2) (ab_ds (ab_sl D s)) (ab_ls (ab_sl D s)) i a).toNat : Nat)) : Int) := by
        unfold ab_cx ab_cy
        rw [e1, e2, ab_rstepX w.2.1 w.2.2.1, ab_rstepY w.2.1 w.2.2.1, show (13 : Int32) = ab_I 13 from rfl, ab_Imul, ab_Imul, ab_Iadd, ab_Imul, ab_Iadd, ab_Iadd, Int.mul_comm (a : Int) (ab_sx _), Int.mul_comm (a : Int) (ab_sy _)]
        exact congrArg ab_I (by omega)
      have c' : 0 ≤ ab_cx (ab_sl D s 2) (ab_ds (ab_sl D s)) (ab_ls (ab_sl D s)) i a ∧ ab_cx (ab_sl D s 2) (ab_ds (ab_sl D s)) (ab_ls (ab_sl D s)) i a ≤ 12 ∧ 0 ≤ ab_cy (ab_sl D s 3) (ab_ds (ab_sl D s)) (ab_ls (ab_sl D s)) i a ∧ ab_cy (ab_sl D s 3) (ab_ds (ab_sl D s)) (ab_ls (ab_sl D s)) i a ≤ 8 := c
      obtain ⟨u, hu⟩ : ∃ u : Nat, ab_cx (ab_sl D s 2) (ab_ds (ab_sl D s)) (ab_ls (ab_sl D s)) i a = u := ⟨(ab_cx (ab_sl D s 2) (ab_ds (ab_sl D s)) (ab_ls (ab_sl D s)) i a).toNat, by omega⟩
      obtain ⟨v, hv⟩ : ∃ v : Nat, ab_cy (ab_sl D s 3) (ab_ds (ab_sl D s)) (ab_ls (ab_sl D s)) i a = v := ⟨(ab_cy (ab_sl D s 3) (ab_ds (ab_sl D s)) (ab_ls (ab_sl D s)) i a).toNat, by omega⟩
      rw [hu, hv] at e c'
      rw [Int.toNat_natCast, Int.toNat_natCast] at e
      have hF2 : ab_fl (q_up τ 297 (13 * v + u) 1) (ab_mk (ab_sl D s) m i ((a + 1 : Nat) : Int)) := by
        intro x y hx hy
        by_cases z : x = u ∧ y = v
        · refine .inl ⟨?_, .inr ⟨i, a, q, by omega, by omega, .inr ⟨rfl, by omega⟩, by rw [hu, z.1], by rw [hv, z.2]⟩⟩
          rw [z.1, z.2, ab_up_at]
        · rw [ab_up_nk (by omega)]
          have hi : ab_mk (ab_sl D s) m i ((a + 1 : Nat) : Int) x y ↔ ab_mk (ab_sl D s) m i a x y := by
            refine or_congr Iff.rfl ⟨?_, ?_⟩
            · rintro ⟨j, b, h1, h2, h3, h4, h5, h6⟩
              refine ⟨j, b, h1, h2, h3, ?_, h5, h6⟩
              rcases h4 with h4 | ⟨h4, h7⟩
              · exact .inl h4
              · by_cases hb : b = a
                · subst h4 hb
                  rw [hu] at h5
                  rw [hv] at h6
                  omega
                · exact .inr ⟨h4, by omega⟩
            · rintro ⟨j, b, h1, h2, h3, h4, h5⟩
              exact ⟨j, b, h1, h2, h3, by omega, h5⟩
          rw [hi]
          exact hF x y hx hy
      obtain ⟨υ, u1, u2, u3⟩ := ih (a + 1) (by omega) f (by omega) (q_up τ 297 (13 * v + u) 1) (fun k hk => by rw [ab_up_ne (by decide)]; exact hM k hk) (by rw [ab_up_ne (by decide)]; exact e1) (by rw [ab_up_ne (by decide)]; exact e2) hF2
      refine ⟨υ, ?_, u2, ab_fk.up.trans u3⟩
      rw [if_neg (by rw [ab_Ieq (by omega) (by omega) (by omega) (by omega)]; exact q), ab_way hM hs (by omega), Option.bind_some, Option.bind_some, e, ab_Icl (by omega) (by omega), Int.toNat_natCast, if_neg (by rw [ab_Iltc (by omega) (by omega)]; exact fun h => h.elim id (fun h => by omega)), ab_nar1, ab_I1]
      exact u1
theorem ab_marks45_lp {s : Nat} (hs : s < 5) (hW : ab_WP (ab_sl D s)) {m : Int} (hm0 : -1 ≤ m) (hm1 : m ≤ 1000) : ∀ r i : Nat, ((i + r : Nat) : Int) = ab_sl D s 4 → ∀ f, r < f → ∀ τ : q_S, ab_MR τ 293 0 D → ab_fl τ (ab_mk (ab_sl D s) m i 0) → ∃ υ, f_X10_marks_45 f (ab_I s) (ab_I m) (ab_I i) τ = some υ ∧ ab_fl υ (ab_mk (ab_sl D s) m (ab_sl D s 4).toNat 0) ∧ ab_fk τ υ := by
  have h16 := hW.2.2.2.2.2.1
  intro r
  induction r with
  | zero =>
    intro i hi f hf τ hM hF
    obtain ⟨f, rfl⟩ : ∃ g, f = g + 1 := ⟨f - 1, by omega⟩
    refine ⟨τ, ?_, by rw [show (ab_sl D s 4).toNat = i by omega]; exact hF, ab_fk.rf⟩
    rw [f_X10_marks_45, (ab_svn hM hs).2.2.2.2, Option.bind_some, if_pos (by rw [ab_Ile (by omega) (by omega) (by omega) (by omega)]; omega)]
  | succ r ih =>
    intro i hi f hf τ hM hF
    obtain ⟨f, rfl⟩ : ∃ g, f = g + 1 := ⟨f - 1, by omega⟩
    have w := hW.ch (k := i) (by omega)
    obtain ⟨υ, u1, u2, u3⟩ := ab_marks64_lp hs hW (k45 := f_X10_marks_45 f) hm0 hm1 (i := i) (by omega) (ab_ls (ab_sl D s) i + 1).toNat 0 (by omega) q_fu (by unfold q_fu; omega) (ab_g τ (ab_I (ab_px (ab_sl D s 2) (ab_ds (ab_sl D s)) (ab_ls (ab_sl D s)) i)) (ab_I (ab_py (ab_sl D s 3) (ab_ds (ab_sl D s)) (ab_ls (ab_sl D s)) i))) (ab_g_MR hM) rfl rfl (hF.same rfl)
    obtain ⟨ω, o1, o2, o3⟩ := ih (i + 1) (by omega) f (by omega) υ (u3.M (ab_g_MR hM)) u2
    refine ⟨ω, ?_, o2, (ab_fk.g.trans u3).trans o3⟩
    rw [f_X10_marks_45, (ab_svn hM hs).2.2.2.2, Option.bind_some, if_neg (by rw [ab_Ile (by omega) (by omega) (by omega) (by omega)]; omega), ab_goesTo hM hs hW (by omega), Option.bind_some]
    exact u1.trans o1
theorem ab_marks2_lp (hM : ab_MR σ 293 0 D) {s : Nat} (hs : s < 5) (hW : ab_WP (ab_sl D s)) (h1 : 1 ≤ ab_sl D s 1) {m : Int} (hm0 : -1 ≤ m) (hm1 : m ≤ 1000) : ∀ r k : Nat, k + r = 117 → ∀ f, r < f → ∀ τ : q_S, (∀ j, j < k → τ 297 j = 0) → (∀ c, c ≠ 297 → τ c = σ c) → ∃ υ, f_X10_marks_2 f (ab_I s) (ab_I m) (ab_I k) τ = some υ ∧ ab_fl υ (ab_mk (ab_sl D s) m (ab_sl D s 4).toNat 0) ∧ ab_fk σ υ := by
  have h16 := hW.2.2.2.2.2.1
  have h40 := hW.2.2.2.2.1
  intro r
  induction r with
  | zero =>
    intro k hk f hf τ t1 t2
    obtain ⟨f, rfl⟩ : ∃ g, f = g + 1 := ⟨f - 1, by omega⟩
    have hMτ : ab_MR τ 293 0 D := fun j hj => by rw [t2 293 (by decide)]; exact hM j hj
    have p := hW.pos h1 (k := 0) (by omega)
    have p : 0 ≤ ab_sl D s 2 ∧ ab_sl D s 2 ≤ 12 ∧ 0 ≤ ab_sl D s 3 ∧ ab_sl D s 3 ≤ 8 := p
    obtain ⟨u, hu⟩ : ∃ u : Nat, ab_sl D s 2 = u := ⟨(ab_sl D s 2).toNat, by omega⟩
    obtain ⟨v, hv⟩ : ∃ v : Nat, ab_sl D s 3 = v := ⟨(ab_sl D s 3).toNat, by omega⟩
    have e : (13 : Int32) * ab_I v + ab_I u = ab_I ((13 * v + u : Nat) : Int) := by
      rw [show (13 : Int32) = ab_I 13 from rfl, ab_Imul, ab_Iadd]
      exact congrArg ab_I (by omega)
    have hF : ab_fl (q_up τ 297 (13 * v + u) 1) (ab_mk (ab_sl D s) m 0 0) := by
      intro x y hx hy
      by_cases z : x = u ∧ y = v
      · refine .inl ⟨?_, .inl ⟨by rw [hu, z.1], by rw [hv, z.2]⟩⟩
        rw [z.1, z.2, ab_up_at]
      · rw [ab_up_nk (by omega), t1 _ (by omega)]
        refine .inr ⟨rfl, ?_⟩
        rintro (h | ⟨j, b, _, h2, _, h4, _⟩)
        · rw [hu, hv] at h
          omega
        · omega
    obtain ⟨υ, u1, u2, u3⟩ := ab_marks45_lp hs hW hm0 hm1 (ab_sl D s 4).toNat 0 (by omega) q_fu (by unfold q_fu; omega) (q_up τ 297 (13 * v + u) 1) (fun k hk => by rw [ab_up_ne (by decide)]; exact hMτ k hk) hF
    refine ⟨υ, ?_, u2, ⟨fun c a b => by rw [u3.1 c a b, ab_up_ne b, t2 c b], fun k a b => by rw [u3.2 k a b, ab_up_ne (by decide), t2 292 (by decide)]⟩⟩
    rw [f_X10_marks_2, if_pos (by rw [show k = 117 by omega]; decide), (ab_svn hMτ hs).2.2.2.1, Option.bind_some, (ab_svn hMτ hs).2.2.1, Option.bind_some, hu, hv, e, ab_Icl (by omega) (by omega), Int.toNat_natCast, if_neg (by rw [ab_Iltc (by omega) (by omega)]; exact fun h => h.elim id (fun h => by omega)), ab_nar1]
    exact u1
  | succ r ih =>
    intro k hk f hf τ t1 t2
    obtain ⟨f, rfl⟩ : ∃ g, f = g + 1 := ⟨f - 1, by omega⟩
    rw [f_X10_marks_2, if_neg (by rw [show (117 : Int32) = ab_I 117 from rfl, ab_Ile (by omega) (by omega) (by omega) (by omega)]; omega), ab_Icl (by omega) (by omega), Int.toNat_natCast, if_neg (by rw [ab_Iltc (by omega) (by omega)]; exact fun h => h.elim id (fun h => by omega)), ab_nar0, ab_I1]
    refine ih (k + 1) (by omega) f (by omega) _ (fun j hj => ?_) (fun c hc => by rw [ab_up_ne hc]; exact t2 c hc)
    by_cases e : j = k
    · rw [e, ab_up_at]
    · rw [ab_up_nk e]; exact t1 j (by omega)
theorem ab_marks (hM : ab_MR σ 293 0 D) {s : Nat} (hs : s < 5) (hW : ab_WP (ab_sl D s)) (h1 : 1 ≤ ab_sl D s 1) {m : Int} (hm0 : -1 ≤ m) (hm1 : m ≤ 1000) : ∃ υ, f_X10_marks σ (ab_I s) (ab_I m) = some υ ∧ ab_fl υ (fun x y => (x = ab_sl D s 2 ∧ y = ab_sl D s 3) ∨ ab_Mk (ab_sl D s) m x y) ∧ ab_fk σ υ := by
  have h40 := hW.2.2.2.2.1
  obtain ⟨υ, u1, u2, u3⟩ := ab_marks2_lp hM hs hW h1 hm0 hm1 117 0 (by decide) q_fu (by unfold q_fu; omega) σ (fun j hj => absurd hj (by omega)) (fun _ _ => rfl)
  refine ⟨υ, u1, u2.congr (fun x y _ _ => or_congr Iff.rfl ⟨?_, ?_⟩), u3⟩
  · rintro ⟨j, b, g1, g2, g3, g4, g5⟩
    exact ⟨j, b, by omega, g1, g2, g3, g5⟩
  · rintro ⟨j, b, g0, g1, g2, g3, g5⟩
    exact ⟨j, b, g1, g2, g3, .inl (by omega), g5⟩
end
