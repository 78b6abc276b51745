/-! owners at any place; lines -/
def ab_oa (D : Nat → Int) (x y : Int) : Int := if (0 ≤ x ∧ x ≤ 11) ∧ (0 ≤ y ∧ y ≤ 7) then ab_ow D x y 0 else -1
section
variable {σ τ : q_S} {D : Nat → Int} {B : Int}
theorem ab_isCell {x y : Int} (hx0 : -1000 ≤ x) (hx1 : x ≤ 1000) (hy0 : -1000 ≤ y) (hy1 : y ≤ 1000) : f_X9_isCell (ab_I x) (ab_I y) = if (0 ≤ x ∧ x ≤ 11) ∧ (0 ≤ y ∧ y ≤ 7) then 1 else 0 := by
  unfold f_X9_isCell
  rw [show f_X9_isFrom (ab_I x) 0 11 = _ from ab_isFrom (a := x) (b := 0) (c := 11) (by omega) (by omega) (by omega) (by omega) (by omega) (by omega), show f_X9_isFrom (ab_I y) 0 7 = _ from ab_isFrom (a := y) (b := 0) (c := 7) (by omega) (by omega) (by omega) (by omega) (by omega) (by omega)]
  by_cases q : 0 ≤ x ∧ x ≤ 11
  · by_cases q2 : 0 ≤ y ∧ y ≤ 7
    · rw [if_pos q, if_pos q2, if_neg (show ¬ ab_I 1 = 0 by decide), if_neg (show ¬ ab_I 1 = 0 by decide), if_pos (show (0 ≤ x ∧ x ≤ 11) ∧ (0 ≤ y ∧ y ≤ 7) from ⟨q, q2⟩)]
    · rw [if_pos q, if_neg q2, if_neg (show ¬ ab_I 1 = 0 by decide), if_pos (show ab_I 0 = 0 from rfl), if_neg (fun z : (0 ≤ x ∧ x ≤ 11) ∧ (0 ≤ y ∧ y ≤ 7) => q2 z.2)]
  · rw [if_neg q, if_pos (show ab_I 0 = 0 from rfl), if_neg (fun z : (0 ≤ x ∧ x ≤ 11) ∧ (0 ≤ y ∧ y ≤ 7) => q z.1)]
theorem ab_ownerC (h : ∀ y x : Nat, x < 12 → y < 8 → τ 281 (12 * y + x) = ab_I (ab_ow D x y 0)) {x y : Int} (hx0 : -1000 ≤ x) (hx1 : x ≤ 1000) (hy0 : -1000 ≤ y) (hy1 : y ≤ 1000) : f_X0_ownerAt τ (ab_I x) (ab_I y) = ab_I (ab_oa D x y) := by
  unfold f_X0_ownerAt ab_oa
  rw [ab_isCell hx0 hx1 hy0 hy1]
  by_cases q : (0 ≤ x ∧ x ≤ 11) ∧ (0 ≤ y ∧ y ≤ 7)
  · obtain ⟨a, ha⟩ : ∃ a : Nat, x = a := ⟨x.toNat, by omega⟩
    obtain ⟨b, hb⟩ : ∃ b : Nat, y = b := ⟨y.toNat, by omega⟩
    subst ha hb
    have e : ab_I (b : Int) * 12 + ab_I a = ab_I ((12 * b + a : Nat) : Int) := by
      rw [show (12 : Int32) = ab_I 12 from rfl, ab_Imul, ab_Iadd]
      exact congrArg ab_I (by omega)
    rw [if_pos q, if_pos q, if_neg (show ¬ ((1 : Int32) = 0) by decide), e, ab_at (by omega) (by decide), h b a (by omega) (by omega)]
  · rw [if_neg q, if_neg q, if_pos rfl]
    rfl
theorem ab_ownerR (hM : ab_MR σ 293 0 D) (hW : ab_WD B D) {x y : Int} (hx0 : -1000 ≤ x) (hx1 : x ≤ 1000) (hy0 : -1000 ≤ y) (hy1 : y ≤ 1000) : f_X10_ownerAt σ (ab_I x) (ab_I y) = some (ab_I (ab_oa D x y)) := by
  unfold f_X10_ownerAt ab_oa
  rw [ab_cell_eq, ab_isCell hx0 hx1 hy0 hy1]
  by_cases q : (0 ≤ x ∧ x ≤ 11) ∧ (0 ≤ y ∧ y ≤ 7)
  · rw [if_pos q, if_pos q, if_neg (show ¬ ((1 : Int32) = 0) by decide), show f_X10_ownerIn σ (ab_I x) (ab_I y) 0 = _ from ab_ownerIn hM hW (h := 0) hx0 hx1 hy0 hy1 (by decide) (by decide), Option.bind_some]
  · rw [if_neg q, if_neg q, if_pos rfl]
    rfl
theorem ab_oa_b (hW : ab_WD B D) (x y : Int) : ab_oa D x y = -1 ∨ ∃ s : Nat, (s : Int) < D 0 ∧ s < 5 ∧ ab_oa D x y = s := by
  unfold ab_oa
  split
  · exact ab_ow_b hW x y 0
  · exact .inl rfl
theorem ab_nar {z : Nat} (h : z < 65536) : ((ab_I z).toUInt32 % 65536).toInt32 = ab_I z ∧ vp_nar .char (ab_I z) = ab_I z := by
  have hx : ((ab_I z).toUInt32 % 65536).toInt32 = ab_I z := by
    have e4 : (ab_I (z : Int)).toUInt32.toNat = z := by
      show (BitVec.ofInt 32 (z : Int)).toNat = z
      rw [BitVec.toNat_ofInt]
      omega
    rw [← Int32.toInt_inj, ab_Iint (by omega) (by omega)]
    show ((ab_I (z : Int)).toUInt32 % 65536).toBitVec.toInt = _
    have e5 : ((ab_I (z : Int)).toUInt32 % 65536).toNat = z := by
      rw [UInt32.toNat_mod, e4]
      exact Nat.mod_eq_of_lt h
    rw [BitVec.toInt_eq_toNat_of_lt (by show 2 * ((ab_I (z : Int)).toUInt32 % 65536).toNat < 2 ^ 32; omega)]
    show (((ab_I (z : Int)).toUInt32 % 65536).toNat : Int) = _
    rw [e5]
  refine ⟨hx, ?_⟩
  unfold vp_nar
  rw [q_cn hx]
/-- the line: in the one program, in the other -/
def ab_Lc (σ : q_S) (n : Nat) (l : Nat → Nat) : Prop := σ 290 1 = ab_I n ∧ ∀ k, k < n → σ 291 k = ab_I (l k)
def ab_Lr (σ : q_S) (n : Nat) (l : Nat → Nat) : Prop := σ 292 29 = ab_I n ∧ ∀ k, k < n → σ 302 k = ab_I (l k)
def ab_fLc (σ τ : q_S) : Prop := ∀ c, c ≠ 290 → c ≠ 291 → τ c = σ c
def ab_fLr (σ τ : q_S) : Prop := (∀ c, c ≠ 292 → c ≠ 302 → τ c = σ c) ∧ ∀ k, k ≠ 29 → τ 292 k = σ 292 k
theorem ab_putL {n v : Nat} {l : Nat → Nat} (h : ab_Lc σ n l) (hn : n < 39) (hv : v < 65536) (hl : l n = v) : ∃ υ, f_X4_put σ (ab_I v) = some υ ∧ ab_Lc υ (n + 1) l ∧ ab_fLc σ υ := by
  unfold f_X4_put
  rw [h.1, if_neg (show ¬ ab_I (n : Int) < 0 by rw [ab_Iltc (by omega) (by omega)]; exact id), if_neg (by rw [show (39 : Int32) = ab_I 39 from rfl, ab_Ile (by omega) (by omega) (by omega) (by omega)]; omega), ab_Icl (by omega) (by omega), Int.toNat_natCast, if_neg (by rw [ab_Iltc (by omega) (by omega)]; exact fun h => h.elim id (fun h => by omega)), (ab_nar hv).2, ab_up_ne (show (290 : Nat) ≠ 291 by decide), h.1, ab_I1]
  refine ⟨_, rfl, ⟨ab_up_at, fun k hk => ?_⟩, fun c h1 h2 => ?_⟩
  · rw [ab_up_ne (by decide)]
    by_cases e : k = n
    · subst e; rw [ab_up_at, hl]
    · rw [ab_up_nk e]; exact h.2 k (by omega)
  · rw [ab_up_ne h1, ab_up_ne h2]
theorem ab_writeL {n v : Nat} {l : Nat → Nat} (h : ab_Lr σ n l) (hn : n < 60) (hl : l n = v) : ∃ υ, f_X10_writes σ (ab_I v) = some υ ∧ ab_Lr υ (n + 1) l ∧ ab_fLr σ υ := by
  unfold f_X10_writes
  rw [h.1, ab_Icl (by omega) (by omega), Int.toNat_natCast, if_neg (by rw [ab_Iltc (by omega) (by omega)]; exact fun h => h.elim id (fun h => by omega)), ab_up_ne (show (292 : Nat) ≠ 302 by decide), h.1, ab_I1]
  refine ⟨_, rfl, ⟨ab_up_at, fun k hk => ?_⟩, fun c h1 h2 => ?_, fun k hk => ?_⟩
  · rw [ab_up_ne (by decide)]
    by_cases e : k = n
    · subst e; rw [ab_up_at, hl]
    · rw [ab_up_nk e]; exact h.2 k (by omega)
  · rw [ab_up_ne h1, ab_up_ne h2]
  · rw [ab_up_nk hk, ab_up_ne (by decide)]
theorem ab_fLc.trans {υ : q_S} (h : ab_fLc σ τ) (g : ab_fLc τ υ) : ab_fLc σ υ := fun c a b => (g c a b).trans (h c a b)
theorem ab_fLr.trans {υ : q_S} (h : ab_fLr σ τ) (g : ab_fLr τ υ) : ab_fLr σ υ := ⟨fun c a b => (g.1 c a b).trans (h.1 c a b), fun k a => (g.2 k a).trans (h.2 k a)⟩
/-- the letter of a cell in a row -/
def ab_sh (D : Nat → Int) (y : Int) (k : Nat) : Nat := if ab_oa D k y = -1 then 46 else (48 + ab_oa D k y).toNat
theorem ab_showC_lp (h : ∀ y x : Nat, x < 12 → y < 8 → σ 281 (12 * y + x) = ab_I (ab_ow D x y 0)) (hW : ab_WD B D) {y : Nat} (hy : y < 8) : ∀ r k : Nat, k + r = 12 → ∀ f, r < f → ∀ τ : q_S, ab_Lc τ k (ab_sh D y) → ab_fLc σ τ → ∃ υ, f_X9_show_40 f (ab_I y) (ab_I k) τ = some (0, ab_I 12, υ) ∧ ab_Lc υ 12 (ab_sh D y) ∧ ab_fLc σ υ := by
  intro r
  induction r with
  | zero =>
    intro k hk f hf τ hL hf2
    obtain ⟨f, rfl⟩ : ∃ g, f = g + 1 := ⟨f - 1, by omega⟩
    have : k = 12 := by omega
    subst this
    rw [f_X9_show_40, if_pos (show (12 : Int32) ≤ ab_I ((12 : Nat) : Int) by decide), hL.1]
    exact ⟨τ, rfl, hL, hf2⟩
  | succ r ih =>
    intro k hk f hf τ hL hf2
    obtain ⟨f, rfl⟩ : ∃ g, f = g + 1 := ⟨f - 1, by omega⟩
    have h2 : ∀ y x : Nat, x < 12 → y < 8 → τ 281 (12 * y + x) = ab_I (ab_ow D x y 0) := fun y x a b => by rw [hf2 281 (by decide) (by decide)]; exact h y x a b
    rw [f_X9_show_40, if_neg (by rw [show (12 : Int32) = ab_I 12 from rfl, ab_Ile (by omega) (by omega) (by omega) (by omega)]; omega), ab_ownerC h2 (x := k) (y := y) (by omega) (by omega) (by omega) (by omega)]
    rcases ab_oa_b hW k y with q | ⟨s, s1, s2, q⟩
    · obtain ⟨υ, u1, u2, u3⟩ := ab_putL hL (v := 46) (by omega) (by decide) (by unfold ab_sh; rw [if_pos q])
      rw [if_pos (by rw [q]; rfl), show f_X4_put τ 46 = _ from u1, Option.bind_some, ab_I1]
      exact ih (k + 1) (by omega) f (by omega) υ u2 (hf2.trans u3)
    · obtain ⟨υ, u1, u2, u3⟩ := ab_putL hL (v := 48 + s) (by omega) (by omega) (by unfold ab_sh; rw [if_neg (by omega), q]; omega)
      rw [q, if_neg (by rw [show (-1 : Int32) = ab_I (-1) from rfl, ab_Ieq (by omega) (by omega) (by omega) (by omega)]; omega)]
      unfold f_X4_putNumber f_X4_putNumber_18
      have e1 : ab_I (s : Int) - ab_I s / 10 * 10 = ab_I s := (ab_Imod (a := s) (b := 10) (by omega) (by omega) (by omega) (by omega)).trans (congrArg ab_I (by omega))
      have e2 : (48 : Int32) + ab_I s = ab_I ((48 + s : Nat) : Int) := by
        rw [show (48 : Int32) = ab_I 48 from rfl, ab_Iadd]
        exact congrArg ab_I (by omega)
      rw [if_pos (by rw [show (10 : Int32) = ab_I 10 from rfl, ab_Ilt (by omega) (by omega) (by omega) (by omega)]; omega), e1, e2, (ab_nar (by omega)).1, u1, Option.bind_some, Option.bind_some, ab_I1]
      exact ih (k + 1) (by omega) f (by omega) υ u2 (hf2.trans u3)
theorem ab_showR_lp (hM : ab_MR σ 293 0 D) (hW : ab_WD B D) {y : Nat} (hy : y < 8) : ∀ r k : Nat, k + r = 12 → ∀ f, r < f → ∀ τ : q_S, ab_Lr τ k (ab_sh D y) → ab_fLr σ τ → ∃ υ, f_X10_show_35 f (ab_I y) (ab_I k) τ = some (ab_I 12, υ) ∧ ab_Lr υ 12 (ab_sh D y) ∧ ab_fLr σ υ := by
  intro r
  induction r with
  | zero =>
    intro k hk f hf τ hL hf2
    obtain ⟨f, rfl⟩ : ∃ g, f = g + 1 := ⟨f - 1, by omega⟩
    have : k = 12 := by omega
    subst this
    rw [f_X10_show_35, if_pos (show (12 : Int32) ≤ ab_I ((12 : Nat) : Int) by decide), hL.1]
    exact ⟨τ, rfl, hL, hf2⟩
  | succ r ih =>
    intro k hk f hf τ hL hf2
    obtain ⟨f, rfl⟩ : ∃ g, f = g + 1 := ⟨f - 1, by omega⟩
    have hM2 : ab_MR τ 293 0 D := fun j hj => by rw [hf2.1 293 (by decide) (by decide)]; exact hM j hj
    rw [f_X10_show_35, if_neg (by rw [show (12 : Int32) = ab_I 12 from rfl, ab_Ile (by omega) (by omega) (by omega) (by omega)]; omega), ab_ownerR hM2 hW (x := k) (y := y) (by omega) (by omega) (by omega) (by omega), Option.bind_some, Option.bind_some]
    rcases ab_oa_b hW k y with q | ⟨s, s1, s2, q⟩
    · obtain ⟨υ, u1, u2, u3⟩ := ab_writeL hL (v := 46) (by omega) (by unfold ab_sh; rw [if_pos q])
      rw [q, if_neg (show ¬ 0 ≤ ab_I (-1) by decide), show f_X10_writes τ 46 = _ from u1, Option.bind_some, ab_I1]
      exact ih (k + 1) (by omega) f (by omega) υ u2 (hf2.trans u3)
    · obtain ⟨υ, u1, u2, u3⟩ := ab_writeL hL (v := 48 + s) (by omega) (by unfold ab_sh; rw [if_neg (by omega), q]; omega)
      have e2 : (48 : Int32) + ab_I s = ab_I ((48 + s : Nat) : Int) := by
        rw [show (48 : Int32) = ab_I 48 from rfl, ab_Iadd]
        exact congrArg ab_I (by omega)
      rw [q, if_pos (by rw [show (0 : Int32) = ab_I 0 from rfl, ab_Ile (by omega) (by omega) (by omega) (by omega)]; omega), e2, u1, Option.bind_some, ab_I1]
      exact ih (k + 1) (by omega) f (by omega) υ u2 (hf2.trans u3)
/-- a line written by both -/
theorem ab_line {t : Nat} {τ' υ : q_S} {n : Nat} {l : Nat → Nat} (hI : ab_Inv t σ) (hn : n ≤ 39) (hl : ∀ k, k < n → l k < 65536) (h1 : ab_Lc υ n l) (h2 : ab_Lr υ n l) (g : ∀ c, ¬ ab_sc c → c ≠ 292 → c ≠ 290 → c ≠ 291 → c ≠ 302 → υ c = σ c) (k : ∀ k, ¬ ab_sf k → k ≠ 29 → υ 292 k = σ 292 k) : ab_Inv (t + 1) υ := by
  obtain ⟨D, hA, hH, hS, hR, hm, hT, hL⟩ := hI
  unfold ab_sc at g
  unfold ab_sf at k
  refine ⟨D, hA.same (by omega) (fun c a b => g c (by omega) (by omega) (by omega) (by omega) (by omega)) (g _ (by omega) (by omega) (by omega) (by omega) (by omega)), hH.same (by omega) (g _ (by omega) (by omega) (by omega) (by omega) (by omega)) (k _ (by omega) (by omega)) (fun c a b => g c (by omega) (by omega) (by omega) (by omega) (by omega)) (g _ (by omega) (by omega) (by omega) (by omega) (by omega)), hS.same (by omega) (by rw [g 0 (by omega) (by omega) (by omega) (by omega) (by omega)]) (k _ (by omega) (by omega)) (fun c a b => g c (by omega) (by omega) (by omega) (by omega) (by omega)) (g _ (by omega) (by omega) (by omega) (by omega) (by omega)), hR.same (g _ (by omega) (by omega) (by omega) (by omega) (by omega)) (fun j a b => k j (by omega) (by omega)), ?_, hT.same (by rw [g 0 (by omega) (by omega) (by omega) (by omega) (by omega)]) (k _ (by omega) (by omega)) (g _ (by omega) (by omega) (by omega) (by omega) (by omega)) (g _ (by omega) (by omega) (by omega) (by omega) (by omega)), n, hn, h1.1, h2.1, fun j hj => ?_⟩
  · rw [g 0 (by omega) (by omega) (by omega) (by omega) (by omega), k 12 (by omega) (by omega)]
    exact hm
  · have := hl j hj
    rw [h1.2 j hj, h2.2 j hj, ab_Iint (by omega) (by omega)]
    exact ⟨rfl, by omega, by omega⟩
end
theorem ab_ok_27 {t : Nat} {σ : q_S} (hI : ab_Inv t σ) (_ht : t < 512) (a b c : Int32) : w_ok_27 σ a b c (ab_Inv (t + 1)) := by
  have hI2 := hI
  obtain ⟨D, ⟨hC, hM, hW⟩, hO⟩ := hI
  unfold w_ok_27
  rcases ab_from (a := a) 0 7 (by decide) (by decide) (by decide) (by decide) with q | ⟨q, y, y0, y7, rfl⟩
  · have q : f_X9_isFrom a 0 7 = 0 := q
    refine ⟨1, 0, 0, σ, q_up σ 292 4 1, ?_, .inr rfl, ?_, rfl, fun z => absurd z (by decide), ab_sI hI2 1⟩
    · unfold f_X9_show f_X9_isCell
      rw [if_neg (show ¬ f_X9_isFrom 0 0 11 = 0 by decide), q, if_pos rfl, if_pos rfl]
    · unfold f_X10_show
      rw [ab_in_from, q, if_pos rfl]
      unfold f_X10_show_16
      rw [ab_up_at, if_neg (show ¬ ((1 : Int32) ≤ 0) by decide)]
  · have q : f_X9_isFrom (ab_I y) 0 7 = 1 := q
    obtain ⟨m, rfl⟩ : ∃ m : Nat, y = m := ⟨y.toNat, by omega⟩
    obtain ⟨τ, t1, t2, t3, t4⟩ := ab_survey hC hW (h := 0) (by decide) (by decide)
    have h2 : ∀ y x : Nat, x < 12 → y < 8 → q_up τ 290 1 0 281 (12 * y + x) = ab_I (ab_ow D x y 0) := fun y x a b => by rw [ab_up_ne (by decide)]; exact t2 y x a b
    obtain ⟨τ2, u1, u2, u3⟩ := ab_showC_lp h2 hW (y := m) (by omega) 12 0 (by decide) q_fu (by unfold q_fu; omega) (q_up τ 290 1 0) ⟨ab_up_at, fun k hk => absurd hk (by omega)⟩ (fun _ _ _ => rfl)
    have lo : ∀ c, c ≠ 290 → c ≠ 291 → c ≠ 281 → c ≠ 282 → τ2 c = σ c := fun c a b d e => by rw [u3 c a b, ab_up_ne a, t4 c d e]
    have hMτ : ab_MR (q_up (q_up τ2 292 4 0) 292 29 0) 293 0 D := fun k hk => by rw [ab_up_ne (by decide), ab_up_ne (by decide), lo 293 (by decide) (by decide) (by decide) (by decide)]; exact hM k hk
    obtain ⟨υ, v1, v2, v3, v4⟩ := ab_showR_lp hMτ hW (y := m) (by omega) 12 0 (by decide) q_fu (by unfold q_fu; omega) (q_up (q_up τ2 292 4 0) 292 29 0) ⟨ab_up_at, fun k hk => absurd hk (by omega)⟩ ⟨fun _ _ _ => rfl, fun _ _ => rfl⟩
    have hsh : ∀ k, k < 12 → ab_sh D m k < 65536 := fun k hk => by
      unfold ab_sh
      split
      · decide
      · rcases ab_oa_b hW k m with q | ⟨s, s1, s2, q⟩ <;> omega
    refine ⟨0, ab_I 12, ab_I 12, τ2, υ, ?_, .inl rfl, ?_, ?_, fun _ => rfl, ab_line (τ' := υ) hI2 (n := 12) (l := ab_sh D m) (by decide) hsh ⟨?_, fun k hk => ?_⟩ v2 (fun c g1 g2 g3 g4 g5 => ?_) (fun k g1 g2 => ?_)⟩
    · unfold f_X9_show f_X9_isCell f_X4_clear
      rw [if_neg (show ¬ f_X9_isFrom 0 0 11 = 0 by decide), q, if_neg (show ¬ ((1 : Int32) = 0) by decide), if_neg (show ¬ ((1 : Int32) = 0) by decide), show f_X0_survey σ 2 0 = _ from t1, Option.bind_some]
      exact u1
    · unfold f_X10_show
      rw [ab_in_from, q, if_neg (show ¬ ((1 : Int32) = 0) by decide)]
      unfold f_X10_show_16
      rw [ab_up_at, if_pos (show (0 : Int32) ≤ 0 by decide)]
      exact v1
    · show υ 292 4 = _
      rw [v4 4 (by decide), ab_up_nk (by decide), ab_up_at]
      rfl
    · rw [v3 290 (by decide) (by decide), ab_up_ne (by decide), ab_up_ne (by decide)]
      exact u2.1
    · rw [v3 291 (by decide) (by decide), ab_up_ne (by decide), ab_up_ne (by decide)]
      exact u2.2 k hk
    · unfold ab_sc at g1
      rw [v3 c g2 g5, ab_up_ne g2, ab_up_ne g2, lo c g3 g4 (by omega) (by omega)]
    · unfold ab_sf at g1
      rw [v4 k g2, ab_up_nk g2, ab_up_nk (by omega), lo 292 (by decide) (by decide) (by decide) (by decide)]
