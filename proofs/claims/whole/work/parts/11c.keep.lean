/-! a change noted, kept, refused -/
section
variable {σ : q_S} {D : Nat → Int} {B : Int}
theorem ab_note (h : ab_CR σ 2 D) (hW : ab_WD B D) : ∃ τ, f_X3_note σ 2 = some τ ∧ ab_CR τ 55 D ∧ ∀ c, c < 55 ∨ 80 ≤ c → τ c = σ c := by
  obtain ⟨τ, h1, h2, h3⟩ := ab_copyD (σ := σ) (z0 := 55) (z1 := 2) (.inr (by omega)) h hW
  refine ⟨τ, ?_, h2, h3⟩
  unfold f_X3_note
  rw [h1]
  rfl
theorem ab_takeBack (h : ab_CR σ 55 D) (hW : ab_WD B D) : ∃ τ, f_X3_takeBack σ 2 = some τ ∧ ab_CR τ 2 D ∧ ∀ c, c < 2 ∨ 27 ≤ c → τ c = σ c := by
  obtain ⟨τ, h1, h2, h3⟩ := ab_copyD (σ := σ) (z0 := 2) (z1 := 55) (.inl (by omega)) h hW
  refine ⟨τ, ?_, h2, h3⟩
  unfold f_X3_takeBack
  rw [h1]
  rfl
/-- one row of the second program's over another -/
theorem ab_row {a b : Nat} (hne : a ≠ b) (h : ab_MR σ a 0 D) : ∃ τ, f_X10_copies σ a 220 0 b 220 0 = some τ ∧ ab_MR τ b 0 D ∧ ∀ c, c ≠ b → τ c = σ c := by
  have e := ab_copies (σ := σ) (c0 := a) (N0 := 220) (c2 := b) (N2 := 220) (a := 0) (b := 0) (by omega) (by omega) (by omega) (by omega) (.inl hne)
  refine ⟨_, e, fun k hk => ?_, fun c hc => ?_⟩
  · show (if b = b ∧ 0 ≤ 0 + k ∧ 0 + k < 0 + 220 then σ a (0 + (0 + k - 0)) else σ b (0 + k)) = _
    rw [if_pos ⟨rfl, by omega, by omega⟩, show 0 + (0 + k - 0) = 0 + k by omega]
    exact h k hk
  · funext k
    rw [if_neg (fun z => hc z.1)]
theorem ab_begins (h : ab_MR σ 293 0 D) : ∃ τ, f_X10_begins σ = some τ ∧ ab_MR τ 294 0 D ∧ ab_MR τ 293 0 D ∧ τ 292 4 = 0 ∧ ab_eq σ τ ∧ ∀ c, c < 292 → τ c = σ c := by
  have h' : ab_MR (q_up σ 292 4 0) 293 0 D := h
  obtain ⟨τ, h1, h2, h3⟩ := ab_row (σ := q_up σ 292 4 0) (a := 293) (b := 294) (by decide) h'
  refine ⟨τ, ?_, h2, ?_, ?_, ?_, fun c hc => ?_⟩
  · unfold f_X10_begins
    rw [h1]
    rfl
  · intro k hk
    rw [h3 293 (by decide)]
    exact h k hk
  · rw [h3 292 (by decide)]
    exact ab_up_at
  · refine (ab_eq.up (σ := σ) (c := 292) (k := 4) (v := 0) (.inr ⟨rfl, .inl rfl⟩)).trans ⟨fun c a b => h3 c (fun e => a (by unfold ab_sc; omega)), fun k _ => by rw [h3 292 (by decide)]⟩
  · rw [h3 c (by omega), ab_up_ne (by omega)]
/-- the class keeps a change -/
def ab_nE (ct : Nat) (E : Nat → Nat → Int) (D : Nat → Int) (k : Nat) : Nat → Int := if ct < 8 then (if k = ct then D else E k) else (if k = 7 then D else E (k + 1))
def ab_n1 (ct : Nat) : Nat := if ct < 8 then ct + 1 else 8
theorem ab_nHw {nx ct : Nat} {E : Nat → Nat → Int} (h : ab_Hw B nx ct E) (hW : ab_WD B D) : ab_Hw B ((nx + 1) % 8) (ab_n1 ct) (ab_nE ct E D) := by
  obtain ⟨h1, h2, h3⟩ := h
  unfold ab_n1
  refine ⟨Nat.mod_lt _ (by decide), by split <;> omega, fun k hk => ?_⟩
  unfold ab_nE
  split at hk
  · rename_i hc
    rw [if_pos hc]
    split
    · exact hW
    · exact h3 k (by omega)
  · rename_i hc
    rw [if_neg hc]
    split
    · exact hW
    · exact h3 (k + 1) (by omega)
theorem ab_mod8 {n : Nat} (h : n < 100) : ab_I n - ab_I n / 8 * 8 = ab_I ((n % 8 : Nat) : Int) := by
  have hh : ∀ n : Fin 100, ab_I (n.val : Nat) - ab_I (n.val : Nat) / 8 * 8 = ab_I ((n.val % 8 : Nat) : Int) := by decide +kernel
  exact hh ⟨n, h⟩
theorem ab_keep {nx ct : Nat} {E : Nat → Nat → Int} (h : ab_Hc σ nx ct E) (hw : ab_Hw B nx ct E) (hb : ab_CR σ 55 D) (hW : ab_WD B D) : ∃ τ, f_X3_keep σ = some τ ∧ ab_Hc τ ((nx + 1) % 8) (ab_n1 ct) (ab_nE ct E D) ∧ ∀ c, (c < 53 ∨ (54 ≤ c ∧ c < 80) ∨ 280 ≤ c) → τ c = σ c := by
  obtain ⟨a1, a2, a3⟩ := h
  obtain ⟨w1, w2, w3⟩ := hw
  obtain ⟨τ, h1, h2, h3⟩ := ab_copyD (σ := σ) (z0 := 80 + 25 * nx) (z1 := 55) (.inr (by omega)) hb hW
  unfold f_X3_keep
  rw [a1, ab_pastAt w1, h1, Option.bind_some, h3 53 (by omega), a1, ab_I1, ab_mod8 (by omega)]
  refine ⟨_, rfl, ⟨?_, ?_, fun k hk => ?_⟩, fun c hc => ?_⟩
  · rw [ab_up_nk (by decide), ab_up_at]
  · rw [ab_up_at, ab_up_nk (by decide), h3 53 (by omega), a2, ab_I1, show (8 : Int32) = ab_I 8 from rfl]
    unfold ab_n1
    by_cases hc : ct < 8
    · rw [if_neg (by rw [ab_Ilt (by omega) (by omega) (by omega) (by omega)]; omega), if_pos hc]
    · rw [if_pos (by rw [ab_Ilt (by omega) (by omega) (by omega) (by omega)]; omega), if_neg hc]
      rfl
  · have hk8 : ((nx + 1) % 8 + 8 - ab_n1 ct + k) % 8 < 8 := Nat.mod_lt _ (by decide)
    unfold ab_nE
    unfold ab_n1 at hk hk8 ⊢
    by_cases hc : ct < 8
    · rw [if_pos hc] at hk hk8 ⊢
      rw [if_pos hc]
      by_cases hkc : k = ct
      · rw [if_pos hkc, show ((nx + 1) % 8 + 8 - (ct + 1) + k) % 8 = nx by omega]
        refine h2.same hW.2.1 (fun c g1 g2 => ?_)
        rw [ab_up_ne (by omega), ab_up_ne (by omega)]
      · rw [if_neg hkc]
        have e : ((nx + 1) % 8 + 8 - (ct + 1) + k) % 8 = (nx + 8 - ct + k) % 8 := by omega
        have hne : (nx + 8 - ct + k) % 8 ≠ nx := by omega
        rw [e] at hk8 ⊢
        refine (a3 k (by omega)).same (w3 k (by omega)).2.1 (fun c g1 g2 => ?_)
        rw [ab_up_ne (by omega), ab_up_ne (by omega), h3 c (by omega)]
    · rw [if_neg hc] at hk hk8 ⊢
      rw [if_neg hc]
      by_cases hkc : k = 7
      · rw [if_pos hkc, show ((nx + 1) % 8 + 8 - 8 + k) % 8 = nx by omega]
        refine h2.same hW.2.1 (fun c g1 g2 => ?_)
        rw [ab_up_ne (by omega), ab_up_ne (by omega)]
      · rw [if_neg hkc]
        have e : ((nx + 1) % 8 + 8 - 8 + k) % 8 = (nx + 8 - ct + (k + 1)) % 8 := by omega
        have hne : (nx + 8 - ct + (k + 1)) % 8 ≠ nx := by omega
        rw [e] at hk8 ⊢
        refine (a3 (k + 1) (by omega)).same (w3 (k + 1) (by omega)).2.1 (fun c g1 g2 => ?_)
        rw [ab_up_ne (by omega), ab_up_ne (by omega), h3 c (by omega)]
  · rw [ab_up_ne (by omega), ab_up_ne (by omega), h3 c (by omega)]
/-- the second program keeps a change: what stands in its row -/
theorem ab_keeps56 {v : Int32} {ct : Nat} {E : Nat → Nat → Int} (h : ab_Hm σ ct E) (hct : ct < 8) (hb : ab_MR σ 294 0 D) : ∃ τ, f_X10_keeps_56 v σ = some (v, τ) ∧ ab_Hm τ (ct + 1) (fun k => if k = ct then D else E k) ∧ (∀ c, c ≠ 292 → c ≠ 296 → τ c = σ c) ∧ ∀ k, k ≠ 5 → τ 292 k = σ 292 k := by
  obtain ⟨a1, a2⟩ := h
  have e := ab_copies (σ := σ) (c0 := 294) (N0 := 220) (c2 := 296) (N2 := 1760) (a := 0) (b := 220 * ct) (by omega) (by omega) (by omega) (by omega) (.inl (by decide))
  unfold f_X10_keeps_56
  have e2 : (220 : Int32) * ab_I ct = ab_I ((220 * ct : Nat) : Int) := by
    rw [show (220 : Int32) = ab_I 220 from rfl, ab_Imul]
    exact congrArg ab_I (by omega)
  rw [a1, e2, show (0 : Int32) = ab_I ((0 : Nat) : Int) from rfl, e, Option.bind_some]
  refine ⟨_, rfl, ⟨?_, fun k hk j hj => ?_⟩, fun c g1 g2 => ?_, fun k hk => ?_⟩
  · rw [ab_up_at]
    simp (disch := decide) only [if_neg, false_and, if_false, (show ¬ (292 : Nat) = 296 by decide)]
    rw [a1, ab_I1]
  · rw [ab_up_ne (by decide)]
    simp only [true_and]
    by_cases hkc : k = ct
    · subst hkc
      rw [if_pos (by omega), if_pos rfl, show 0 + (220 * k + j - 220 * k) = 0 + j by omega]
      exact hb j hj
    · rw [if_neg (by omega), if_neg hkc]
      exact a2 k (by omega) j hj
  · rw [ab_up_ne g1]
    funext j
    rw [if_neg (fun z => g2 z.1)]
  · rw [ab_up_nk hk]
    simp only [(show ¬ (292 : Nat) = 296 by decide), false_and, if_false]
theorem ab_keeps_lp {v : Int32} {E : Nat → Nat → Int} (h0 : σ 292 5 = 8) (hb : ab_MR σ 294 0 D) : ∀ r k : Nat, k + r = 8 → 1 ≤ k → ∀ f, r < f → ∀ τ : q_S, (∀ c, c ≠ 296 → τ c = σ c) → (∀ j : Nat, j < k - 1 → ab_MR τ 296 (220 * j) (E (j + 1))) → (∀ j : Nat, k - 1 ≤ j → j < 8 → ab_MR τ 296 (220 * j) (E j) ) → ∃ υ, f_X10_keeps_11 f v (ab_I k) τ = some (v, υ) ∧ ab_Hm υ 8 (fun k => if k = 7 then D else E (k + 1)) ∧ (∀ c, c ≠ 292 → c ≠ 296 → υ c = σ c) ∧ ∀ k, k ≠ 5 → υ 292 k = σ 292 k := by
  intro r
  induction r with
  | zero =>
    intro k hk hk1 f hf τ g1 g2 g3
    obtain ⟨f, rfl⟩ : ∃ g, f = g + 1 := ⟨f - 1, by omega⟩
    have hk8 : k = 8 := by omega
    subst hk8
    rw [f_X10_keeps_11, if_pos (by rw [show (8 : Int32) = ab_I 8 from rfl, ab_Ile (by omega) (by omega) (by omega) (by omega)]; omega)]
    have hm : ab_Hm (q_up τ 292 5 (τ 292 5 - 1)) 7 (fun j => E (j + 1)) := by
      refine ⟨?_, fun j hj i hi => ?_⟩
      · rw [ab_up_at, g1 292 (by decide), h0]
        rfl
      · rw [ab_up_ne (by decide)]
        exact g2 j (by omega) i hi
    obtain ⟨υ, u1, u2, u3, u4⟩ := ab_keeps56 (v := v) hm (by decide) (D := D) (fun j hj => by rw [ab_up_ne (by decide), g1 294 (by decide)]; exact hb j hj)
    exact ⟨υ, u1, u2, fun c p q => by rw [u3 c p q, ab_up_ne p, g1 c q], fun k hk => by rw [u4 k hk, ab_up_nk hk, g1 292 (by decide)]⟩
  | succ r ih =>
    intro k hk hk1 f hf τ g1 g2 g3
    obtain ⟨f, rfl⟩ : ∃ g, f = g + 1 := ⟨f - 1, by omega⟩
    have e1 : (220 : Int32) * ab_I k = ab_I ((220 * k : Nat) : Int) := by
      rw [show (220 : Int32) = ab_I 220 from rfl, ab_Imul]
      exact congrArg ab_I (by omega)
    have e2 : (220 : Int32) * (ab_I k - 1) = ab_I ((220 * (k - 1) : Nat) : Int) := by
      rw [show (220 : Int32) = ab_I 220 from rfl, show (1 : Int32) = ab_I 1 from rfl, ab_Isub, ab_Imul]
      exact congrArg ab_I (by omega)
    have e := ab_copies (σ := τ) (c0 := 296) (N0 := 1760) (c2 := 296) (N2 := 1760) (a := 220 * k) (b := 220 * (k - 1)) (by omega) (by omega) (by omega) (by omega) (.inr (by omega))
    rw [f_X10_keeps_11, if_neg (by rw [show (8 : Int32) = ab_I 8 from rfl, ab_Ile (by omega) (by omega) (by omega) (by omega)]; omega), e1, e2, e, Option.bind_some, ab_I1]
    refine ih (k + 1) (by omega) (by omega) f (by omega) _ (fun c hc => ?_) (fun j hj i hi => ?_) (fun j hj1 hj2 i hi => ?_)
    · funext i
      rw [if_neg (fun z => hc z.1)]
      rw [g1 c hc]
    · simp only [true_and]
      by_cases hjk : j = k - 1
      · subst hjk
        rw [if_pos (by omega), show 220 * k + (220 * (k - 1) + i - 220 * (k - 1)) = 220 * k + i by omega, show k - 1 + 1 = k by omega]
        exact g3 k (by omega) (by omega) i hi
      · rw [if_neg (by omega)]
        exact g2 j (by omega) i hi
    · simp only [true_and]
      rw [if_neg (by omega)]
      exact g3 j (by omega) hj2 i hi
theorem ab_keeps {v : Int32} {ct : Nat} {E : Nat → Nat → Int} (h : ab_Hm σ ct E) (hct : ct ≤ 8) (hb : ab_MR σ 294 0 D) : ∃ τ, f_X10_keeps σ v = some (v, τ) ∧ ab_Hm τ (ab_n1 ct) (ab_nE ct E D) ∧ (∀ c, c ≠ 292 → c ≠ 296 → τ c = σ c) ∧ ∀ k, k ≠ 5 → τ 292 k = σ 292 k := by
  unfold f_X10_keeps ab_n1 ab_nE
  rw [h.1]
  by_cases hc : ct < 8
  · rw [if_neg (by rw [show (8 : Int32) = ab_I 8 from rfl, ab_Ieq (by omega) (by omega) (by omega) (by omega)]; omega)]
    simp only [if_pos hc]
    exact ab_keeps56 h hc hb
  · have h8 : ct = 8 := by omega
    subst h8
    rw [if_pos (show ab_I ((8 : Nat) : Int) = 8 from rfl)]
    simp only [if_neg hc]
    exact ab_keeps_lp (E := E) h.1 hb 7 1 (by decide) (by decide) q_fu (by unfold q_fu; omega) σ (fun _ _ => rfl) (fun j hj => absurd hj (by omega)) (fun j _ hj => h.2 j hj)
theorem ab_refused {w : Int32} : ∃ τ, f_X10_refused σ w = (0, τ) ∧ τ 292 8 = σ 292 6 ∧ τ 292 9 = σ 292 7 ∧ τ 292 10 = 0 ∧ τ 292 4 = w ∧ (∀ c, c ≠ 292 → τ c = σ c) ∧ ∀ k, k ≠ 4 → (k < 8 ∨ 11 ≤ k) → τ 292 k = σ 292 k := by
  refine ⟨q_up (q_up (q_up (q_up σ 292 8 (σ 292 6)) 292 9 (σ 292 7)) 292 10 0) 292 4 w, rfl, rfl, rfl, rfl, rfl, fun c hc => ?_, fun k h1 h2 => ?_⟩
  · rw [ab_up_ne hc, ab_up_ne hc, ab_up_ne hc, ab_up_ne hc]
  · rw [ab_up_nk h1, ab_up_nk (by omega), ab_up_nk (by omega), ab_up_nk (by omega)]
end
