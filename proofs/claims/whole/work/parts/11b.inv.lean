/-! what holds between two calls -/
def ab_A (B : Int) (σ : q_S) (D : Nat → Int) : Prop := ab_CR σ 2 D ∧ ab_MR σ 293 0 D ∧ ab_WD B D
/-- the changes that can be taken back: in the one program's ring, in the other's row -/
def ab_Hc (σ : q_S) (nx ct : Nat) (E : Nat → Nat → Int) : Prop := σ 53 2 = ab_I nx ∧ σ 53 3 = ab_I ct ∧ ∀ k, k < ct → ab_CR σ (80 + 25 * ((nx + 8 - ct + k) % 8)) (E k)
def ab_Hm (σ : q_S) (ct : Nat) (E : Nat → Nat → Int) : Prop := σ 292 5 = ab_I ct ∧ ∀ k, k < ct → ab_MR σ 296 (220 * k) (E k)
def ab_Hw (B : Int) (nx ct : Nat) (E : Nat → Nat → Int) : Prop := nx < 8 ∧ ct ≤ 8 ∧ ∀ k, k < ct → ab_WD B (E k)
def ab_H (B : Int) (σ : q_S) : Prop := ∃ (nx ct : Nat) (E : Nat → Nat → Int), ab_Hc σ nx ct E ∧ ab_Hm σ ct E ∧ ab_Hw B nx ct E
def ab_Sn (B : Int) (σ : q_S) : Prop := (σ 0 4 = 0 ∧ σ 292 13 = 0) ∨ (σ 0 4 = 1 ∧ σ 292 13 = 1 ∧ ∃ D, ab_CR σ 28 D ∧ ab_MR σ 295 0 D ∧ ab_WD B D)
def ab_R (σ : q_S) : Prop := σ 27 0 = σ 292 8 ∧ σ 27 1 = σ 292 9 ∧ σ 27 2 = σ 292 10 ∧ (σ 27 2 ≠ 0 → σ 27 3 = σ 292 11)
def ab_T (σ : q_S) : Prop := ∃ n : Nat, n ≤ 60 ∧ σ 0 8 = ab_I n ∧ σ 292 22 = ab_I n ∧ ∀ k, k < n → σ 283 k = σ 299 k ∧ 0 ≤ (σ 299 k).toInt ∧ (σ 299 k).toInt ≤ 65535
def ab_L (σ : q_S) : Prop := ∃ n : Nat, n ≤ 39 ∧ σ 290 1 = ab_I n ∧ σ 292 29 = ab_I n ∧ ∀ k, k < n → σ 291 k = σ 302 k ∧ 0 ≤ (σ 302 k).toInt ∧ (σ 302 k).toInt ≤ 65535
def ab_O (B : Int) (σ : q_S) : Prop := ab_H B σ ∧ ab_Sn B σ ∧ ab_R σ ∧ σ 0 10 = σ 292 12 ∧ ab_T σ ∧ ab_L σ
def ab_Inv (t : Nat) (σ : q_S) : Prop := ∃ D, ab_A (200 * t) σ D ∧ ab_O (200 * t) σ
theorem ab_WD.mono {B B2 : Int} {D : Nat → Int} (h : ab_WD B D) (hB : B ≤ B2) : ab_WD B2 D := by
  obtain ⟨h1, h2, h3, h4, h5, h6, h7, h8, h9, h10⟩ := h
  exact ⟨h1, h2, h3, h4, h5, by omega, h7, by omega, h9, h10⟩
theorem ab_A.same {B B2 : Int} {σ τ : q_S} {D : Nat → Int} (h : ab_A B σ D) (hB : B ≤ B2) (h1 : ∀ c, 2 ≤ c → c < 27 → τ c = σ c) (h2 : τ 293 = σ 293) : ab_A B2 τ D :=
  ⟨h.1.same h.2.2.2.1 h1, fun k hk => by rw [h2]; exact h.2.1 k hk, h.2.2.mono hB⟩
theorem ab_Hc.same {B : Int} {σ τ : q_S} {nx ct : Nat} {E : Nat → Nat → Int} (h : ab_Hc σ nx ct E) (hw : ab_Hw B nx ct E) (h1 : τ 53 = σ 53) (h3 : ∀ c, 80 ≤ c → c < 280 → τ c = σ c) : ab_Hc τ nx ct E := by
  obtain ⟨a1, a2, a3⟩ := h
  refine ⟨by rw [h1]; exact a1, by rw [h1]; exact a2, fun k hk => (a3 k hk).same (hw.2.2 k hk).2.1 (fun c g1 g2 => ?_)⟩
  have hm : (nx + 8 - ct + k) % 8 < 8 := Nat.mod_lt _ (by decide)
  exact h3 c (by omega) (by omega)
theorem ab_Hm.same {σ τ : q_S} {ct : Nat} {E : Nat → Nat → Int} (h : ab_Hm σ ct E) (h2 : τ 292 5 = σ 292 5) (h4 : τ 296 = σ 296) : ab_Hm τ ct E :=
  ⟨h2.trans h.1, fun k hk j hj => by rw [h4]; exact h.2 k hk j hj⟩
theorem ab_Hw.mono {B B2 : Int} {nx ct : Nat} {E : Nat → Nat → Int} (h : ab_Hw B nx ct E) (hB : B ≤ B2) : ab_Hw B2 nx ct E := ⟨h.1, h.2.1, fun k hk => (h.2.2 k hk).mono hB⟩
theorem ab_H.same {B B2 : Int} {σ τ : q_S} (h : ab_H B σ) (hB : B ≤ B2) (h1 : τ 53 = σ 53) (h2 : τ 292 5 = σ 292 5) (h3 : ∀ c, 80 ≤ c → c < 280 → τ c = σ c) (h4 : τ 296 = σ 296) : ab_H B2 τ := by
  obtain ⟨nx, ct, E, a1, a2, a3⟩ := h
  exact ⟨nx, ct, E, a1.same a3 h1 h3, a2.same h2 h4, a3.mono hB⟩
theorem ab_Sn.same {B B2 : Int} {σ τ : q_S} (h : ab_Sn B σ) (hB : B ≤ B2) (h1 : τ 0 4 = σ 0 4) (h2 : τ 292 13 = σ 292 13) (h3 : ∀ c, 28 ≤ c → c < 53 → τ c = σ c) (h4 : τ 295 = σ 295) : ab_Sn B2 τ := by
  rcases h with ⟨a1, a2⟩ | ⟨a1, a2, D, b1, b2, b3⟩
  · exact .inl ⟨h1.trans a1, h2.trans a2⟩
  · exact .inr ⟨h1.trans a1, h2.trans a2, D, b1.same b3.2.1 (fun c g1 g2 => h3 c (by omega) (by omega)), fun j hj => by rw [h4]; exact b2 j hj, b3.mono hB⟩
theorem ab_R.same {σ τ : q_S} (h : ab_R σ) (h1 : τ 27 = σ 27) (h2 : ∀ k, 8 ≤ k → k < 12 → τ 292 k = σ 292 k) : ab_R τ := by
  unfold ab_R at *
  rw [h1, h2 8 (by decide) (by decide), h2 9 (by decide) (by decide), h2 10 (by decide) (by decide), h2 11 (by decide) (by decide)]
  exact h
theorem ab_T.same {σ τ : q_S} (h : ab_T σ) (h1 : τ 0 8 = σ 0 8) (h2 : τ 292 22 = σ 292 22) (h3 : τ 283 = σ 283) (h4 : τ 299 = σ 299) : ab_T τ := by
  unfold ab_T at *
  rw [h1, h2, h3, h4]
  exact h
theorem ab_L.same {σ τ : q_S} (h : ab_L σ) (h1 : τ 290 = σ 290) (h2 : τ 292 29 = σ 292 29) (h3 : τ 291 = σ 291) (h4 : τ 302 = σ 302) : ab_L τ := by
  unfold ab_L at *
  rw [h1, h2, h3, h4]
  exact h
/-- cells that no call reads as another call left them -/
def ab_sc (c : Nat) : Prop := (55 ≤ c ∧ c < 80) ∨ (280 ≤ c ∧ c < 283) ∨ (284 ≤ c ∧ c < 290) ∨ c = 294 ∨ c = 297 ∨ c = 298 ∨ c = 300 ∨ c = 301
def ab_sf (k : Nat) : Prop := k = 4 ∨ k = 6 ∨ k = 7 ∨ (14 ≤ k ∧ k < 18) ∨ (23 ≤ k ∧ k < 28)
/-- all that counts is as it was -/
def ab_eq (σ τ : q_S) : Prop := (∀ c, ¬ ab_sc c → c ≠ 292 → τ c = σ c) ∧ ∀ k, ¬ ab_sf k → τ 292 k = σ 292 k
theorem ab_eq.rf {σ : q_S} : ab_eq σ σ := ⟨fun _ _ _ => rfl, fun _ _ => rfl⟩
theorem ab_eq.trans {σ τ υ : q_S} (h : ab_eq σ τ) (g : ab_eq τ υ) : ab_eq σ υ := ⟨fun c a b => (g.1 c a b).trans (h.1 c a b), fun k a => (g.2 k a).trans (h.2 k a)⟩
theorem ab_eq.up {σ : q_S} {c k : Nat} {v : Int32} (h : ab_sc c ∨ (c = 292 ∧ ab_sf k)) : ab_eq σ (q_up σ c k v) := by
  refine ⟨fun c2 a b => ab_up_ne (fun e => ?_), fun k2 a => ?_⟩
  · subst e
    rcases h with h | h
    · exact a h
    · exact b h.1
  · rw [ab_up]
    split
    · split
      · rcases h with h | h
        · subst c; exact absurd h (by unfold ab_sc; omega)
        · subst k2; exact absurd h.2 a
      · subst c; rfl
    · rfl
theorem ab_O.same {B B2 : Int} {σ τ : q_S} (h : ab_O B σ) (hB : B ≤ B2) (he : ab_eq σ τ) : ab_O B2 τ := by
  obtain ⟨h1, h2, h3, h4, h5, h6⟩ := h
  obtain ⟨g1, g2⟩ := he
  unfold ab_sc at g1
  unfold ab_sf at g2
  refine ⟨h1.same hB (g1 _ (by omega) (by omega)) (g2 _ (by omega)) (fun c a b => g1 _ (by omega) (by omega)) (g1 _ (by omega) (by omega)), h2.same hB (by rw [g1 0 (by omega) (by omega)]) (g2 _ (by omega)) (fun c a b => g1 _ (by omega) (by omega)) (g1 _ (by omega) (by omega)), h3.same (g1 _ (by omega) (by omega)) (fun k a b => g2 k (by omega)), ?_, h5.same (by rw [g1 0 (by omega) (by omega)]) (g2 _ (by omega)) (g1 _ (by omega) (by omega)) (g1 _ (by omega) (by omega)), h6.same (g1 _ (by omega) (by omega)) (g2 _ (by omega)) (g1 _ (by omega) (by omega)) (g1 _ (by omega) (by omega))⟩
  rw [g1 0 (by omega) (by omega), g2 12 (by omega)]
  exact h4
theorem ab_A.eq {B B2 : Int} {σ τ : q_S} {D : Nat → Int} (h : ab_A B σ D) (hB : B ≤ B2) (he : ab_eq σ τ) : ab_A B2 τ D := by
  obtain ⟨g1, g2⟩ := he
  unfold ab_sc at g1
  exact h.same hB (fun c a b => g1 _ (by omega) (by omega)) (g1 _ (by omega) (by omega))
/-- a call that changes nothing -/
theorem ab_Inv.same {t : Nat} {σ τ : q_S} (h : ab_Inv t σ) (he : ab_eq σ τ) : ab_Inv (t + 1) τ := by
  obtain ⟨D, h1, h2⟩ := h
  exact ⟨D, h1.eq (by omega) he, h2.same (by omega) he⟩
theorem ab_Inv0 : ab_Inv 0 q_s0 := by
  refine ⟨fun _ => 0, ⟨⟨rfl, rfl, rfl, rfl, fun s hs => absurd hs (Int.not_lt.mpr (Int.natCast_nonneg s)), fun p hp => absurd hp (Int.not_lt.mpr (Int.natCast_nonneg p)), fun s hs => ?_⟩, fun k hk => rfl, ⟨by decide, by decide, by decide, by decide, by decide, by decide, by decide, by decide, fun s hs => absurd hs (Int.not_lt.mpr (Int.natCast_nonneg s)), fun p hp => absurd hp (Int.not_lt.mpr (Int.natCast_nonneg p))⟩⟩, ⟨0, 0, fun _ _ => 0, ⟨rfl, rfl, fun k hk => absurd hk (by omega)⟩, ⟨rfl, fun k hk => absurd hk (by omega)⟩, by decide, by decide, fun k hk => absurd hk (by omega)⟩, .inl ⟨rfl, rfl⟩, ⟨rfl, rfl, rfl, fun _ => rfl⟩, rfl, ⟨0, by decide, rfl, rfl, fun k hk => absurd hk (by omega)⟩, ⟨0, by decide, rfl, rfl, fun k hk => absurd hk (by omega)⟩⟩
  have e : ∀ k, k < 2 → q_s0 (2 + (10 + 3 * s)) k = 0 := fun k hk => by
    unfold q_s0
    rw [if_neg (by omega), if_neg (by omega)]
  exact ⟨.inl (e 0 (by decide)), .inl (e 1 (by decide))⟩
/-- the second program's number that tells what it threw -/
theorem ab_thrown {σ : q_S} : f_X10_thrown σ = σ 292 4 := rfl
