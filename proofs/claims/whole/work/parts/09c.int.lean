/-! whole numbers as Int32 -/
def ab_I (a : Int) : Int32 := Int32.ofInt a
theorem ab_Iadd {a b : Int} : ab_I a + ab_I b = ab_I (a + b) := (Int32.ofInt_add a b).symm
theorem ab_Isub {a b : Int} : ab_I a - ab_I b = ab_I (a - b) := (Int32.ofInt_sub a b).symm
theorem ab_Imul {a b : Int} : ab_I a * ab_I b = ab_I (a * b) := (Int32.ofInt_mul a b).symm
theorem ab_Ineg {a : Int} : - ab_I a = ab_I (- a) := (Int32.ofInt_neg a).symm
theorem ab_Iint {a : Int} (h0 : -2147483648 ≤ a) (h1 : a ≤ 2147483647) : (ab_I a).toInt = a := Int32.toInt_ofInt_of_le (by omega) (by omega)
theorem ab_Ile {a b : Int} (ha0 : -2147483648 ≤ a) (ha1 : a ≤ 2147483647) (hb0 : -2147483648 ≤ b) (hb1 : b ≤ 2147483647) : (ab_I a ≤ ab_I b) ↔ a ≤ b := by rw [Int32.le_iff_toInt_le, ab_Iint ha0 ha1, ab_Iint hb0 hb1]
theorem ab_Ilt {a b : Int} (ha0 : -2147483648 ≤ a) (ha1 : a ≤ 2147483647) (hb0 : -2147483648 ≤ b) (hb1 : b ≤ 2147483647) : (ab_I a < ab_I b) ↔ a < b := by rw [Int32.lt_iff_toInt_lt, ab_Iint ha0 ha1, ab_Iint hb0 hb1]
theorem ab_Ieq {a b : Int} (ha0 : -2147483648 ≤ a) (ha1 : a ≤ 2147483647) (hb0 : -2147483648 ≤ b) (hb1 : b ≤ 2147483647) : (ab_I a = ab_I b) ↔ a = b := by rw [← Int32.toInt_inj, ab_Iint ha0 ha1, ab_Iint hb0 hb1]
theorem ab_Icl {a : Int} (h0 : -2147483648 ≤ a) (h1 : a ≤ 2147483647) : (ab_I a).toNatClampNeg = a.toNat := by
  show (ab_I a).toInt.toNat = a.toNat
  rw [ab_Iint h0 h1]
theorem ab_Ilit {n : Nat} : (no_index (OfNat.ofNat n) : Int32) = ab_I (no_index (OfNat.ofNat n)) := (Int32.ofInt_eq_ofNat (n := n)).symm
theorem ab_Inat {n : Nat} : Int32.ofNat n = ab_I n := (Int32.ofInt_eq_ofNat (n := n)).symm
theorem ab_Iof (x : Int32) : x = ab_I x.toInt := (Int32.ofInt_toInt x).symm
theorem ab_Iltc {a : Int} (h0 : 0 ≤ a) (h1 : a ≤ 2147483647) : (ab_I a < 0) ↔ False := by
  rw [show (0 : Int32) = ab_I 0 from rfl, ab_Ilt (by omega) h1 (by omega) (by omega)]
  exact ⟨fun h => by omega, False.elim⟩
/-- an index that was looked at -/
theorem ab_Iidx {x : Int32} {n : Int} (h0 : ¬ x < 0) (hn : ¬ ab_I n ≤ x) (hb0 : 0 ≤ n) (hb1 : n ≤ 2147483647) : ∃ s : Nat, (s : Int) < n ∧ x = ab_I s := by
  refine ⟨x.toInt.toNat, ?_, ?_⟩
  · have h1 : ¬ (0 : Int32).toInt > x.toInt := fun h => h0 (Int32.lt_iff_toInt_lt.mpr h)
    rw [Int32.le_iff_toInt_le, ab_Iint (by omega) hb1] at hn
    have h2 : (0 : Int32).toInt = 0 := rfl
    omega
  · have h1 : ¬ (0 : Int32).toInt > x.toInt := fun h => h0 (Int32.lt_iff_toInt_lt.mpr h)
    have h2 : (0 : Int32).toInt = 0 := rfl
    rw [show ((x.toInt.toNat : Nat) : Int) = x.toInt by omega]
    exact ab_Iof x
theorem ab_up {σ : q_S} {c k c2 k2 : Nat} {v : Int32} : q_up σ c k v c2 k2 = if c2 = c then (if k2 = k then v else σ c k2) else σ c2 k2 := by
  unfold q_up upd
  split <;> rfl
theorem ab_at {σ : q_S} {c N i : Nat} (h : i < N) (hN : N < 2000000000) : f_X9_numberAt σ c N (ab_I i) = σ c i := by
  unfold f_X9_numberAt
  rw [if_neg (by rw [ab_Iltc (by omega) (by omega)]; exact id), ab_Inat, if_neg (by rw [ab_Ile (by omega) (by omega) (by omega) (by omega)]; omega), ab_Icl (by omega) (by omega)]
  rfl
theorem ab_put {σ : q_S} {c N i : Nat} {v : Int32} (h : i < N) (hN : N < 2000000000) : f_X9_setNumberAt σ c N (ab_I i) v = q_up σ c i v := by
  unfold f_X9_setNumberAt
  rw [if_neg (by rw [ab_Iltc (by omega) (by omega)]; exact id), ab_Inat, if_neg (by rw [ab_Ile (by omega) (by omega) (by omega) (by omega)]; omega), ab_Icl (by omega) (by omega)]
  rfl
theorem ab_plotOf {z s : Nat} (h : s < 5) : f_X2_plotOf z (ab_I s) = z + (10 + 3 * s) := by
  unfold f_X2_plotOf
  rw [if_neg (by rw [ab_Iltc (by omega) (by omega)]; exact id), show (5 : Int32) = ab_I 5 from rfl, if_neg (by rw [ab_Ile (by omega) (by omega) (by omega) (by omega)]; omega), ab_Icl (by omega) (by omega)]
  rfl
theorem ab_pastAt {i : Nat} (h : i < 8) : f_X3_pastAt (ab_I i) = 80 + 25 * i := by
  unfold f_X3_pastAt
  rw [if_neg (by rw [ab_Iltc (by omega) (by omega)]; exact id), show (8 : Int32) = ab_I 8 from rfl, if_neg (by rw [ab_Ile (by omega) (by omega) (by omega) (by omega)]; omega), ab_Icl (by omega) (by omega)]
  rfl
theorem ab_isFrom {a b c : Int} (ha0 : -2147483648 ≤ a) (ha1 : a ≤ 2147483647) (hb0 : -2147483648 ≤ b) (hb1 : b ≤ 2147483647) (hc0 : -2147483648 ≤ c) (hc1 : c ≤ 2147483647) : f_X9_isFrom (ab_I a) (ab_I b) (ab_I c) = ab_I (if b ≤ a ∧ a ≤ c then 1 else 0) := by
  unfold f_X9_isFrom
  simp only [ab_Ilt ha0 ha1 hb0 hb1, ab_Ilt hc0 hc1 ha0 ha1, ab_Ilit]
  (repeat' split) <;> first | rfl | omega
theorem ab_stepX {e : Int} (h0 : 0 ≤ e) (h1 : e ≤ 3) : f_X9_stepX (ab_I e) = ab_I (ab_sx e) := by
  rcases ab_dir h0 h1 with rfl | rfl | rfl | rfl <;> decide
theorem ab_stepY {e : Int} (h0 : 0 ≤ e) (h1 : e ≤ 3) : f_X9_stepY (ab_I e) = ab_I (ab_sy e) := by
  rcases ab_dir h0 h1 with rfl | rfl | rfl | rfl <;> decide
/-! what a sleeper's numbers, and a dream's, are; where the two programs hold them -/
def ab_ds (P : Nat → Int) : Nat → Int := fun k => P (5 + 2 * k)
def ab_ls (P : Nat → Int) : Nat → Int := fun k => P (6 + 2 * k)
/-- the numbers of the sleeper s -/
def ab_sl (D : Nat → Int) (s : Nat) : Nat → Int := fun k => D (30 + 37 * s + k)
def ab_WP (P : Nat → Int) : Prop := 0 ≤ P 0 ∧ P 0 ≤ 9 ∧ 0 ≤ P 1 ∧ P 1 ≤ 2 ∧ 0 ≤ P 4 ∧ P 4 ≤ 16 ∧ (P 1 = 0 → P 4 = 0) ∧ (1 ≤ P 1 → ab_W (P 2) (P 3) (P 4).toNat (ab_ds P) (ab_ls P) (P 1 = 2))
def ab_WD (B : Int) (D : Nat → Int) : Prop := 0 ≤ D 0 ∧ D 0 ≤ 5 ∧ 0 ≤ D 1 ∧ D 1 ≤ 8 ∧ 0 ≤ D 2 ∧ D 2 ≤ B ∧ 0 ≤ D 3 ∧ D 3 ≤ B ∧ (∀ s : Nat, (s : Int) < D 0 → ab_WP (ab_sl D s)) ∧ (∀ p : Nat, (p : Int) < D 1 → 0 ≤ D (6 + 3 * p) ∧ D (6 + 3 * p) ≤ 12 ∧ 0 ≤ D (7 + 3 * p) ∧ D (7 + 3 * p) ≤ 8 ∧ 2 ≤ D (8 + 3 * p) ∧ D (8 + 3 * p) ≤ 5)
def ab_CP (σ : q_S) (c : Nat) (P : Nat → Int) : Prop :=
  σ c 0 = ab_I (if 1 ≤ P 1 then 1 else 0) ∧ σ c 1 = ab_I (if P 1 = 2 then 1 else 0) ∧ σ c 6 = ab_I (P 4) ∧
  (1 ≤ P 1 → σ c 2 = ab_I (P 2) ∧ σ c 3 = ab_I (P 3) ∧ σ c 4 = ab_I (ab_px (P 2) (ab_ds P) (ab_ls P) (P 4).toNat) ∧ σ c 5 = ab_I (ab_py (P 3) (ab_ds P) (ab_ls P) (P 4).toNat)) ∧
  (∀ k : Nat, (k : Int) < P 4 → σ (c + 1) k = ab_I (P (5 + 2 * k)) ∧ σ (c + 2) k = ab_I (P (6 + 2 * k)))
def ab_flag (v : Int32) : Prop := v = 0 ∨ v = 1
def ab_CR (σ : q_S) (z : Nat) (D : Nat → Int) : Prop :=
  σ z 0 = ab_I (D 0) ∧ σ (z + 6) 0 = ab_I (D 1) ∧ σ z 5 = ab_I (D 2) ∧ σ z 6 = ab_I (D 3) ∧
  (∀ s : Nat, (s : Int) < D 0 → σ (z + 1) s = ab_I (D (30 + 37 * s)) ∧ ab_CP σ (z + (10 + 3 * s)) (ab_sl D s)) ∧
  (∀ p : Nat, (p : Int) < D 1 → σ (z + 7) p = ab_I (D (6 + 3 * p)) ∧ σ (z + 8) p = ab_I (D (7 + 3 * p)) ∧ σ (z + 9) p = ab_I (D (8 + 3 * p))) ∧
  (∀ s : Nat, s < 5 → ab_flag (σ (z + (10 + 3 * s)) 0) ∧ ab_flag (σ (z + (10 + 3 * s)) 1))
/-- the row c from the place o on holds the numbers -/
def ab_MR (σ : q_S) (c o : Nat) (D : Nat → Int) : Prop := ∀ k, k < 220 → σ c (o + k) = ab_I (D k)
theorem ab_CP.same {σ τ : q_S} {c : Nat} {P : Nat → Int} (h : ab_CP σ c P) (h0 : τ c = σ c) (h1 : τ (c + 1) = σ (c + 1)) (h2 : τ (c + 2) = σ (c + 2)) : ab_CP τ c P := by
  unfold ab_CP at *
  rw [h0, h1, h2]
  exact h
theorem ab_CR.same {σ τ : q_S} {z : Nat} {D : Nat → Int} (h : ab_CR σ z D) (hD : D 0 ≤ 5) (hf : ∀ c, z ≤ c → c < z + 25 → τ c = σ c) : ab_CR τ z D := by
  obtain ⟨h1, h2, h3, h4, h5, h6, h7⟩ := h
  refine ⟨?_, ?_, ?_, ?_, fun s hs => ?_, fun p hp => ?_, fun s hs => ?_⟩
  · rw [hf z (by omega) (by omega)]; exact h1
  · rw [hf (z + 6) (by omega) (by omega)]; exact h2
  · rw [hf z (by omega) (by omega)]; exact h3
  · rw [hf z (by omega) (by omega)]; exact h4
  · rw [hf (z + 1) (by omega) (by omega)]
    exact ⟨(h5 s hs).1, (h5 s hs).2.same (hf _ (by omega) (by omega)) (hf _ (by omega) (by omega)) (hf _ (by omega) (by omega))⟩
  · rw [hf (z + 7) (by omega) (by omega), hf (z + 8) (by omega) (by omega), hf (z + 9) (by omega) (by omega)]
    exact h6 p hp
  · rw [hf (z + (10 + 3 * s)) (by omega) (by omega)]; exact h7 s hs
