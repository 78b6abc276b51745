/-! texts: characters, symbols of a form -/
def rd_tx (n : Nat) (ch : Nat → Int) : Prop := n ≤ 60 ∧ (∀ p, p < n → 0 ≤ ch p ∧ ch p ≤ 65535) ∧ ∀ p, n ≤ p → ch p = -1
def rd_txC (σ : q_S) (n : Nat) (ch : Nat → Int) : Prop := ∀ p, p < n → σ 283 p = ab_I (ch p)
/-- the symbols of the eight forms; the letters of the words -/
def rd_fm : List (List Int) := [[110, 101, 119, 32, 35], [112, 101, 103, 32, 37, 32, 35, 32, 35], [112, 108, 111, 116, 32, 35, 32, 37, 32, 35], [108, 97, 121, 32, 35, 64, 35], [98, 101, 110, 100, 32, 35, 32, 37, 126, 35], [100, 114, 111, 112, 32, 35], [100, 101, 101, 112, 32, 35, 32, 35], [100, 117, 115, 107, 32, 37]]
def rd_sy (j k : Nat) : Int := (rd_fm.getD j []).getD k 0
def rd_wn (j : Nat) : Nat := ([3, 3, 4, 3, 4, 4, 4, 4] : List Nat).getD j 0
def rd_dg (c : Int) : Prop := 48 ≤ c ∧ c ≤ 57
theorem rd_sym {j i : Nat} (hj : j < 8) (hi : i < q_len.getD j 0) : q_sc j (ab_I i) = ab_I (rd_sy j i) := by
  have h : ∀ j i : Fin 10, j.val < 8 → i.val < q_len.getD j.val 0 → q_sc j.val (ab_I (i.val : Nat)) = ab_I (rd_sy j.val i.val) := by decide +kernel
  have hl : ∀ j : Fin 8, q_len.getD j.val 0 ≤ 10 := by decide
  have := hl ⟨j, hj⟩
  have : q_len.getD j 0 ≤ 10 := this
  exact h ⟨j, by omega⟩ ⟨i, by omega⟩ hj hi
theorem rd_syb {j i : Nat} : 0 ≤ rd_sy j i ∧ rd_sy j i ≤ 126 := by
  by_cases hj : j < 8
  · by_cases hi : i < 10
    · have h : ∀ j i : Fin 10, 0 ≤ rd_sy j.val i.val ∧ rd_sy j.val i.val ≤ 126 := by decide +kernel
      exact h ⟨j, by omega⟩ ⟨i, hi⟩
    · have h : ∀ j : Fin 8, (rd_fm.getD j.val []).length ≤ 10 := by decide
      have h := h ⟨j, hj⟩
      unfold rd_sy
      rw [List.getD_eq_getElem?_getD, List.getElem?_eq_none (by have h : (rd_fm.getD j []).length ≤ 10 := h; omega)]
      decide
  · unfold rd_sy
    rw [List.getD_eq_getElem?_getD (l := rd_fm), List.getElem?_eq_none (show rd_fm.length ≤ j by show 8 ≤ j; omega)]
    show 0 ≤ (([] : List Int).getD i 0) ∧ ([] : List Int).getD i 0 ≤ 126
    rw [List.getD_nil]
    decide
theorem rd_slen {j : Nat} (hj : j < 8) : q_sl j = ab_I (q_len.getD j 0 : Nat) ∧ q_len.getD j 0 ≤ 10 := by
  have h : ∀ j : Fin 8, q_sl j.val = ab_I (q_len.getD j.val 0 : Nat) ∧ q_len.getD j.val 0 ≤ 10 := by decide +kernel
  exact h ⟨j, hj⟩
section
variable {σ : q_S} {n : Nat} {ch : Nat → Int}
theorem rd_chb (hT : rd_tx n ch) (p : Nat) : -1 ≤ ch p ∧ ch p ≤ 65535 := by
  by_cases h : p < n
  · have := hT.2.1 p h; omega
  · rw [hT.2.2 p (by omega)]; omega
theorem rd_chAt (hT : rd_tx n ch) (hC : rd_txC σ n ch) {p : Nat} (hp : p ≤ 1000) : f_X1_characterAt σ (ab_I n) (ab_I p) = some (ab_I (ch p)) := by
  have h60 := hT.1
  unfold f_X1_characterAt
  rw [if_neg (by rw [ab_Iltc (by omega) (by omega)]; exact id)]
  by_cases h : p < n
  · rw [if_neg (by rw [ab_Ile (by omega) (by omega) (by omega) (by omega)]; omega), if_neg (by rw [show (60 : Int32) = ab_I 60 from rfl, ab_Ile (by omega) (by omega) (by omega) (by omega)]; omega), if_neg (by rw [ab_Icl (by omega) (by omega), Int.toNat_natCast, ab_Iltc (by omega) (by omega)]; exact fun h => h.elim id (fun h => by omega)), ab_Icl (by omega) (by omega), Int.toNat_natCast, hC p h]
  · rw [if_pos (by rw [ab_Ile (by omega) (by omega) (by omega) (by omega)]; omega), hT.2.2 p (by omega)]
    rfl
theorem rd_isDig {c : Int} (h0 : -1 ≤ c) (h1 : c ≤ 65535) : (rd_dg c ∧ f_X1_isDigit (ab_I c) = some 1) ∨ (¬ rd_dg c ∧ f_X1_isDigit (ab_I c) = some 0) := by
  unfold f_X1_isDigit rd_dg
  rw [show f_X9_isFrom (ab_I c) 48 57 = _ from ab_isFrom (a := c) (b := 48) (c := 57) (by omega) (by omega) (by omega) (by omega) (by omega) (by omega)]
  by_cases h : 48 ≤ c ∧ c ≤ 57
  · rw [if_pos h]
    exact .inl ⟨h, rfl⟩
  · rw [if_neg h]
    exact .inr ⟨h, rfl⟩
/-- does a character fit a symbol? -/
def rd_ft (t c : Int) : Prop := if t = 35 ∨ t = 37 then rd_dg c else if t = 64 then (c = 110 ∨ c = 101 ∨ c = 115 ∨ c = 119) else if t = 126 then (c = 43 ∨ c = 45) else c = t
theorem rd_isFit {t c : Int} (t0 : 0 ≤ t) (t1 : t ≤ 126) (h0 : -1 ≤ c) (h1 : c ≤ 65535) : (rd_ft t c ∧ f_X1_isFit (ab_I t) (ab_I c) = some 1) ∨ (¬ rd_ft t c ∧ f_X1_isFit (ab_I t) (ab_I c) = some 0) := by
  have eq : ∀ k : Int, 0 ≤ k → k ≤ 126 → ((ab_I t = ab_I k) ↔ t = k) := fun k k0 k1 => ab_Ieq (by omega) (by omega) (by omega) (by omega)
  have ec : ∀ k : Int, -1 ≤ k → k ≤ 126 → ((ab_I c = ab_I k) ↔ c = k) := fun k k0 k1 => ab_Ieq (by omega) (by omega) (by omega) (by omega)
  have e35 : (ab_I t = 35) ↔ t = 35 := eq 35 (by decide) (by decide)
  have e37 : (ab_I t = 37) ↔ t = 37 := eq 37 (by decide) (by decide)
  have e64 : (ab_I t = 64) ↔ t = 64 := eq 64 (by decide) (by decide)
  have e126 : (ab_I t = 126) ↔ t = 126 := eq 126 (by decide) (by decide)
  unfold f_X1_isFit rd_ft
  by_cases q35 : t = 35
  · rw [if_pos (e35.mpr q35), if_pos (.inl q35)]
    rcases rd_isDig h0 h1 with ⟨g, e⟩ | ⟨g, e⟩ <;> rw [e]
    · exact .inl ⟨g, rfl⟩
    · exact .inr ⟨g, rfl⟩
  rw [if_neg (fun h => q35 (e35.mp h))]
  by_cases q37 : t = 37
  · rw [if_pos (e37.mpr q37), if_pos (.inr q37)]
    rcases rd_isDig h0 h1 with ⟨g, e⟩ | ⟨g, e⟩ <;> rw [e]
    · exact .inl ⟨g, rfl⟩
    · exact .inr ⟨g, rfl⟩
  rw [if_neg (fun h => q37 (e37.mp h)), if_neg (show ¬ (t = 35 ∨ t = 37) from fun h => h.elim q35 q37)]
  by_cases q64 : t = 64
  · rw [if_pos (e64.mpr q64), if_pos q64]
    have c110 : (ab_I c = 110) ↔ c = 110 := ec 110 (by decide) (by decide)
    have c101 : (ab_I c = 101) ↔ c = 101 := ec 101 (by decide) (by decide)
    have c115 : (ab_I c = 115) ↔ c = 115 := ec 115 (by decide) (by decide)
    have c119 : (ab_I c = 119) ↔ c = 119 := ec 119 (by decide) (by decide)
    unfold f_X9_directionFor
    simp only [c110, c101, c115, c119]
    by_cases z1 : c = 101
    · rw [if_pos z1]; exact .inl ⟨.inr (.inl z1), rfl⟩
    by_cases z2 : c = 110
    · rw [if_neg z1, if_pos z2]; exact .inl ⟨.inl z2, rfl⟩
    by_cases z3 : c = 115
    · rw [if_neg z1, if_neg z2, if_pos z3]; exact .inl ⟨.inr (.inr (.inl z3)), rfl⟩
    by_cases z4 : c = 119
    · rw [if_neg z1, if_neg z2, if_neg z3, if_pos z4]; exact .inl ⟨.inr (.inr (.inr z4)), rfl⟩
    · rw [if_neg z1, if_neg z2, if_neg z3, if_neg z4]; exact .inr ⟨by omega, rfl⟩
  rw [if_neg (fun h => q64 (e64.mp h)), if_neg q64]
  by_cases q126 : t = 126
  · rw [if_pos (e126.mpr q126), if_pos q126]
    have c43 : (ab_I c = 43) ↔ c = 43 := ec 43 (by decide) (by decide)
    have c45 : (ab_I c = 45) ↔ c = 45 := ec 45 (by decide) (by decide)
    simp only [c43, c45]
    by_cases z1 : c = 43
    · rw [if_pos z1]; exact .inl ⟨.inl z1, rfl⟩
    by_cases z2 : c = 45
    · rw [if_neg z1, if_pos z2]; exact .inl ⟨.inr z2, rfl⟩
    · rw [if_neg z1, if_neg z2]; exact .inr ⟨by omega, rfl⟩
  rw [if_neg (fun h => q126 (e126.mp h)), if_neg q126]
  simp only [ec t (by omega) t1]
  by_cases z : c = t
  · rw [if_pos z]; exact .inl ⟨z, rfl⟩
  · rw [if_neg z]; exact .inr ⟨z, rfl⟩
/-- one symbol: what fits not -/
theorem rd_ms_no (hT : rd_tx n ch) (hC : rd_txC σ n ch) {j i p f : Nat} (hj : j < 8) (hi : i < q_len.getD j 0) (hp : p ≤ 1000) (h : ¬ rd_ft (rd_sy j i) (ch p)) {v6 v7 : Int32} : f_X1_match_13 j (f + 1) (ab_I n) (ab_I p) v6 v7 (ab_I i) σ = some (ab_I (-1 - p), σ) := by
  have hl := rd_slen hj
  have hb := rd_syb (j := j) (i := i)
  have hc := rd_chb hT p
  rw [f_X1_match_13, hl.1, if_neg (by rw [ab_Ile (by omega) (by omega) (by omega) (by omega)]; omega), rd_sym hj hi, rd_chAt hT hC hp, Option.bind_some, if_neg (by rw [ab_Icl (by omega) (by omega), Int.toNat_natCast, ab_Iltc (by omega) (by omega)]; exact fun h => h.elim id (fun h => by omega))]
  rcases rd_isFit hb.1 hb.2 hc.1 hc.2 with ⟨g, e⟩ | ⟨g, e⟩
  · exact absurd g h
  · rw [e, Option.bind_some, if_pos rfl, show (-1 : Int32) = ab_I (-1) from rfl, ab_Isub]
/-- what fits: a letter -/
theorem rd_ms_lit (hT : rd_tx n ch) (hC : rd_txC σ n ch) {j i p f : Nat} (hj : j < 8) (hi : i < q_len.getD j 0) (hp : p ≤ 1000) (h : ch p = rd_sy j i) (h1 : rd_sy j i ≠ 35) (h2 : rd_sy j i ≠ 37) (h3 : rd_sy j i ≠ 64) (h4 : rd_sy j i ≠ 126) {v6 v7 : Int32} : f_X1_match_13 j (f + 1) (ab_I n) (ab_I p) v6 v7 (ab_I i) σ = f_X1_match_13 j f (ab_I n) (ab_I ((p + 1 : Nat) : Int)) v6 v7 (ab_I ((i + 1 : Nat) : Int)) σ := by
  have hl := rd_slen hj
  have hb := rd_syb (j := j) (i := i)
  have hc := rd_chb hT p
  have eq : ∀ k : Int, 0 ≤ k → k ≤ 126 → ((ab_I (rd_sy j i) = ab_I k) ↔ rd_sy j i = k) := fun k k0 k1 => ab_Ieq (by omega) (by omega) (by omega) (by omega)
  rw [f_X1_match_13, hl.1, if_neg (by rw [ab_Ile (by omega) (by omega) (by omega) (by omega)]; omega), rd_sym hj hi, rd_chAt hT hC hp, Option.bind_some, if_neg (by rw [ab_Icl (by omega) (by omega), Int.toNat_natCast, ab_Iltc (by omega) (by omega)]; exact fun h => h.elim id (fun h => by omega))]
  rcases rd_isFit hb.1 hb.2 hc.1 hc.2 with ⟨g, e⟩ | ⟨g, e⟩
  · rw [e, Option.bind_some, if_neg (by decide), if_neg (show ¬ ab_I (rd_sy j i) = 35 from fun h => h1 ((eq 35 (by decide) (by decide)).mp h)), if_neg (show ¬ ab_I (rd_sy j i) = 37 from fun h => h2 ((eq 37 (by decide) (by decide)).mp h)), if_neg (show ¬ ab_I (rd_sy j i) = 64 from fun h => h3 ((eq 64 (by decide) (by decide)).mp h)), if_neg (show ¬ ab_I (rd_sy j i) = 126 from fun h => h4 ((eq 126 (by decide) (by decide)).mp h)), ab_I1, ab_I1]
  · refine absurd ?_ g
    unfold rd_ft
    rw [if_neg (fun h => h.elim h1 h2), if_neg h3, if_neg h4]
    exact h
/-- .. a digit -/
theorem rd_ms_d1 (hT : rd_tx n ch) (hC : rd_txC σ n ch) {j i p f : Nat} (hj : j < 8) (hi : i < q_len.getD j 0) (hp : p ≤ 900) (h : rd_dg (ch p)) (h1 : rd_sy j i = 35) {v6 v7 : Int32} : f_X1_match_13 j (f + 1) (ab_I n) (ab_I p) v6 v7 (ab_I i) σ = f_X1_match_13 j f (ab_I n) (ab_I ((p + 1 : Nat) : Int)) (v6 + 1) v7 (ab_I ((i + 1 : Nat) : Int)) (f_X9_setNumberAt σ 289 3 v6 (ab_I (ch p - 48) * v7)) := by
  have hl := rd_slen hj
  have hc := rd_chb hT p
  have hb := rd_syb (j := j) (i := i)
  rw [f_X1_match_13, hl.1, if_neg (by rw [ab_Ile (by omega) (by omega) (by omega) (by omega)]; omega), rd_sym hj hi, rd_chAt hT hC (show p ≤ 1000 by omega), Option.bind_some, if_neg (by rw [ab_Icl (by omega) (by omega), Int.toNat_natCast, ab_Iltc (by omega) (by omega)]; exact fun h => h.elim id (fun h => by omega))]
  rcases rd_isFit hb.1 hb.2 hc.1 hc.2 with ⟨g, e⟩ | ⟨g, e⟩
  · rw [e, Option.bind_some, if_neg (by decide), h1, if_pos (show ab_I 35 = 35 from rfl)]
    unfold f_X1_match_71
    rw [ab_I1, rd_chAt hT hC (p := p + 1) (by omega), Option.bind_some, if_neg (show ¬ ab_I 35 = 37 by decide)]
    unfold f_X1_match_118
    rw [ab_I1, show ab_I (ch p) - 48 = _ from ab_Isub (b := 48)]
  · refine absurd ?_ g
    unfold rd_ft
    rw [h1, if_pos (.inl rfl)]
    exact h
/-- .. a number -/
theorem rd_ms_d2 (hT : rd_tx n ch) (hC : rd_txC σ n ch) {j i p f : Nat} (hj : j < 8) (hi : i < q_len.getD j 0) (hp : p ≤ 900) (h : rd_dg (ch p)) (h1 : rd_sy j i = 37) {v6 v7 : Int32} : (rd_dg (ch (p + 1)) ∧ f_X1_match_13 j (f + 1) (ab_I n) (ab_I p) v6 v7 (ab_I i) σ = f_X1_match_13 j f (ab_I n) (ab_I ((p + 2 : Nat) : Int)) (v6 + 1) v7 (ab_I ((i + 1 : Nat) : Int)) (f_X9_setNumberAt σ 289 3 v6 (ab_I (10 * (ch p - 48) + ch (p + 1) - 48) * v7))) ∨ (¬ rd_dg (ch (p + 1)) ∧ f_X1_match_13 j (f + 1) (ab_I n) (ab_I p) v6 v7 (ab_I i) σ = f_X1_match_13 j f (ab_I n) (ab_I ((p + 1 : Nat) : Int)) (v6 + 1) v7 (ab_I ((i + 1 : Nat) : Int)) (f_X9_setNumberAt σ 289 3 v6 (ab_I (ch p - 48) * v7))) := by
  have hl := rd_slen hj
  have hc := rd_chb hT p
  have hc1 := rd_chb hT (p + 1)
  have hb := rd_syb (j := j) (i := i)
  have hp1 : p ≤ 1000 := by omega
  rw [f_X1_match_13, hl.1, if_neg (by rw [ab_Ile (by omega) (by omega) (by omega) (by omega)]; omega), rd_sym hj hi, rd_chAt hT hC hp1, Option.bind_some, if_neg (by rw [ab_Icl (by omega) (by omega), Int.toNat_natCast, ab_Iltc (by omega) (by omega)]; exact fun h => h.elim id (fun h => by omega))]
  rcases rd_isFit hb.1 hb.2 hc.1 hc.2 with ⟨g, e⟩ | ⟨g, e⟩
  · rw [e, Option.bind_some, if_neg (by decide), h1, if_neg (show ¬ ab_I 37 = 35 by decide), if_pos (show ab_I 37 = 37 from rfl)]
    unfold f_X1_match_71
    rw [ab_I1, rd_chAt hT hC (p := p + 1) (by omega), Option.bind_some, if_pos (show ab_I 37 = 37 from rfl)]
    unfold f_X1_match_118
    rcases rd_isDig hc1.1 hc1.2 with ⟨g1, e1⟩ | ⟨g1, e1⟩
    · refine .inl ⟨g1, ?_⟩
      rw [e1, Option.bind_some, if_neg (by decide), ab_I1, ab_I1, show ab_I (ch p) - 48 = _ from ab_Isub (b := 48), show (10 : Int32) = ab_I 10 from rfl, ab_Imul, ab_Iadd, show ∀ v : Int, ab_I v - 48 = ab_I (v - 48) from fun v => ab_Isub (b := 48), Int.mul_comm]
    · refine .inr ⟨g1, ?_⟩
      rw [e1, Option.bind_some, if_pos rfl, ab_I1, show ab_I (ch p) - 48 = _ from ab_Isub (b := 48)]
  · refine absurd ?_ g
    unfold rd_ft
    rw [h1, if_pos (.inr rfl)]
    exact h
/-- .. a direction -/
theorem rd_ms_dir (hT : rd_tx n ch) (hC : rd_txC σ n ch) {j i p f : Nat} (hj : j < 8) (hi : i < q_len.getD j 0) (hp : p ≤ 1000) (h : rd_ft 64 (ch p)) (h1 : rd_sy j i = 64) {v6 v7 : Int32} : f_X1_match_13 j (f + 1) (ab_I n) (ab_I p) v6 v7 (ab_I i) σ = f_X1_match_13 j f (ab_I n) (ab_I ((p + 1 : Nat) : Int)) (v6 + 1) v7 (ab_I ((i + 1 : Nat) : Int)) (f_X9_setNumberAt σ 289 3 v6 (ab_I (ch p))) := by
  have hl := rd_slen hj
  have hc := rd_chb hT p
  have hb := rd_syb (j := j) (i := i)
  rw [f_X1_match_13, hl.1, if_neg (by rw [ab_Ile (by omega) (by omega) (by omega) (by omega)]; omega), rd_sym hj hi, rd_chAt hT hC hp, Option.bind_some, if_neg (by rw [ab_Icl (by omega) (by omega), Int.toNat_natCast, ab_Iltc (by omega) (by omega)]; exact fun h => h.elim id (fun h => by omega))]
  rcases rd_isFit hb.1 hb.2 hc.1 hc.2 with ⟨g, e⟩ | ⟨g, e⟩
  · rw [e, Option.bind_some, if_neg (by decide), h1, if_neg (show ¬ ab_I 64 = 35 by decide), if_neg (show ¬ ab_I 64 = 37 by decide), if_pos (show ab_I 64 = 64 from rfl), ab_I1, ab_I1]
  · refine absurd ?_ g
    rw [h1]
    exact h
/-- .. a sign -/
theorem rd_ms_sgn (hT : rd_tx n ch) (hC : rd_txC σ n ch) {j i p f : Nat} (hj : j < 8) (hi : i < q_len.getD j 0) (hp : p ≤ 1000) (h : rd_ft 126 (ch p)) (h1 : rd_sy j i = 126) {v6 v7 : Int32} : f_X1_match_13 j (f + 1) (ab_I n) (ab_I p) v6 v7 (ab_I i) σ = f_X1_match_13 j f (ab_I n) (ab_I ((p + 1 : Nat) : Int)) v6 (ab_I (if ch p = 45 then -1 else 1)) (ab_I ((i + 1 : Nat) : Int)) σ := by
  have hl := rd_slen hj
  have hc := rd_chb hT p
  have hb := rd_syb (j := j) (i := i)
  rw [f_X1_match_13, hl.1, if_neg (by rw [ab_Ile (by omega) (by omega) (by omega) (by omega)]; omega), rd_sym hj hi, rd_chAt hT hC hp, Option.bind_some, if_neg (by rw [ab_Icl (by omega) (by omega), Int.toNat_natCast, ab_Iltc (by omega) (by omega)]; exact fun h => h.elim id (fun h => by omega))]
  rcases rd_isFit hb.1 hb.2 hc.1 hc.2 with ⟨g, e⟩ | ⟨g, e⟩
  · rw [e, Option.bind_some, if_neg (by decide), h1, if_neg (show ¬ ab_I 126 = 35 by decide), if_neg (show ¬ ab_I 126 = 37 by decide), if_neg (show ¬ ab_I 126 = 64 by decide), if_pos (show ab_I 126 = 126 from rfl), ab_I1, ab_I1]
    by_cases z : ch p = 45
    · rw [if_pos (show ab_I (ch p) = 45 by rw [z]; rfl), if_pos z]
      rfl
    · rw [if_neg (show ¬ ab_I (ch p) = 45 by rw [show (45 : Int32) = ab_I 45 from rfl, ab_Ieq (by omega) (by omega) (by omega) (by omega)]; exact z), if_neg z]
      rfl
  · refine absurd ?_ g
    rw [h1]
    exact h
/-- the end of the form -/
theorem rd_ms_end {j i p f : Nat} (hj : j < 8) (hi : i = q_len.getD j 0) {v6 v7 : Int32} : f_X1_match_13 j (f + 1) (ab_I n) (ab_I p) v6 v7 (ab_I i) σ = some (ab_I p, σ) := by
  have hl := rd_slen hj
  rw [f_X1_match_13, hl.1, if_pos (by rw [ab_Ile (by omega) (by omega) (by omega) (by omega)]; omega)]
end
