/-! texts, as the second program reads them -/
def rd_rs (τ : q_S) (p : Nat) (w : Int32) : q_S := fun c k => if c = 292 then (if k = 24 then ab_I p else if k = 26 then w else τ 292 k) else τ c k
def rd_txR (τ : q_S) (n : Nat) (ch : Nat → Int) : Prop := τ 292 23 = ab_I n ∧ ∀ p, p < n → τ 299 p = ab_I (ch p)
section
variable {τ : q_S} {n p : Nat} {w : Int32} {ch : Nat → Int}
theorem rd_rs_p {q : Nat} : q_up (rd_rs τ p w) 292 24 (ab_I q) = rd_rs τ q w := by
  funext c k
  rw [ab_up]
  unfold rd_rs
  (repeat' split) <;> first | rfl | simp_all
theorem rd_rs_w {v : Int32} : q_up (rd_rs τ p w) 292 26 v = rd_rs τ p v := by
  funext c k
  rw [ab_up]
  unfold rd_rs
  (repeat' split) <;> first | rfl | simp_all
theorem rd_24 : rd_rs τ p w 292 24 = ab_I p := rfl
theorem rd_26 : rd_rs τ p w 292 26 = w := rfl
theorem rd_23 : rd_rs τ p w 292 23 = τ 292 23 := rfl
theorem rd_299 : rd_rs τ p w 299 = τ 299 := rfl
theorem rd_mark (hT : rd_tx n ch) (hR : rd_txR τ n ch) (hp : p ≤ 1000) : f_X10_mark (rd_rs τ p 0) = some (ab_I (ch p)) := by
  have h60 := hT.1
  unfold f_X10_mark
  rw [rd_26, if_pos (show (0 : Int32) = 0 from rfl), rd_23, rd_24, hR.1]
  by_cases h : p < n
  · rw [if_neg (by rw [ab_Ile (by omega) (by omega) (by omega) (by omega)]; omega), if_neg (by rw [ab_Icl (by omega) (by omega), Int.toNat_natCast, ab_Iltc (by omega) (by omega)]; exact fun h => h.elim id (fun h => by omega)), ab_Icl (by omega) (by omega), Int.toNat_natCast, rd_299, hR.2 p h]
  · rw [if_pos (by rw [ab_Ile (by omega) (by omega) (by omega) (by omega)]; omega), hT.2.2 p (by omega)]
    rfl
theorem rd_mark1 : f_X10_mark (rd_rs τ p 1) = some (-1) := by
  unfold f_X10_mark
  rw [rd_26, if_neg (show ¬ (1 : Int32) = 0 by decide)]
theorem rd_isD (hT : rd_tx n ch) (hR : rd_txR τ n ch) (hp : p ≤ 1000) : (rd_dg (ch p) ∧ f_X10_isDigit (rd_rs τ p 0) = some 1) ∨ (¬ rd_dg (ch p) ∧ f_X10_isDigit (rd_rs τ p 0) = some 0) := by
  have hc := rd_chb hT p
  unfold f_X10_isDigit
  rw [rd_mark hT hR hp, Option.bind_some, ab_in_from]
  exact rd_isDig hc.1 hc.2
theorem rd_isD1 : f_X10_isDigit (rd_rs τ p 1) = some 0 := by
  unfold f_X10_isDigit
  rw [rd_mark1, Option.bind_some]
  rfl
/-- one character further, or wrong -/
theorem rd_b19 : f_X10_blank_19 0 0 (rd_rs τ p 0) = some (rd_rs τ (p + 1) 0) ∧ f_X10_blank_19 1 0 (rd_rs τ p 0) = some (rd_rs τ p 1) ∧ f_X10_blank_19 1 1 (rd_rs τ p 1) = some (rd_rs τ p 1) := by
  have a0 : (0 : Int32) ||| 0 = 0 := by decide
  have a1 : (0 : Int32) ||| 1 = 1 := by decide
  have a2 : (1 : Int32) ||| 1 = 1 := by decide
  have e0 : ab_I (p : Int) + 0 = ab_I p := ab_Iadd (b := 0)
  unfold f_X10_blank_19
  simp only [a0, a1, a2, rd_rs_w, rd_26, rd_24, ab_I1, e0, rd_rs_p]
  exact ⟨rfl, rfl, rfl⟩
theorem rd_blank (hT : rd_tx n ch) (hR : rd_txR τ n ch) (hp : p ≤ 1000) : (ch p = 32 ∧ f_X10_blank (rd_rs τ p 0) = some (rd_rs τ (p + 1) 0)) ∨ (ch p ≠ 32 ∧ f_X10_blank (rd_rs τ p 0) = some (rd_rs τ p 1)) := by
  have hc := rd_chb hT p
  unfold f_X10_blank
  rw [rd_mark hT hR hp, Option.bind_some, rd_26]
  by_cases h : ch p = 32
  · rw [if_pos (show ab_I (ch p) = 32 by rw [h]; rfl)]
    exact .inl ⟨h, rd_b19.1⟩
  · rw [if_neg (show ¬ ab_I (ch p) = 32 by rw [show (32 : Int32) = ab_I 32 from rfl, ab_Ieq (by omega) (by omega) (by omega) (by omega)]; exact h)]
    exact .inr ⟨h, rd_b19.2.1⟩
theorem rd_blank1 : f_X10_blank (rd_rs τ p 1) = some (rd_rs τ p 1) := by
  unfold f_X10_blank
  rw [rd_mark1, Option.bind_some, rd_26, if_neg (show ¬ (-1 : Int32) = 32 by decide)]
  exact rd_b19.2.2
theorem rd_dig1 {m : Int} (m1 : 1 ≤ m) (m2 : m ≤ 2) : f_X10_digits (rd_rs τ p 1) (ab_I m) = some (0, rd_rs τ p 1) := by
  have a2 : (1 : Int32) ||| 1 = 1 := by decide
  unfold f_X10_digits
  rw [rd_isD1, Option.bind_some, if_pos rfl, rd_26, a2, if_pos (.inr rfl), rd_rs_w]
  show f_X10_digits_25 (2999 + 1) (ab_I m) 0 0 _ = _
  rw [f_X10_digits_25, if_neg (by rw [show (0 : Int32) = ab_I 0 from rfl, ab_Ile (by omega) (by omega) (by omega) (by omega)]; omega), rd_isD1, Option.bind_some, if_pos rfl]
theorem rd_dig_no (hT : rd_tx n ch) (hR : rd_txR τ n ch) (hp : p ≤ 1000) (h : ¬ rd_dg (ch p)) {m : Int} (m1 : 1 ≤ m) (m2 : m ≤ 2) : f_X10_digits (rd_rs τ p 0) (ab_I m) = some (0, rd_rs τ p 1) := by
  have a2 : (0 : Int32) ||| 1 = 1 := by decide
  rcases rd_isD hT hR hp with ⟨g, e⟩ | ⟨g, e⟩
  · exact absurd g h
  unfold f_X10_digits
  rw [e, Option.bind_some, if_pos rfl, rd_26, a2, if_pos (.inr rfl), rd_rs_w]
  show f_X10_digits_25 (2999 + 1) (ab_I m) 0 0 _ = _
  rw [f_X10_digits_25, if_neg (by rw [show (0 : Int32) = ab_I 0 from rfl, ab_Ile (by omega) (by omega) (by omega) (by omega)]; omega), rd_isD1, Option.bind_some, if_pos rfl]
theorem rd_dg_lt (hT : rd_tx n ch) (h : rd_dg (ch p)) : p < n := by
  by_cases q : p < n
  · exact q
  · have := hT.2.2 p (by omega)
    unfold rd_dg at h
    omega
theorem rd_d25 (hT : rd_tx n ch) (hR : rd_txR τ n ch) (hp : p ≤ 1000) (h : rd_dg (ch p)) {m k v : Int} (hk : k < m) (hm : m ≤ 2) (hk0 : 0 ≤ k) {f : Nat} : f_X10_digits_25 (f + 1) (ab_I m) (ab_I v) (ab_I k) (rd_rs τ p 0) = f_X10_digits_25 f (ab_I m) (ab_I (10 * v + ch p - 48)) (ab_I (k + 1)) (rd_rs τ (p + 1) 0) := by
  have hlt := rd_dg_lt hT h
  have h60 := hT.1
  rcases rd_isD hT hR hp with ⟨g, e⟩ | ⟨g, e⟩
  · rw [f_X10_digits_25, if_neg (by rw [ab_Ile (by omega) (by omega) (by omega) (by omega)]; omega), e, Option.bind_some, if_neg (by decide), rd_24, if_neg (by rw [ab_Icl (by omega) (by omega), Int.toNat_natCast, ab_Iltc (by omega) (by omega)]; exact fun h => h.elim id (fun h => by omega)), ab_Icl (by omega) (by omega), Int.toNat_natCast, rd_299, hR.2 p hlt, show (10 : Int32) = ab_I 10 from rfl, ab_Imul, ab_Iadd, show ab_I (10 * v + ch p) - 48 = _ from ab_Isub (b := 48), show ab_I k + 1 = _ from ab_Iadd (b := 1), ab_I1, rd_rs_p]
  · exact absurd h g
theorem rd_d25e {m v : Int} (hm0 : 0 ≤ m) (hm : m ≤ 2) {f : Nat} {w : Int32} : f_X10_digits_25 (f + 1) (ab_I m) (ab_I v) (ab_I m) (rd_rs τ p w) = some (ab_I v, rd_rs τ p w) := by
  rw [f_X10_digits_25, if_pos (by rw [ab_Ile (by omega) (by omega) (by omega) (by omega)]; omega)]
theorem rd_digs (hT : rd_tx n ch) (hR : rd_txR τ n ch) (hp : p ≤ 1000) (h : rd_dg (ch p)) {m : Int32} : f_X10_digits (rd_rs τ p 0) m = f_X10_digits_25 q_fu m 0 0 (rd_rs τ p 0) := by
  have a2 : (0 : Int32) ||| 0 = 0 := by decide
  rcases rd_isD hT hR hp with ⟨g, e⟩ | ⟨g, e⟩
  · unfold f_X10_digits
    rw [e, Option.bind_some, if_neg (by decide), rd_26, a2, if_pos (.inl rfl), rd_rs_w]
  · exact absurd h g
theorem rd_dig_1 (hT : rd_tx n ch) (hR : rd_txR τ n ch) (hp : p ≤ 1000) (h : rd_dg (ch p)) : f_X10_digits (rd_rs τ p 0) 1 = some (ab_I (ch p - 48), rd_rs τ (p + 1) 0) := by
  rw [rd_digs hT hR hp h]
  show f_X10_digits_25 (2998 + 1 + 1) (ab_I 1) (ab_I 0) (ab_I 0) _ = _
  rw [rd_d25 hT hR hp h (by decide) (by decide) (by decide), show (0 : Int) + 1 = 1 from rfl, rd_d25e (by decide) (by decide), Int.mul_zero, Int.zero_add]
theorem rd_dig_2 (hT : rd_tx n ch) (hR : rd_txR τ n ch) (hp : p ≤ 900) (h : rd_dg (ch p)) : (rd_dg (ch (p + 1)) ∧ f_X10_digits (rd_rs τ p 0) 2 = some (ab_I (10 * (ch p - 48) + ch (p + 1) - 48), rd_rs τ (p + 2) 0)) ∨ (¬ rd_dg (ch (p + 1)) ∧ f_X10_digits (rd_rs τ p 0) 2 = some (ab_I (ch p - 48), rd_rs τ (p + 1) 0)) := by
  rw [rd_digs hT hR (by omega) h]
  by_cases g : rd_dg (ch (p + 1))
  · refine .inl ⟨g, ?_⟩
    show f_X10_digits_25 (2997 + 1 + 1 + 1) (ab_I 2) (ab_I 0) (ab_I 0) _ = _
    rw [rd_d25 hT hR (by omega) h (by decide) (by decide) (by decide), rd_d25 hT hR (by omega) g (by decide) (by decide) (by decide), show (0 : Int) + 1 + 1 = 2 from rfl, rd_d25e (by decide) (by decide), Int.mul_zero, Int.zero_add]
  · refine .inr ⟨g, ?_⟩
    show f_X10_digits_25 (2998 + 1 + 1) (ab_I 2) (ab_I 0) (ab_I 0) _ = _
    rw [rd_d25 hT hR (by omega) h (by decide) (by decide) (by decide), f_X10_digits_25, if_neg (show ¬ ab_I 2 ≤ ab_I (0 + 1) by decide)]
    rcases rd_isD hT hR (p := p + 1) (by omega) with ⟨g2, e⟩ | ⟨g2, e⟩
    · exact absurd g2 g
    · rw [e, Option.bind_some, if_pos rfl, Int.mul_zero, Int.zero_add]
theorem rd_dirOf {c : Int} (h0 : -1 ≤ c) (h1 : c ≤ 65535) : (rd_ft 64 c ∧ 0 ≤ f_X10_directionOf (ab_I c) ∧ ¬ f_X10_directionOf (ab_I c) < 0) ∨ (¬ rd_ft 64 c ∧ ¬ 0 ≤ f_X10_directionOf (ab_I c)) := by
  have ec : ∀ k : Int, -1 ≤ k → k ≤ 126 → ((ab_I c = ab_I k) ↔ c = k) := fun k k0 k1 => ab_Ieq (by omega) (by omega) (by omega) (by omega)
  have c110 : (ab_I c = 110) ↔ c = 110 := ec 110 (by decide) (by decide)
  have c101 : (ab_I c = 101) ↔ c = 101 := ec 101 (by decide) (by decide)
  have c115 : (ab_I c = 115) ↔ c = 115 := ec 115 (by decide) (by decide)
  have c119 : (ab_I c = 119) ↔ c = 119 := ec 119 (by decide) (by decide)
  unfold rd_ft f_X10_directionOf
  rw [if_neg (show ¬ ((64 : Int) = 35 ∨ (64 : Int) = 37) by decide), if_pos (show (64 : Int) = 64 from rfl)]
  simp only [c110, c101, c115, c119]
  by_cases z1 : c = 110
  · rw [if_pos z1]; exact .inl ⟨.inl z1, by decide, by decide⟩
  by_cases z2 : c = 101
  · rw [if_neg z1, if_pos z2]; exact .inl ⟨.inr (.inl z2), by decide, by decide⟩
  by_cases z3 : c = 115
  · rw [if_neg z1, if_neg z2, if_pos z3]; exact .inl ⟨.inr (.inr (.inl z3)), by decide, by decide⟩
  by_cases z4 : c = 119
  · rw [if_neg z1, if_neg z2, if_neg z3, if_pos z4]; exact .inl ⟨.inr (.inr (.inr z4)), by decide, by decide⟩
  · rw [if_neg z1, if_neg z2, if_neg z3, if_neg z4]; exact .inr ⟨by omega, by decide⟩
theorem rd_td22 {v : Int32} : f_X10_takesDirection_22 v 0 0 (rd_rs τ p 0) = some (v, rd_rs τ (p + 1) 0) ∧ f_X10_takesDirection_22 v 1 0 (rd_rs τ p 0) = some (v, rd_rs τ p 1) ∧ f_X10_takesDirection_22 v 1 1 (rd_rs τ p 1) = some (v, rd_rs τ p 1) := by
  have a0 : (0 : Int32) ||| 0 = 0 := by decide
  have a1 : (0 : Int32) ||| 1 = 1 := by decide
  have a2 : (1 : Int32) ||| 1 = 1 := by decide
  have e0 : ab_I (p : Int) + 0 = ab_I p := ab_Iadd (b := 0)
  unfold f_X10_takesDirection_22
  simp only [a0, a1, a2, rd_rs_w, rd_26, rd_24, ab_I1, e0, rd_rs_p]
  exact ⟨rfl, rfl, rfl⟩
theorem rd_td (hT : rd_tx n ch) (hR : rd_txR τ n ch) (hp : p ≤ 1000) : (rd_ft 64 (ch p) ∧ ¬ f_X10_directionOf (ab_I (ch p)) < 0 ∧ f_X10_takesDirection (rd_rs τ p 0) = some (f_X10_directionOf (ab_I (ch p)), rd_rs τ (p + 1) 0)) ∨ (¬ rd_ft 64 (ch p) ∧ ∃ v, f_X10_takesDirection (rd_rs τ p 0) = some (v, rd_rs τ p 1)) := by
  have hc := rd_chb hT p
  unfold f_X10_takesDirection
  rw [rd_mark hT hR hp, Option.bind_some, rd_26]
  rcases rd_dirOf hc.1 hc.2 with ⟨g, e, e2⟩ | ⟨g, e⟩
  · rw [if_pos e]
    exact .inl ⟨g, e2, rd_td22.1⟩
  · rw [if_neg e]
    exact .inr ⟨g, _, rd_td22.2.1⟩
theorem rd_td1 : ∃ v, f_X10_takesDirection (rd_rs τ p 1) = some (v, rd_rs τ p 1) := by
  unfold f_X10_takesDirection
  rw [rd_mark1, Option.bind_some, rd_26, if_neg (show ¬ 0 ≤ f_X10_directionOf (-1) by decide)]
  exact ⟨_, rd_td22.2.2⟩
theorem rd_ts27 {v : Int32} : f_X10_takesSign_27 v 0 0 (rd_rs τ p 0) = some ((if v = 45 then -1 else 1), rd_rs τ (p + 1) 0) ∧ f_X10_takesSign_27 v 1 0 (rd_rs τ p 0) = some ((if v = 45 then -1 else 1), rd_rs τ p 1) ∧ f_X10_takesSign_27 v 1 1 (rd_rs τ p 1) = some ((if v = 45 then -1 else 1), rd_rs τ p 1) := by
  have a0 : (0 : Int32) ||| 0 = 0 := by decide
  have a1 : (0 : Int32) ||| 1 = 1 := by decide
  have a2 : (1 : Int32) ||| 1 = 1 := by decide
  have e0 : ab_I (p : Int) + 0 = ab_I p := ab_Iadd (b := 0)
  have s48 : ∀ (q : Nat) (w : Int32) (s1 s0 : Int32), s1 + s0 = ab_I q → f_X10_takesSign_48 v s0 s1 (rd_rs τ p w) = some ((if v = 45 then -1 else 1), rd_rs τ q w) := fun q w s1 s0 h => by
    unfold f_X10_takesSign_48
    rw [h, rd_rs_p]
    split <;> rfl
  unfold f_X10_takesSign_27
  rw [a0, a1, a2, rd_rs_w, rd_rs_w, rd_rs_w, rd_26, rd_26, rd_24, rd_24]
  exact ⟨s48 _ _ _ _ (ab_I1 p), s48 _ _ _ _ e0, s48 _ _ _ _ e0⟩
theorem rd_ts (hT : rd_tx n ch) (hR : rd_txR τ n ch) (hp : p ≤ 1000) : (rd_ft 126 (ch p) ∧ f_X10_takesSign (rd_rs τ p 0) = some (ab_I (if ch p = 45 then -1 else 1), rd_rs τ (p + 1) 0)) ∨ (¬ rd_ft 126 (ch p) ∧ ∃ v, f_X10_takesSign (rd_rs τ p 0) = some (v, rd_rs τ p 1)) := by
  have hc := rd_chb hT p
  have ec : ∀ k : Int, -1 ≤ k → k ≤ 126 → ((ab_I (ch p) = ab_I k) ↔ ch p = k) := fun k k0 k1 => ab_Ieq (by omega) (by omega) (by omega) (by omega)
  have c43 : (ab_I (ch p) = 43) ↔ ch p = 43 := ec 43 (by decide) (by decide)
  have c45 : (ab_I (ch p) = 45) ↔ ch p = 45 := ec 45 (by decide) (by decide)
  have ev : (if ab_I (ch p) = 45 then (-1 : Int32) else 1) = ab_I (if ch p = 45 then -1 else 1) := by
    simp only [c45]
    split <;> rfl
  unfold f_X10_takesSign f_X10_takesSign_26
  rw [rd_mark hT hR hp, Option.bind_some, rd_26, rd_ts27.1, rd_ts27.2.1, ev]
  unfold rd_ft
  rw [if_neg (show ¬ ((126 : Int) = 35 ∨ (126 : Int) = 37) by decide), if_neg (show ¬ (126 : Int) = 64 by decide), if_pos (show (126 : Int) = 126 from rfl)]
  by_cases z1 : ch p = 43
  · rw [if_pos (c43.mpr z1)]
    exact .inl ⟨.inl z1, rfl⟩
  by_cases z2 : ch p = 45
  · rw [if_neg (fun h => z1 (c43.mp h)), if_pos (c45.mpr z2)]
    exact .inl ⟨.inr z2, rfl⟩
  · rw [if_neg (fun h => z1 (c43.mp h)), if_neg (fun h => z2 (c45.mp h))]
    exact .inr ⟨by omega, _, rfl⟩
theorem rd_ts1 : ∃ v, f_X10_takesSign (rd_rs τ p 1) = some (v, rd_rs τ p 1) := by
  unfold f_X10_takesSign
  rw [rd_mark1, Option.bind_some, rd_26, if_neg (show ¬ (-1 : Int32) = 43 by decide), if_neg (show ¬ (-1 : Int32) = 45 by decide)]
  exact ⟨_, rd_ts27.2.2⟩
/-- a wrong text stays so -/
theorem rd_bb1 {m : Int} (m1 : 1 ≤ m) (m2 : m ≤ 2) : f_X10_behindBlank (rd_rs τ p 1) (ab_I m) = some (0, rd_rs τ p 1) := by
  unfold f_X10_behindBlank
  rw [rd_blank1, Option.bind_some, rd_dig1 m1 m2, Option.bind_some]
theorem rd_s119 {v1 v2 v3 v4 : Int32} : f_X10_command_119 v1 v2 v3 v4 (rd_rs τ p 1) = some (rd_rs τ p 1) := by
  unfold f_X10_command_119
  rw [rd_26, if_neg (show ¬ (1 : Int32) = 0 by decide)]
theorem rd_s98 {v1 v2 v3 v4 : Int32} : f_X10_command_98 v1 v2 v3 v4 (rd_rs τ p 1) = some (rd_rs τ p 1) := by
  unfold f_X10_command_98
  split
  · obtain ⟨v, e⟩ := rd_ts1 (τ := τ) (p := p)
    rw [e, Option.bind_some, show f_X10_digits (rd_rs τ p 1) 1 = _ from rd_dig1 (m := 1) (by decide) (by decide), Option.bind_some, rd_s119]
  · exact rd_s119
theorem rd_s81 {v1 v2 v3 v4 : Int32} : f_X10_command_81 v1 v2 v3 v4 (rd_rs τ p 1) = some (rd_rs τ p 1) := by
  unfold f_X10_command_81
  split
  · obtain ⟨v, e⟩ := rd_td1 (τ := τ) (p := p)
    rw [e, Option.bind_some, show f_X10_digits (rd_rs τ p 1) 1 = _ from rd_dig1 (m := 1) (by decide) (by decide), Option.bind_some, rd_s98]
  · exact rd_s98
theorem rd_s64 {v1 v2 v3 v4 : Int32} : f_X10_command_64 v1 v2 v3 v4 (rd_rs τ p 1) = some (rd_rs τ p 1) := by
  unfold f_X10_command_64 f_X10_command_74
  rw [show f_X10_behindBlank (rd_rs τ p 1) 1 = _ from rd_bb1 (m := 1) (by decide) (by decide), Option.bind_some, rd_s81, rd_s81]
  (repeat' split) <;> rfl
theorem rd_s48 {v1 v2 v3 v4 : Int32} : f_X10_command_48 v1 v2 v3 v4 (rd_rs τ p 1) = some (rd_rs τ p 1) := by
  unfold f_X10_command_48 f_X10_command_58
  rw [show f_X10_behindBlank (rd_rs τ p 1) 2 = _ from rd_bb1 (m := 2) (by decide) (by decide), Option.bind_some, rd_s64, rd_s64]
  (repeat' split) <;> rfl
theorem rd_s22r {v1 v2 : Int32} : (if v1 = 1 then (f_X10_command_42 v1 v2 0 (rd_rs τ p 1)) else (if v1 = 6 then (f_X10_command_42 v1 v2 0 (rd_rs τ p 1)) else (f_X10_command_48 v1 v2 0 0 (rd_rs τ p 1)))) = some (rd_rs τ p 1) := by
  unfold f_X10_command_42
  rw [show f_X10_behindBlank (rd_rs τ p 1) 1 = _ from rd_bb1 (m := 1) (by decide) (by decide), Option.bind_some, rd_s48]
  (repeat' split) <;> rfl
theorem rd_s22 {v1 : Int32} {m : Int} (m1 : 1 ≤ m) (m2 : m ≤ 2) : f_X10_command_22 v1 (ab_I m) (rd_rs τ p 1) = some (rd_rs τ p 1) := by
  unfold f_X10_command_22
  rw [rd_bb1 m1 m2, Option.bind_some]
  exact rd_s22r
end
