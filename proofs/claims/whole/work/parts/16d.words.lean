/-! words -/
theorem rd_wlen {j : Nat} (hj : j < 8) : rd_wn j + 2 ≤ q_len.getD j 0 ∧ 3 ≤ rd_wn j ∧ rd_wn j ≤ 4 := by
  have h : ∀ j : Fin 8, rd_wn j.val + 2 ≤ q_len.getD j.val 0 ∧ 3 ≤ rd_wn j.val ∧ rd_wn j.val ≤ 4 := by decide +kernel
  exact h ⟨j, hj⟩
theorem rd_wlit {j k : Nat} (hj : j < 8) (hk : k < rd_wn j) : rd_sy j k ≠ 35 ∧ rd_sy j k ≠ 37 ∧ rd_sy j k ≠ 64 ∧ rd_sy j k ≠ 126 ∧ 97 ≤ rd_sy j k := by
  have h : ∀ j : Fin 8, ∀ k : Fin 4, k.val < rd_wn j.val → rd_sy j.val k.val ≠ 35 ∧ rd_sy j.val k.val ≠ 37 ∧ rd_sy j.val k.val ≠ 64 ∧ rd_sy j.val k.val ≠ 126 ∧ 97 ≤ rd_sy j.val k.val := by decide +kernel
  have := (rd_wlen hj).2.2
  exact h ⟨j, hj⟩ ⟨k, by omega⟩ hk
theorem rd_letter {j k : Nat} (hj : j < 8) (hk : k ≤ 4) : f_X10_letter (ab_I j) (ab_I k) = if k < rd_wn j then ab_I (rd_sy j k) else 0 := by
  have h : ∀ j : Fin 8, ∀ k : Fin 5, f_X10_letter (ab_I (j.val : Nat)) (ab_I (k.val : Nat)) = if k.val < rd_wn j.val then ab_I (rd_sy j.val k.val) else 0 := by decide +kernel
  exact h ⟨j, hj⟩ ⟨k, by omega⟩
theorem rd_formOf {j : Nat} (hj : j < 8) : f_X1_formOf (ab_I j) = j := by
  have h : ∀ j : Fin 8, f_X1_formOf (ab_I (j.val : Nat)) = j.val := by decide +kernel
  exact h ⟨j, hj⟩
theorem rd_wdiff {i j : Nat} (hi : i < 8) (hj : j < 8) (h : i ≠ j) : ∃ q, q < 3 ∧ rd_sy i q ≠ rd_sy j q := by
  have hh : ∀ i j : Fin 8, i ≠ j → rd_sy i.val 0 ≠ rd_sy j.val 0 ∨ rd_sy i.val 1 ≠ rd_sy j.val 1 ∨ rd_sy i.val 2 ≠ rd_sy j.val 2 := by decide +kernel
  rcases hh ⟨i, hi⟩ ⟨j, hj⟩ (fun e => h (congrArg Fin.val e)) with q | q | q
  · exact ⟨0, by decide, q⟩
  · exact ⟨1, by decide, q⟩
  · exact ⟨2, by decide, q⟩
/-- how many letters of a word stand there -/
theorem rd_lcp (ch : Nat → Int) (p j : Nat) : ∀ N : Nat, ∃ m, m ≤ N ∧ (∀ k, k < m → ch (p + k) = rd_sy j k) ∧ (m < N → ch (p + m) ≠ rd_sy j m) := by
  intro N
  induction N with
  | zero => exact ⟨0, Nat.le_refl _, fun k hk => absurd hk (by omega), fun h => absurd h (by omega)⟩
  | succ N ih =>
    obtain ⟨m, h1, h2, h3⟩ := ih
    by_cases q : m = N ∧ ch (p + m) = rd_sy j m
    · refine ⟨m + 1, by omega, fun k hk => ?_, fun h => absurd h (by omega)⟩
      by_cases e : k = m
      · rw [e]; exact q.2
      · exact h2 k (by omega)
    · refine ⟨m, by omega, h2, fun h => ?_⟩
      by_cases e : m = N
      · exact fun z => q ⟨e, z⟩
      · exact h3 (by omega)
section
variable {σ τ : q_S} {n p : Nat} {ch : Nat → Int}
theorem rd_pre_n (hT : rd_tx n ch) (hp : p ≤ n) {j m : Nat} (hj : j < 8) (hm : m ≤ rd_wn j) (h : ∀ k, k < m → ch (p + k) = rd_sy j k) : p + m ≤ n := by
  by_cases q : m = 0
  · omega
  · have e := h (m - 1) (by omega)
    have l := (rd_wlit hj (k := m - 1) (by omega)).2.2.2.2
    have := rd_lt hT (p := p + (m - 1)) (by omega)
    omega
theorem rd_wordC (hT : rd_tx n ch) (hC : rd_txC σ n ch) (hp : p ≤ 60) {j m : Nat} (hj : j < 8) (hm : m ≤ rd_wn j) (h : ∀ k, k < m → ch (p + k) = rd_sy j k) {v6 v7 : Int32} : ∀ r k : Nat, k + r = m → ∀ f, f_X1_match_13 j (f + r) (ab_I n) (ab_I ((p + k : Nat) : Int)) v6 v7 (ab_I k) σ = f_X1_match_13 j f (ab_I n) (ab_I ((p + m : Nat) : Int)) v6 v7 (ab_I m) σ := by
  have hw := rd_wlen hj
  intro r
  induction r with
  | zero =>
    intro k hk f
    rw [show k = m by omega]
    rfl
  | succ r ih =>
    intro k hk f
    have l := rd_wlit hj (k := k) (by omega)
    show f_X1_match_13 j (f + r + 1) _ _ _ _ _ σ = _
    rw [rd_ms_lit (f := f + r) hT hC hj (by omega) (by omega) (h k (by omega)) l.1 l.2.1 l.2.2.1 l.2.2.2.1]
    exact ih (k + 1) (by omega) f
/-- the form of a kind whose word doesn't stand there -/
theorem rd_match_no (hT : rd_tx n ch) (hC : rd_txC σ n ch) (hp : p ≤ 60) {j m : Nat} (hj : j < 8) (hm : m < rd_wn j) (h : ∀ k, k < m → ch (p + k) = rd_sy j k) (h2 : ch (p + m) ≠ rd_sy j m) : f_X1_match σ (f_X1_formOf (ab_I j)) (ab_I n) (ab_I p) = some (ab_I (-1 - ((p + m : Nat) : Int)), σ) := by
  have hw := rd_wlen hj
  have l := rd_wlit hj (k := m) hm
  rw [rd_formOf hj]
  have e := rd_wordC hT hC hp hj (m := m) (by omega) h (v6 := 0) (v7 := 1) m 0 (by omega) (3000 - m - 1 + 1)
  rw [show 3000 - m - 1 + 1 + m = q_fu by unfold q_fu; omega] at e
  refine Eq.trans e ?_
  refine rd_ms_no hT hC hj (by omega) (by omega) (fun z => h2 ?_)
  unfold rd_ft at z
  rw [if_neg (fun h => h.elim l.1 l.2.1), if_neg l.2.2.1, if_neg l.2.2.2.1] at z
  exact z
/-- .. of one whose word does -/
theorem rd_match_full (hT : rd_tx n ch) (hC : rd_txC σ n ch) (hp : p ≤ 60) {j : Nat} (hj : j < 8) (h : ∀ k, k < rd_wn j → ch (p + k) = rd_sy j k) : f_X1_match σ (f_X1_formOf (ab_I j)) (ab_I n) (ab_I p) = f_X1_match_13 j (3000 - rd_wn j - 7 + 7) (ab_I n) (ab_I ((p + rd_wn j : Nat) : Int)) (ab_I ((0 : Nat) : Int)) 1 (ab_I (rd_wn j : Nat)) σ := by
  have hw := rd_wlen hj
  rw [rd_formOf hj]
  have e := rd_wordC hT hC hp hj (m := rd_wn j) (Nat.le_refl _) h (v6 := 0) (v7 := 1) (rd_wn j) 0 (by omega) (3000 - rd_wn j - 7 + 7)
  rw [show 3000 - rd_wn j - 7 + 7 + rd_wn j = q_fu by unfold q_fu; omega] at e
  exact e
theorem rd_k12 (hT : rd_tx n ch) (hR : rd_txR τ n ch) (hp : p ≤ 60) {K : Int32 → Int32 → q_S → Option (Int32 × q_S)} {v1 : Int32} {j m : Nat} (hj : j < 8) (hm : m ≤ rd_wn j) (h : ∀ k, k < m → ch (p + k) = rd_sy j k) (h2 : m < rd_wn j → ch (p + m) ≠ rd_sy j m) : ∀ r k : Nat, k + r = m → ∀ f, r < f → f_X10_kindHere_12 K f v1 (ab_I j) (ab_I k) (rd_rs τ p 0) = f_X10_kindHere_58 K v1 (ab_I j) (ab_I m) (rd_rs τ p 0) := by
  have hw := rd_wlen hj
  have h60 := hT.1
  have hb := fun k => rd_syb (j := j) (i := k)
  intro r
  induction r with
  | zero =>
    intro k hk f hf
    obtain ⟨f, rfl⟩ : ∃ g, f = g + 1 := ⟨f - 1, by omega⟩
    have ek : k = m := by omega
    rw [ek, f_X10_kindHere_12, rd_letter hj (by omega)]
    by_cases q : m < rd_wn j
    · have l := (rd_wlit hj q).2.2.2.2
      have b := hb m
      have c := rd_chb hT (p + m)
      rw [if_pos q, if_neg (by rw [show (0 : Int32) = ab_I 0 from rfl, ab_Ile (by omega) (by omega) (by omega) (by omega)]; omega), rd_23, rd_24, hR.1, ab_ip]
      by_cases z : n ≤ p + m
      · rw [if_pos (by rw [ab_Ile (by omega) (by omega) (by omega) (by omega)]; omega)]
      · rw [if_neg (by rw [ab_Ile (by omega) (by omega) (by omega) (by omega)]; omega), if_neg (by rw [ab_Icl (by omega) (by omega), Int.toNat_natCast, ab_Iltc (by omega) (by omega)]; exact fun h => h.elim id (fun h => by omega)), ab_Icl (by omega) (by omega), Int.toNat_natCast, rd_299, hR.2 (p + m) (by omega), if_neg (by rw [ab_Ieq (by omega) (by omega) (by omega) (by omega)]; exact h2 q)]
    · rw [if_neg q, if_pos (by decide)]
  | succ r ih =>
    intro k hk f hf
    obtain ⟨f, rfl⟩ : ∃ g, f = g + 1 := ⟨f - 1, by omega⟩
    have l := (rd_wlit hj (k := k) (by omega)).2.2.2.2
    have b := hb k
    have e := h k (by omega)
    have hlt := rd_lt hT (p := p + k) (by omega)
    rw [f_X10_kindHere_12, rd_letter hj (by omega), if_pos (show k < rd_wn j by omega), if_neg (by rw [show (0 : Int32) = ab_I 0 from rfl, ab_Ile (by omega) (by omega) (by omega) (by omega)]; omega), rd_23, rd_24, hR.1, ab_ip, if_neg (by rw [ab_Ile (by omega) (by omega) (by omega) (by omega)]; omega), if_neg (by rw [ab_Icl (by omega) (by omega), Int.toNat_natCast, ab_Iltc (by omega) (by omega)]; exact fun h => h.elim id (fun h => by omega)), ab_Icl (by omega) (by omega), Int.toNat_natCast, rd_299, hR.2 (p + k) hlt, e, if_pos rfl, ab_I1]
    exact ih (k + 1) (by omega) f (by omega)
def rd_mx (a b : Nat) : Nat := if b ≤ a then a else b
theorem rd_k58_no {K : Int32 → Int32 → q_S → Option (Int32 × q_S)} {j m mx : Nat} (hj : j < 8) (hm : m < rd_wn j) (hx : mx ≤ 100) : f_X10_kindHere_58 K (ab_I mx) (ab_I j) (ab_I m) (rd_rs τ p 0) = K (ab_I (rd_mx mx m : Nat)) (ab_I ((j + 1 : Nat) : Int)) (rd_rs τ p 0) := by
  have hw := rd_wlen hj
  have l := (rd_wlit hj hm).2.2.2.2
  have b := rd_syb (j := j) (i := m)
  unfold f_X10_kindHere_58 rd_mx
  rw [rd_letter hj (by omega), if_pos hm, if_neg (by rw [show (0 : Int32) = ab_I 0 from rfl, ab_Ieq (by omega) (by omega) (by omega) (by omega)]; omega), ab_I1]
  by_cases q : m ≤ mx
  · rw [if_pos (by rw [ab_Ile (by omega) (by omega) (by omega) (by omega)]; omega), if_pos q]
  · rw [if_neg (by rw [ab_Ile (by omega) (by omega) (by omega) (by omega)]; omega), if_neg q]
theorem rd_k58_full {K : Int32 → Int32 → q_S → Option (Int32 × q_S)} {v1 : Int32} {j : Nat} (hj : j < 8) : f_X10_kindHere_58 K v1 (ab_I j) (ab_I (rd_wn j : Nat)) (rd_rs τ p 0) = some (ab_I j, rd_rs τ (p + rd_wn j) 0) := by
  have hw := rd_wlen hj
  unfold f_X10_kindHere_58
  rw [rd_letter hj (by omega), if_neg (show ¬ rd_wn j < rd_wn j by omega), if_pos rfl, rd_24, ab_ip, rd_rs_p]
/-- the farthest of two places, as the first program takes it -/
theorem rd_far {p a b : Nat} (hp : p ≤ 100) (ha : a ≤ 100) (hb : b ≤ 100) : (if ab_I ((p + a : Nat) : Int) < (-1) - ab_I (-1 - ((p + b : Nat) : Int)) then (-1) - ab_I (-1 - ((p + b : Nat) : Int)) else ab_I ((p + a : Nat) : Int)) = ab_I ((p + rd_mx a b : Nat) : Int) := by
  have e : (-1 : Int32) - ab_I (-1 - ((p + b : Nat) : Int)) = ab_I ((p + b : Nat) : Int) := by
    rw [show (-1 : Int32) = ab_I (-1) from rfl, ab_Isub]
    exact congrArg ab_I (by omega)
  rw [e]
  unfold rd_mx
  by_cases q : b ≤ a
  · rw [if_neg (by rw [ab_Ilt (by omega) (by omega) (by omega) (by omega)]; omega), if_pos q]
  · rw [if_pos (by rw [ab_Ilt (by omega) (by omega) (by omega) (by omega)]; omega), if_neg q]
theorem rd_rest (hT : rd_tx n ch) (hC : rd_txC σ n ch) (hp : p ≤ 60) {j0 : Nat} (hj0 : j0 < 8) (h0 : ∀ k, k < rd_wn j0 → ch (p + k) = rd_sy j0 k) {a : Nat} (ha3 : 3 ≤ a) (ha : a ≤ 100) : ∀ r j : Nat, j + r = 8 → j0 < j → ∀ f, r < f → f_X1_understandOne_6 f (ab_I n) (ab_I p) (ab_I ((p + a : Nat) : Int)) (ab_I j) σ = some (ab_I (-1 - ((p + a : Nat) : Int)), σ) := by
  intro r
  induction r with
  | zero =>
    intro j hj hlt f hf
    obtain ⟨f, rfl⟩ : ∃ g, f = g + 1 := ⟨f - 1, by omega⟩
    rw [f_X1_understandOne_6, if_pos (by rw [show (8 : Int32) = ab_I 8 from rfl, ab_Ile (by omega) (by omega) (by omega) (by omega)]; omega), show (-1 : Int32) = ab_I (-1) from rfl, ab_Isub]
  | succ r ih =>
    intro j hj hlt f hf
    obtain ⟨f, rfl⟩ : ∃ g, f = g + 1 := ⟨f - 1, by omega⟩
    have hw := rd_wlen (j := j) (by omega)
    have hw0 := rd_wlen hj0
    obtain ⟨m, m1, m2, m3⟩ := rd_lcp ch p j (rd_wn j)
    obtain ⟨q, q1, q2⟩ := rd_wdiff (i := j0) (j := j) hj0 (by omega) (by omega)
    have hmq : m ≤ q := by
      by_cases z : q < m
      · exact absurd ((h0 q (by omega)).symm.trans (m2 q z)) q2
      · omega
    rw [f_X1_understandOne_6, if_neg (by rw [show (8 : Int32) = ab_I 8 from rfl, ab_Ile (by omega) (by omega) (by omega) (by omega)]; omega), rd_match_no hT hC hp (by omega) (by omega) m2 (m3 (by omega)), Option.bind_some, if_pos (by rw [show (0 : Int32) = ab_I 0 from rfl, ab_Ilt (by omega) (by omega) (by omega) (by omega)]; omega), rd_far (by omega) (by omega) (by omega), show rd_mx a m = a by unfold rd_mx; rw [if_pos (by omega)], ab_I1]
    exact ih (j + 1) (by omega) (by omega) f (by omega)
end
