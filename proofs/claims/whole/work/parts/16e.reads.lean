/-! one command, then all of them -/
section
variable {σ τ : q_S} {n p : Nat} {ch : Nat → Int}
def rd_cmd (q1 : Int32 × q_S) : Option q_S := if q1.1 = 1 then (f_X10_command_17 q1.1 q1.2) else (if q1.1 = 7 then (f_X10_command_17 q1.1 q1.2) else (f_X10_command_22 q1.1 1 q1.2))
theorem rd_cmd2 {v : Int32} {ρ : q_S} (h : v = 1 ∨ v = 7) : rd_cmd (v, ρ) = f_X10_command_22 v 2 ρ := by
  unfold rd_cmd f_X10_command_17
  by_cases q : v = 1
  · rw [if_pos q]
  · rw [if_neg q, if_pos (h.resolve_left q)]
theorem rd_cmd1 {v : Int32} {ρ : q_S} (h1 : v ≠ 1) (h7 : v ≠ 7) : rd_cmd (v, ρ) = f_X10_command_22 v 1 ρ := by
  unfold rd_cmd
  rw [if_neg h1, if_neg h7]
theorem rd_tail (hT : rd_tx n ch) (hC : rd_txC σ n ch) (hR : rd_txR τ n ch) {j f : Nat} (hj : j < 8) (hp : p ≤ n) : rd_pr n p j σ τ (f_X1_match_13 j (f + 7) (ab_I n) (ab_I p) (ab_I ((0 : Nat) : Int)) 1 (ab_I (rd_wn j : Nat)) σ) (rd_cmd (ab_I j, rd_rs τ p 0)) := by
  have h : j = 0 ∨ j = 1 ∨ j = 2 ∨ j = 3 ∨ j = 4 ∨ j = 5 ∨ j = 6 ∨ j = 7 := by omega
  rcases h with rfl | rfl | rfl | rfl | rfl | rfl | rfl | rfl
  · rw [rd_cmd1 (show ab_I ((0 : Nat) : Int) ≠ 1 by decide) (show ab_I ((0 : Nat) : Int) ≠ 7 by decide)]
    exact rd_t0 hT hC hR hp
  · rw [rd_cmd2 (.inl (show ab_I ((1 : Nat) : Int) = 1 by decide))]
    exact rd_t1 hT hC hR hp
  · rw [rd_cmd1 (show ab_I ((2 : Nat) : Int) ≠ 1 by decide) (show ab_I ((2 : Nat) : Int) ≠ 7 by decide)]
    exact rd_t2 hT hC hR hp
  · rw [rd_cmd1 (show ab_I ((3 : Nat) : Int) ≠ 1 by decide) (show ab_I ((3 : Nat) : Int) ≠ 7 by decide)]
    exact rd_t3 hT hC hR hp
  · rw [rd_cmd1 (show ab_I ((4 : Nat) : Int) ≠ 1 by decide) (show ab_I ((4 : Nat) : Int) ≠ 7 by decide)]
    exact rd_t4 hT hC hR hp
  · rw [rd_cmd1 (show ab_I ((5 : Nat) : Int) ≠ 1 by decide) (show ab_I ((5 : Nat) : Int) ≠ 7 by decide)]
    exact rd_t5 hT hC hR hp
  · rw [rd_cmd1 (show ab_I ((6 : Nat) : Int) ≠ 1 by decide) (show ab_I ((6 : Nat) : Int) ≠ 7 by decide)]
    exact rd_t6 hT hC hR hp
  · rw [rd_cmd2 (.inr (show ab_I ((7 : Nat) : Int) = 7 by decide))]
    exact rd_t7 hT hC hR hp
def rd_res (n p : Nat) (σ τ : q_S) (rc : Option (Int32 × q_S)) (rr : Option q_S) : Prop :=
  ∃ (p' : Nat) (σ' : q_S), p ≤ p' ∧ p' ≤ n ∧ (∀ c, c ≠ 289 → σ' c = σ c) ∧
    ((rc = some (ab_I (-1 - p'), σ') ∧ rr = some (rd_rs τ p' 1)) ∨
    (p + 5 ≤ p' ∧ ∃ (j : Nat) (a b c : Int32), j < 8 ∧ rc = some (ab_I p', f_X1_add σ' (ab_I j)) ∧ rr = f_X10_command_119 (ab_I j) a b c (rd_rs τ p' 0) ∧ σ' 289 0 = a ∧ ((j = 1 ∨ j = 2 ∨ j = 4 ∨ j = 6) → σ' 289 1 = b) ∧ (j = 3 → f_X10_directionOf (σ' 289 1) = b ∧ ¬ f_X10_directionOf (σ' 289 1) < 0) ∧ ((j = 1 ∨ j = 2 ∨ j = 3 ∨ j = 4) → σ' 289 2 = c)))
theorem rd_one_lp (hT : rd_tx n ch) (hC : rd_txC σ n ch) (hR : rd_txR τ n ch) : ∀ r j : Nat, j + r = 8 → ∀ f f2, r < f → r < f2 → ∀ mx : Nat, mx ≤ 3 → p + mx ≤ n → rd_res n p σ τ (f_X1_understandOne_6 f (ab_I n) (ab_I p) (ab_I ((p + mx : Nat) : Int)) (ab_I j) σ) (Option.bind (f_X10_kindHere_4 f2 (ab_I mx) (ab_I j) (rd_rs τ p 0)) rd_cmd) := by
  have h60 := hT.1
  intro r
  induction r with
  | zero =>
    intro j hj f f2 hf hf2 mx hm hp
    obtain ⟨f, rfl⟩ : ∃ g, f = g + 1 := ⟨f - 1, by omega⟩
    obtain ⟨f2, rfl⟩ : ∃ g, f2 = g + 1 := ⟨f2 - 1, by omega⟩
    refine ⟨p + mx, σ, by omega, hp, fun _ _ => rfl, .inl ⟨?_, ?_⟩⟩
    · rw [f_X1_understandOne_6, if_pos (by rw [show (8 : Int32) = ab_I 8 from rfl, ab_Ile (by omega) (by omega) (by omega) (by omega)]; omega), show (-1 : Int32) = ab_I (-1) from rfl, ab_Isub]
    · rw [f_X10_kindHere_4, if_pos (by rw [show (8 : Int32) = ab_I 8 from rfl, ab_Ile (by omega) (by omega) (by omega) (by omega)]; omega), rd_24, ab_ip, rd_rs_p, rd_rs_w, Option.bind_some, rd_cmd1 (by decide) (by decide)]
      exact rd_s22 (m := 1) (by decide) (by decide)
  | succ r ih =>
    intro j hj f f2 hf hf2 mx hm hp
    obtain ⟨f, rfl⟩ : ∃ g, f = g + 1 := ⟨f - 1, by omega⟩
    obtain ⟨f2, rfl⟩ : ∃ g, f2 = g + 1 := ⟨f2 - 1, by omega⟩
    have hj8 : j < 8 := by omega
    have hw := rd_wlen hj8
    obtain ⟨m, m1, m2, m3⟩ := rd_lcp ch p j (rd_wn j)
    have hpm := rd_pre_n hT (by omega) hj8 m1 m2
    rw [f_X1_understandOne_6, if_neg (by rw [show (8 : Int32) = ab_I 8 from rfl, ab_Ile (by omega) (by omega) (by omega) (by omega)]; omega)]
    rw [f_X10_kindHere_4, if_neg (by rw [show (8 : Int32) = ab_I 8 from rfl, ab_Ile (by omega) (by omega) (by omega) (by omega)]; omega), show f_X10_kindHere_12 (f_X10_kindHere_4 f2) q_fu (ab_I mx) (ab_I j) 0 (rd_rs τ p 0) = _ from rd_k12 hT hR (by omega) hj8 m1 m2 m3 m 0 (by omega) q_fu (by unfold q_fu; omega)]
    by_cases q : m < rd_wn j
    · rw [rd_match_no hT hC (by omega) hj8 q m2 (m3 q), Option.bind_some, if_pos (by rw [show (0 : Int32) = ab_I 0 from rfl, ab_Ilt (by omega) (by omega) (by omega) (by omega)]; omega), rd_far (by omega) (by omega) (by omega), rd_k58_no hj8 q (by omega), ab_I1]
      refine ih (j + 1) (by omega) f f2 (by omega) (by omega) (rd_mx mx m) ?_ ?_
      · unfold rd_mx; split <;> omega
      · unfold rd_mx; split <;> omega
    · have em : m = rd_wn j := by omega
      subst em
      rw [rd_match_full hT hC (by omega) hj8 m2, rd_k58_full hj8, Option.bind_some]
      obtain ⟨p', σ', a1, a2, a3, ⟨a4, a5⟩ | ⟨a4, a5, a, b, c, a6, a7⟩⟩ := rd_tail hT hC hR (f := 3000 - rd_wn j - 7) hj8 hpm
      · refine ⟨p', σ', by omega, a2, a3, .inl ⟨?_, a5⟩⟩
        have hC' : rd_txC σ' n ch := fun k hk => by rw [a3 283 (by decide)]; exact hC k hk
        obtain ⟨g, hg⟩ : ∃ g, p' = p + g := ⟨p' - p, by omega⟩
        rw [a4, Option.bind_some, if_pos (by rw [show (0 : Int32) = ab_I 0 from rfl, ab_Ilt (by omega) (by omega) (by omega) (by omega)]; omega), hg, rd_far (by omega) (by omega) (by omega), show rd_mx mx g = g by unfold rd_mx; split <;> omega, ab_I1]
        exact rd_rest hT hC' (by omega) hj8 m2 (by omega) (by omega) r (j + 1) (by omega) (by omega) f (by omega)
      · refine ⟨p', σ', by omega, a2, a3, .inr ⟨by omega, j, a, b, c, hj8, ?_, a6, a7⟩⟩
        rw [a5, Option.bind_some, if_neg (by rw [ab_Iltc (by omega) (by omega)]; exact id)]
theorem rd_one (hT : rd_tx n ch) (hC : rd_txC σ n ch) (hR : rd_txR τ n ch) (hp : p ≤ n) : rd_res n p σ τ (f_X1_understandOne σ (ab_I n) (ab_I p)) (f_X10_command (rd_rs τ p 0)) :=
  rd_one_lp hT hC hR 8 0 (by decide) q_fu q_fu (by unfold q_fu; omega) (by unfold q_fu; omega) 0 (by decide) (by omega)
/-! what is kept of a command -/
theorem rd_rs_c {w : Int32} {c k : Nat} {v : Int32} (hc : c ≠ 292) : q_up (rd_rs τ p w) c k v = rd_rs (q_up τ c k v) p w := by
  funext c2 k2
  by_cases h : c2 = c
  · subst h
    unfold rd_rs
    rw [if_neg hc]
    by_cases h2 : k2 = k
    · subst h2
      rw [ab_up_at, ab_up_at]
    · rw [ab_up_nk h2, ab_up_nk h2]
      exact if_neg hc
  · rw [ab_up_ne h]
    unfold rd_rs
    rw [ab_up_ne h, ab_up_ne (Ne.symm hc)]
theorem rd_rs_k {w : Int32} {k : Nat} {v : Int32} (h1 : k ≠ 24) (h2 : k ≠ 26) : q_up (rd_rs τ p w) 292 k v = rd_rs (q_up τ 292 k v) p w := by
  funext c2 k2
  by_cases h : c2 = 292
  · subst h
    by_cases e : k2 = k
    · subst e
      rw [ab_up_at]
      unfold rd_rs
      rw [if_pos rfl, if_neg h1, if_neg h2, ab_up_at]
    · rw [ab_up_nk e]
      unfold rd_rs
      rw [if_pos rfl, if_pos rfl, ab_up_nk e]
  · rw [ab_up_ne h]
    unfold rd_rs
    rw [if_neg h, if_neg h, ab_up_ne h]
theorem rd_25 {w : Int32} : rd_rs τ p w 292 25 = τ 292 25 := rfl
theorem rd_119 {i : Nat} (hc : τ 292 25 = ab_I i) (hi : i < 32) {k a b c : Int32} : f_X10_command_119 k a b c (rd_rs τ p 0) = some (rd_rs (q_up (q_up (q_up (q_up (q_up τ 300 i k) 301 (3 * i) a) 301 (3 * i + 1) b) 301 (3 * i + 2) c) 292 25 (ab_I ((i + 1 : Nat) : Int))) p 0) := by
  have hcl : (ab_I (i : Int)).toNatClampNeg = i := by rw [ab_Icl (by omega) (by omega), Int.toNat_natCast]
  have e3 : (3 : Int32) * ab_I i = ab_I ((3 * i : Nat) : Int) := by
    rw [show (3 : Int32) = ab_I 3 from rfl, ab_Imul]
    exact congrArg ab_I (by omega)
  have e31 : ab_I ((3 * i : Nat) : Int) + 1 = ab_I ((3 * i + 1 : Nat) : Int) := ab_ip (c := 1)
  have e32 : ab_I ((3 * i : Nat) : Int) + 2 = ab_I ((3 * i + 2 : Nat) : Int) := ab_ip (c := 2)
  have h3 : ∀ m : Nat, m < 96 → (ab_I (m : Int)).toNatClampNeg = m ∧ ¬ (ab_I (m : Int) < 0 ∨ 96 ≤ m) := fun m hm => by
    refine ⟨by rw [ab_Icl (by omega) (by omega), Int.toNat_natCast], ?_⟩
    rw [ab_Iltc (by omega) (by omega)]
    exact fun h => h.elim id (fun h => by omega)
  have g0 : ¬ (ab_I (i : Int) < 0 ∨ 32 ≤ i) := by
    rw [ab_Iltc (by omega) (by omega)]
    exact fun h => h.elim id (fun h => by omega)
  unfold f_X10_command_119
  rw [rd_26, if_pos (show (0 : Int32) = 0 from rfl)]
  simp only [rd_25, hc, hcl, rd_rs_c (show (300 : Nat) ≠ 292 by decide), rd_rs_c (show (301 : Nat) ≠ 292 by decide), ab_up_ne (show (292 : Nat) ≠ 300 by decide), ab_up_ne (show (292 : Nat) ≠ 301 by decide), e3, e31, e32, (h3 (3 * i) (by omega)).1, (h3 (3 * i + 1) (by omega)).1, (h3 (3 * i + 2) (by omega)).1]
  rw [if_neg g0, if_neg (h3 (3 * i) (by omega)).2, if_neg (h3 (3 * i + 1) (by omega)).2, if_neg (h3 (3 * i + 2) (by omega)).2, ab_I1, rd_rs_k (by decide) (by decide)]
theorem rd_n0 : f_X9_numberAt σ 289 3 0 = σ 289 0 := ab_at (i := 0) (by decide) (by decide)
theorem rd_n1 : f_X9_numberAt σ 289 3 1 = σ 289 1 := ab_at (i := 1) (by decide) (by decide)
theorem rd_n2 : f_X9_numberAt σ 289 3 2 = σ 289 2 := ab_at (i := 2) (by decide) (by decide)
theorem rd_add {i : Nat} (hc : σ 284 0 = ab_I i) (hi : i < 10) {k : Int32} : f_X1_add σ k = q_up (q_up (q_up (q_up (q_up σ 285 i k) 286 i (σ 289 0)) 287 i (σ 289 1)) 288 i (σ 289 2)) 284 0 (ab_I ((i + 1 : Nat) : Int)) := by
  unfold f_X1_add
  simp only [rd_n0, rd_n1, rd_n2, hc, ab_put hi (show 10 < 2000000000 by decide), ab_up_ne (show (284 : Nat) ≠ 285 by decide), ab_up_ne (show (284 : Nat) ≠ 286 by decide), ab_up_ne (show (284 : Nat) ≠ 287 by decide), ab_up_ne (show (284 : Nat) ≠ 288 by decide), ab_up_ne (show (289 : Nat) ≠ 285 by decide), ab_up_ne (show (289 : Nat) ≠ 286 by decide), ab_up_ne (show (289 : Nat) ≠ 287 by decide), ab_up_ne (show (289 : Nat) ≠ 288 by decide), ab_I1]
/-- the command i is the same for both -/
def rd_cm (σ τ : q_S) (i : Nat) : Prop := ∃ j : Nat, j < 8 ∧ σ 285 i = ab_I j ∧ τ 300 i = ab_I j ∧ σ 286 i = τ 301 (3 * i) ∧ ((j = 1 ∨ j = 2 ∨ j = 4 ∨ j = 6) → σ 287 i = τ 301 (3 * i + 1)) ∧ (j = 3 → f_X10_directionOf (σ 287 i) = τ 301 (3 * i + 1) ∧ ¬ f_X10_directionOf (σ 287 i) < 0) ∧ ((j = 1 ∨ j = 2 ∨ j = 3 ∨ j = 4) → σ 288 i = τ 301 (3 * i + 2))
theorem rd_r32_1 {f : Nat} : f_X10_reads_32 (f + 1) (rd_rs τ p 1) = some (rd_rs τ p 1) := by
  have a1 : (1 : Int32) ||| 0 = 1 := by decide
  have a2 : (1 : Int32) ||| 1 = 1 := by decide
  rw [f_X10_reads_32, rd_mark1, Option.bind_some, if_neg (show ¬ (-1 : Int32) = 59 by decide)]
  simp only [rd_26, a1, a2, rd_rs_w, or_true, if_true]
  split <;> rfl
theorem rd_r32_0 (hT : rd_tx n ch) (hR : rd_txR τ n ch) (hp : p ≤ n) {f : Nat} : (ch p = 59 ∧ p < n ∧ f_X10_reads_32 (f + 1) (rd_rs τ p 0) = Option.bind (f_X10_command (rd_rs τ (p + 1) 0)) (fun q7 => f_X10_reads_32 f q7)) ∨ (p = n ∧ f_X10_reads_32 (f + 1) (rd_rs τ p 0) = some (rd_rs τ p 0)) ∨ (ch p ≠ 59 ∧ p < n ∧ f_X10_reads_32 (f + 1) (rd_rs τ p 0) = some (rd_rs τ p 1)) := by
  have h60 := hT.1
  have hc := rd_chb hT p
  have a1 : (0 : Int32) ||| 0 = 0 := by decide
  have a2 : (0 : Int32) ||| 1 = 1 := by decide
  rw [f_X10_reads_32, rd_mark hT hR (by omega), Option.bind_some, rd_24, rd_23, hR.1, ab_I1, rd_rs_p]
  simp only [rd_26, a1, a2, rd_rs_w, or_true, true_or, if_true]
  by_cases q : ch p = 59
  · have := rd_lt hT (p := p) (by omega)
    rw [if_pos (show ab_I (ch p) = 59 by rw [q]; rfl)]
    exact .inl ⟨q, this, rfl⟩
  · rw [if_neg (show ¬ ab_I (ch p) = 59 by rw [show (59 : Int32) = ab_I 59 from rfl, ab_Ieq (by omega) (by omega) (by omega) (by omega)]; exact q)]
    by_cases z : p = n
    · rw [if_pos (by rw [ab_Ile (by omega) (by omega) (by omega) (by omega)]; omega)]
      exact .inr (.inl ⟨z, rfl⟩)
    · rw [if_neg (by rw [ab_Ile (by omega) (by omega) (by omega) (by omega)]; omega)]
      exact .inr (.inr ⟨q, by omega, rfl⟩)
def rd_f1 (σ σ' : q_S) : Prop := ∀ c, (c < 284 ∨ 290 ≤ c) → σ' c = σ c
def rd_f2 (τ τ' : q_S) : Prop := (∀ c, c ≠ 292 → c ≠ 300 → c ≠ 301 → τ' c = τ c) ∧ ∀ k, k ≠ 25 → τ' 292 k = τ 292 k
def rd_all (n : Nat) (σ τ : q_S) (rc : Option (Int32 × q_S)) (rr : Option q_S) : Prop :=
  ∃ (σ' τ' : q_S) (p : Nat), rd_f1 σ σ' ∧ rd_f2 τ τ' ∧ p ≤ n ∧
    ((rc = some (ab_I p, σ') ∧ rr = some (rd_rs τ' p 1)) ∨
    (rc = some (-1, σ') ∧ rr = some (rd_rs τ' p 0) ∧ ∃ m : Nat, m ≤ 10 ∧ σ' 284 0 = ab_I m ∧ τ' 292 25 = ab_I m ∧ ∀ k, k < m → rd_cm σ' τ' k))
theorem rd_all_lp (hT : rd_tx n ch) {σ0 τ0 : q_S} : ∀ r i : Nat, i + r = 10 → ∀ f f2, r < f → r < f2 → ∀ (σ τ : q_S) (p : Nat), rd_txC σ n ch → rd_txR τ n ch → rd_f1 σ0 σ → rd_f2 τ0 τ → 6 * i ≤ p → p ≤ n → σ 284 0 = ab_I i → τ 292 25 = ab_I i → (∀ k, k < i → rd_cm σ τ k) → rd_all n σ0 τ0 (f_X1_understand_10 f (ab_I n) (ab_I p) (ab_I i) σ) (Option.bind (f_X10_command (rd_rs τ p 0)) (fun q7 => f_X10_reads_32 f2 q7)) := by
  have h60 := hT.1
  intro r
  induction r with
  | zero =>
    intro i hi f f2 hf hf2 σ τ p hC hR g1 g2 h6 hp c1 c2 hcm
    obtain ⟨f, rfl⟩ : ∃ g, f = g + 1 := ⟨f - 1, by omega⟩
    obtain ⟨f2, rfl⟩ : ∃ g, f2 = g + 1 := ⟨f2 - 1, by omega⟩
    obtain ⟨p', σ', a1, a2, a3, ⟨a4, a5⟩ | ⟨a4, _⟩⟩ := rd_one hT hC hR hp
    · refine ⟨σ, τ, p, g1, g2, hp, .inl ⟨?_, ?_⟩⟩
      · rw [f_X1_understand_10, if_pos (by rw [show (10 : Int32) = ab_I 10 from rfl, ab_Ile (by omega) (by omega) (by omega) (by omega)]; omega)]
      · rw [a5, Option.bind_some, rd_r32_1, show p' = p by omega]
    · omega
  | succ r ih =>
    intro i hi f f2 hf hf2 σ τ p hC hR g1 g2 h6 hp c1 c2 hcm
    obtain ⟨f, rfl⟩ : ∃ g, f = g + 1 := ⟨f - 1, by omega⟩
    obtain ⟨f2, rfl⟩ : ∃ g, f2 = g + 1 := ⟨f2 - 1, by omega⟩
    rw [f_X1_understand_10, if_neg (by rw [show (10 : Int32) = ab_I 10 from rfl, ab_Ile (by omega) (by omega) (by omega) (by omega)]; omega)]
    obtain ⟨p', σ', a1, a2, a3, ⟨a4, a5⟩ | ⟨a4, j, a, b, c, hj, a5, a6, a7, a8, a9, a10⟩⟩ := rd_one hT hC hR hp
    · refine ⟨σ', τ, p', fun c h => by rw [a3 c (by omega)]; exact g1 c h, g2, a2, .inl ⟨?_, ?_⟩⟩
      · rw [a4, Option.bind_some, if_neg (by rw [show (0 : Int32) = ab_I 0 from rfl, ab_Ile (by omega) (by omega) (by omega) (by omega)]; omega), show (-1 : Int32) = ab_I (-1) from rfl, ab_Isub]
        refine congrArg some (Prod.ext (congrArg ab_I ?_) rfl)
        omega
      · rw [a5, Option.bind_some, rd_r32_1]
    · have c1' : σ' 284 0 = ab_I i := by rw [a3 284 (by decide)]; exact c1
      rw [rd_add c1' (by omega)] at a5
      rw [rd_119 c2 (by omega)] at a6
      generalize hσ2 : q_up (q_up (q_up (q_up (q_up σ' 285 i (ab_I j)) 286 i (σ' 289 0)) 287 i (σ' 289 1)) 288 i (σ' 289 2)) 284 0 (ab_I ((i + 1 : Nat) : Int)) = σ2 at a5
      generalize hτ2 : q_up (q_up (q_up (q_up (q_up τ 300 i (ab_I j)) 301 (3 * i) a) 301 (3 * i + 1) b) 301 (3 * i + 2) c) 292 25 (ab_I ((i + 1 : Nat) : Int)) = τ2 at a6
      have s285 : ∀ k, σ2 285 k = if k = i then ab_I j else σ 285 k := fun k => by
        rw [← hσ2, ab_up_ne (by decide), ab_up_ne (by decide), ab_up_ne (by decide), ab_up_ne (by decide), ab_up, if_pos rfl, a3 285 (by decide)]
      have s286 : ∀ k, σ2 286 k = if k = i then σ' 289 0 else σ 286 k := fun k => by
        rw [← hσ2, ab_up_ne (by decide), ab_up_ne (by decide), ab_up_ne (by decide), ab_up, if_pos rfl, ab_up_ne (by decide), a3 286 (by decide)]
      have s287 : ∀ k, σ2 287 k = if k = i then σ' 289 1 else σ 287 k := fun k => by
        rw [← hσ2, ab_up_ne (by decide), ab_up_ne (by decide), ab_up, if_pos rfl, ab_up_ne (by decide), ab_up_ne (by decide), a3 287 (by decide)]
      have s288 : ∀ k, σ2 288 k = if k = i then σ' 289 2 else σ 288 k := fun k => by
        rw [← hσ2, ab_up_ne (by decide), ab_up, if_pos rfl, ab_up_ne (by decide), ab_up_ne (by decide), ab_up_ne (by decide), a3 288 (by decide)]
      have s284 : σ2 284 0 = ab_I ((i + 1 : Nat) : Int) := by rw [← hσ2, ab_up_at]
      have sfr : ∀ c, (c < 284 ∨ 290 ≤ c) → σ2 c = σ c := fun c h => by
        rw [← hσ2, ab_up_ne (by omega), ab_up_ne (by omega), ab_up_ne (by omega), ab_up_ne (by omega), ab_up_ne (by omega), a3 c (by omega)]
      have t300 : ∀ k, τ2 300 k = if k = i then ab_I j else τ 300 k := fun k => by
        rw [← hτ2, ab_up_ne (by decide), ab_up_ne (by decide), ab_up_ne (by decide), ab_up_ne (by decide), ab_up, if_pos rfl]
      have t301 : ∀ k, τ2 301 k = if k = 3 * i + 2 then c else if k = 3 * i + 1 then b else if k = 3 * i then a else τ 301 k := fun k => by
        rw [← hτ2, ab_up_ne (by decide), ab_up, if_pos rfl, ab_up, if_pos rfl, ab_up, if_pos rfl, ab_up_ne (by decide)]
      have t25 : τ2 292 25 = ab_I ((i + 1 : Nat) : Int) := by rw [← hτ2, ab_up_at]
      have tfr : rd_f2 τ τ2 := ⟨fun c h1 h2 h3 => by rw [← hτ2, ab_up_ne h1, ab_up_ne h3, ab_up_ne h3, ab_up_ne h3, ab_up_ne h2], fun k hk => by rw [← hτ2, ab_up_nk hk, ab_up_ne (by decide), ab_up_ne (by decide), ab_up_ne (by decide), ab_up_ne (by decide)]⟩
      have hC2 : rd_txC σ2 n ch := fun k hk => by rw [sfr 283 (by omega)]; exact hC k hk
      have hR2 : rd_txR τ2 n ch := ⟨by rw [tfr.2 23 (by decide)]; exact hR.1, fun k hk => by rw [tfr.1 299 (by decide) (by decide) (by decide)]; exact hR.2 k hk⟩
      have f1 : rd_f1 σ0 σ2 := fun c h => (sfr c h).trans (g1 c h)
      have f2' : rd_f2 τ0 τ2 := ⟨fun c h1 h2 h3 => (tfr.1 c h1 h2 h3).trans (g2.1 c h1 h2 h3), fun k hk => (tfr.2 k hk).trans (g2.2 k hk)⟩
      have hcm2 : ∀ k, k < i + 1 → rd_cm σ2 τ2 k := by
        intro k hk
        by_cases e : k = i
        · subst e
          refine ⟨j, hj, ?_, ?_, ?_, fun h => ?_, fun h => ?_, fun h => ?_⟩
          · rw [s285, if_pos rfl]
          · rw [t300, if_pos rfl]
          · rw [s286, if_pos rfl, t301, if_neg (by omega), if_neg (by omega), if_pos rfl]; exact a7
          · rw [s287, if_pos rfl, t301, if_neg (by omega), if_pos rfl]; exact a8 h
          · rw [s287, if_pos rfl, t301, if_neg (by omega), if_pos rfl]; exact a9 h
          · rw [s288, if_pos rfl, t301, if_pos rfl]; exact a10 h
        · obtain ⟨j2, b1, b2, b3, b4, b5, b6, b7⟩ := hcm k (by omega)
          refine ⟨j2, b1, ?_, ?_, ?_, fun h => ?_, fun h => ?_, fun h => ?_⟩
          · rw [s285, if_neg e]; exact b2
          · rw [t300, if_neg e]; exact b3
          · rw [s286, if_neg e, t301, if_neg (by omega), if_neg (by omega), if_neg (by omega)]; exact b4
          · rw [s287, if_neg e, t301, if_neg (by omega), if_neg (by omega), if_neg (by omega)]; exact b5 h
          · rw [s287, if_neg e, t301, if_neg (by omega), if_neg (by omega), if_neg (by omega)]; exact b6 h
          · rw [s288, if_neg e, t301, if_neg (by omega), if_neg (by omega), if_neg (by omega)]; exact b7 h
      have hcp := rd_chb hT p'
      rw [a5, Option.bind_some, if_pos (by rw [show (0 : Int32) = ab_I 0 from rfl, ab_Ile (by omega) (by omega) (by omega) (by omega)]; omega), a6, Option.bind_some]
      dsimp only
      rw [rd_chAt hT hC2 (show p' ≤ 1000 by omega), Option.bind_some]
      rcases rd_r32_0 hT hR2 a2 (f := f2) with ⟨q, hlt, e⟩ | ⟨q, e⟩ | ⟨q, hlt, e⟩
      · rw [e, if_neg (by rw [ab_Ieq (by omega) (by omega) (by omega) (by omega)]; omega), if_pos (show ab_I (ch p') = 59 by rw [q]; rfl), ab_I1, ab_I1]
        exact ih (i + 1) (by omega) f f2 (by omega) (by omega) σ2 τ2 (p' + 1) hC2 hR2 f1 f2' (by omega) (by omega) s284 t25 hcm2
      · rw [e, if_pos (by rw [q])]
        exact ⟨σ2, τ2, p', f1, f2', a2, .inr ⟨rfl, rfl, i + 1, by omega, s284, t25, hcm2⟩⟩
      · rw [e, if_neg (by rw [ab_Ieq (by omega) (by omega) (by omega) (by omega)]; omega), if_neg (show ¬ ab_I (ch p') = 59 by rw [show (59 : Int32) = ab_I 59 from rfl, ab_Ieq (by omega) (by omega) (by omega) (by omega)]; exact q)]
        exact ⟨σ2, τ2, p', f1, f2', a2, .inl ⟨rfl, rfl⟩⟩
end
