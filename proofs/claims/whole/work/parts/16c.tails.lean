/-! commands: behind their words -/
section
variable {σ τ : q_S} {n : Nat} {ch : Nat → Int}
theorem rd_ft32 {t c : Int} (h : t = 32) : rd_ft t c ↔ c = 32 := by
  subst h
  unfold rd_ft
  rw [if_neg (show ¬ ((32 : Int) = 35 ∨ (32 : Int) = 37) by decide), if_neg (show ¬ (32 : Int) = 64 by decide), if_neg (show ¬ (32 : Int) = 126 by decide)]
theorem rd_ft35 {t c : Int} (h : t = 35 ∨ t = 37) : rd_ft t c ↔ rd_dg c := by
  unfold rd_ft
  rw [if_pos h]
theorem rd_txC.up {k : Nat} {v : Int32} (h : rd_txC σ n ch) : rd_txC (q_up σ 289 k v) n ch := fun p hp => by
  rw [ab_up_ne (by decide)]
  exact h p hp
theorem rd_lt (hT : rd_tx n ch) {p : Nat} (h : ch p ≠ -1) : p < n := by
  by_cases q : p < n
  · exact q
  · exact absurd (hT.2.2 p (by omega)) h
theorem rd_fb1 (hT : rd_tx n ch) (hC : rd_txC σ n ch) (hR : rd_txR τ n ch) {j i p k f : Nat} (hj : j < 8) (hi : i + 1 < q_len.getD j 0) (s1 : rd_sy j i = 32) (s2 : rd_sy j (i + 1) = 35) (hp : p ≤ n) (hk : k < 3) {v7 : Int32} :
    (∃ p' : Nat, p ≤ p' ∧ p' ≤ n ∧ f_X1_match_13 j (f + 2) (ab_I n) (ab_I p) (ab_I k) v7 (ab_I i) σ = some (ab_I (-1 - p'), σ) ∧ f_X10_behindBlank (rd_rs τ p 0) 1 = some (0, rd_rs τ p' 1)) ∨
    (∃ v : Int, p + 2 ≤ n ∧ f_X1_match_13 j (f + 2) (ab_I n) (ab_I p) (ab_I k) v7 (ab_I i) σ = f_X1_match_13 j f (ab_I n) (ab_I ((p + 2 : Nat) : Int)) (ab_I ((k + 1 : Nat) : Int)) v7 (ab_I ((i + 2 : Nat) : Int)) (q_up σ 289 k (ab_I v * v7)) ∧ f_X10_behindBlank (rd_rs τ p 0) 1 = some (ab_I v, rd_rs τ (p + 2) 0)) := by
  have h60 := hT.1
  unfold f_X10_behindBlank
  rcases rd_blank hT hR (p := p) (by omega) with ⟨g, e⟩ | ⟨g, e⟩
  · have hlt := rd_lt hT (p := p) (by rw [g]; decide)
    rw [e, Option.bind_some, rd_ms_lit (f := f + 1) hT hC hj (by omega) (by omega) (g.trans s1.symm) (by rw [s1]; decide) (by rw [s1]; decide) (by rw [s1]; decide) (by rw [s1]; decide)]
    by_cases d : rd_dg (ch (p + 1))
    · have hl2 := rd_dg_lt hT d
      refine .inr ⟨ch (p + 1) - 48, by omega, ?_, ?_⟩
      · rw [rd_ms_d1 hT hC hj hi (by omega) d s2, ab_put hk (by decide), ab_I1]
      · rw [rd_dig_1 hT hR (by omega) d, Option.bind_some]
    · refine .inl ⟨p + 1, by omega, by omega, ?_, ?_⟩
      · exact rd_ms_no hT hC hj hi (by omega) (fun h => d ((rd_ft35 (.inl s2)).mp h))
      · rw [show f_X10_digits (rd_rs τ (p + 1) 0) 1 = _ from rd_dig_no (m := 1) hT hR (by omega) d (by decide) (by decide), Option.bind_some]
  · refine .inl ⟨p, by omega, by omega, rd_ms_no hT hC hj (by omega) (by omega) (fun h => g ((rd_ft32 s1).mp h)), ?_⟩
    rw [e, Option.bind_some, show f_X10_digits (rd_rs τ p 1) 1 = _ from rd_dig1 (m := 1) (by decide) (by decide), Option.bind_some]
theorem rd_fb2 (hT : rd_tx n ch) (hC : rd_txC σ n ch) (hR : rd_txR τ n ch) {j i p k f : Nat} (hj : j < 8) (hi : i + 1 < q_len.getD j 0) (s1 : rd_sy j i = 32) (s2 : rd_sy j (i + 1) = 37) (hp : p ≤ n) (hk : k < 3) {v7 : Int32} :
    (∃ p' : Nat, p ≤ p' ∧ p' ≤ n ∧ f_X1_match_13 j (f + 2) (ab_I n) (ab_I p) (ab_I k) v7 (ab_I i) σ = some (ab_I (-1 - p'), σ) ∧ f_X10_behindBlank (rd_rs τ p 0) 2 = some (0, rd_rs τ p' 1)) ∨
    (∃ (v : Int) (q : Nat), p + 2 ≤ q ∧ q ≤ n ∧ f_X1_match_13 j (f + 2) (ab_I n) (ab_I p) (ab_I k) v7 (ab_I i) σ = f_X1_match_13 j f (ab_I n) (ab_I q) (ab_I ((k + 1 : Nat) : Int)) v7 (ab_I ((i + 2 : Nat) : Int)) (q_up σ 289 k (ab_I v * v7)) ∧ f_X10_behindBlank (rd_rs τ p 0) 2 = some (ab_I v, rd_rs τ q 0)) := by
  have h60 := hT.1
  unfold f_X10_behindBlank
  rcases rd_blank hT hR (p := p) (by omega) with ⟨g, e⟩ | ⟨g, e⟩
  · have hlt := rd_lt hT (p := p) (by rw [g]; decide)
    rw [e, Option.bind_some, rd_ms_lit (f := f + 1) hT hC hj (by omega) (by omega) (g.trans s1.symm) (by rw [s1]; decide) (by rw [s1]; decide) (by rw [s1]; decide) (by rw [s1]; decide)]
    by_cases d : rd_dg (ch (p + 1))
    · have hl2 := rd_dg_lt hT d
      rcases rd_dig_2 hT hR (p := p + 1) (by omega) d with ⟨d2, e2⟩ | ⟨d2, e2⟩
      · have hl3 := rd_dg_lt hT d2
        rcases rd_ms_d2 hT hC hj hi (p := p + 1) (f := f) (by omega) d s2 (v6 := ab_I k) (v7 := v7) with ⟨d3, e3⟩ | ⟨d3, e3⟩
        · refine .inr ⟨10 * (ch (p + 1) - 48) + ch (p + 1 + 1) - 48, p + 3, by omega, by omega, ?_, ?_⟩
          · rw [e3, ab_put hk (by decide), ab_I1]
          · rw [e2, Option.bind_some]
        · exact absurd d2 d3
      · rcases rd_ms_d2 hT hC hj hi (p := p + 1) (f := f) (by omega) d s2 (v6 := ab_I k) (v7 := v7) with ⟨d3, e3⟩ | ⟨d3, e3⟩
        · exact absurd d3 d2
        · refine .inr ⟨ch (p + 1) - 48, p + 2, by omega, by omega, ?_, ?_⟩
          · rw [e3, ab_put hk (by decide), ab_I1]
          · rw [e2, Option.bind_some]
    · refine .inl ⟨p + 1, by omega, by omega, ?_, ?_⟩
      · exact rd_ms_no hT hC hj hi (by omega) (fun h => d ((rd_ft35 (.inr s2)).mp h))
      · rw [show f_X10_digits (rd_rs τ (p + 1) 0) 2 = _ from rd_dig_no (m := 2) hT hR (by omega) d (by decide) (by decide), Option.bind_some]
  · refine .inl ⟨p, by omega, by omega, rd_ms_no hT hC hj (by omega) (by omega) (fun h => g ((rd_ft32 s1).mp h)), ?_⟩
    rw [e, Option.bind_some, show f_X10_digits (rd_rs τ p 1) 2 = _ from rd_dig1 (m := 2) (by decide) (by decide), Option.bind_some]
theorem rd_fdir (hT : rd_tx n ch) (hC : rd_txC σ n ch) (hR : rd_txR τ n ch) {j i p k f : Nat} (hj : j < 8) (hi : i + 1 < q_len.getD j 0) (s1 : rd_sy j i = 64) (s2 : rd_sy j (i + 1) = 35) (hp : p ≤ n) (hk : k + 1 < 3) {v7 : Int32} :
    (∃ (p' : Nat) (σ' : q_S) (d v : Int32) (ρ : q_S), p ≤ p' ∧ p' ≤ n ∧ (∀ c, c ≠ 289 → σ' c = σ c) ∧ f_X1_match_13 j (f + 2) (ab_I n) (ab_I p) (ab_I k) v7 (ab_I i) σ = some (ab_I (-1 - p'), σ') ∧ f_X10_takesDirection (rd_rs τ p 0) = some (d, ρ) ∧ f_X10_digits ρ 1 = some (v, rd_rs τ p' 1)) ∨
    (∃ (v : Int), p + 2 ≤ n ∧ ¬ f_X10_directionOf (ab_I (ch p)) < 0 ∧ f_X1_match_13 j (f + 2) (ab_I n) (ab_I p) (ab_I k) v7 (ab_I i) σ = f_X1_match_13 j f (ab_I n) (ab_I ((p + 2 : Nat) : Int)) (ab_I ((k + 2 : Nat) : Int)) v7 (ab_I ((i + 2 : Nat) : Int)) (q_up (q_up σ 289 k (ab_I (ch p))) 289 (k + 1) (ab_I v * v7)) ∧ f_X10_takesDirection (rd_rs τ p 0) = some (f_X10_directionOf (ab_I (ch p)), rd_rs τ (p + 1) 0) ∧ f_X10_digits (rd_rs τ (p + 1) 0) 1 = some (ab_I v, rd_rs τ (p + 2) 0)) := by
  have h60 := hT.1
  rcases rd_td hT hR (p := p) (by omega) with ⟨g, g2, e⟩ | ⟨g, v, e⟩
  · have hlt := rd_lt hT (p := p) (by
      unfold rd_ft at g
      rw [if_neg (by decide), if_pos rfl] at g
      omega)
    rw [rd_ms_dir (f := f + 1) hT hC hj (by omega) (by omega) g s1, ab_put (by omega) (by decide), ab_I1]
    by_cases d : rd_dg (ch (p + 1))
    · have hl2 := rd_dg_lt hT d
      refine .inr ⟨ch (p + 1) - 48, by omega, g2, ?_, e, rd_dig_1 hT hR (by omega) d⟩
      rw [rd_ms_d1 hT hC.up hj hi (by omega) d s2, ab_put hk (by decide), ab_I1]
    · exact .inl ⟨p + 1, _, _, _, _, by omega, by omega, fun c h => ab_up_ne h, rd_ms_no hT hC.up hj hi (by omega) (fun h => d ((rd_ft35 (.inl s2)).mp h)), e, rd_dig_no (m := 1) hT hR (by omega) d (by decide) (by decide)⟩
  · exact .inl ⟨p, σ, v, _, _, by omega, by omega, fun _ _ => rfl, rd_ms_no hT hC hj (by omega) (by omega) (by rw [s1]; exact g), e, rd_dig1 (m := 1) (by decide) (by decide)⟩
theorem rd_fsgn (hT : rd_tx n ch) (hC : rd_txC σ n ch) (hR : rd_txR τ n ch) {j i p k f : Nat} (hj : j < 8) (hi : i + 1 < q_len.getD j 0) (s1 : rd_sy j i = 126) (s2 : rd_sy j (i + 1) = 35) (hp : p ≤ n) (hk : k < 3) {v7 : Int32} :
    (∃ (p' : Nat) (d v : Int32) (ρ : q_S), p ≤ p' ∧ p' ≤ n ∧ f_X1_match_13 j (f + 2) (ab_I n) (ab_I p) (ab_I k) v7 (ab_I i) σ = some (ab_I (-1 - p'), σ) ∧ f_X10_takesSign (rd_rs τ p 0) = some (d, ρ) ∧ f_X10_digits ρ 1 = some (v, rd_rs τ p' 1)) ∨
    (∃ (v s : Int), p + 2 ≤ n ∧ f_X1_match_13 j (f + 2) (ab_I n) (ab_I p) (ab_I k) v7 (ab_I i) σ = f_X1_match_13 j f (ab_I n) (ab_I ((p + 2 : Nat) : Int)) (ab_I ((k + 1 : Nat) : Int)) (ab_I s) (ab_I ((i + 2 : Nat) : Int)) (q_up σ 289 k (ab_I v * ab_I s)) ∧ f_X10_takesSign (rd_rs τ p 0) = some (ab_I s, rd_rs τ (p + 1) 0) ∧ f_X10_digits (rd_rs τ (p + 1) 0) 1 = some (ab_I v, rd_rs τ (p + 2) 0)) := by
  have h60 := hT.1
  rcases rd_ts hT hR (p := p) (by omega) with ⟨g, e⟩ | ⟨g, v, e⟩
  · have hlt := rd_lt hT (p := p) (by
      unfold rd_ft at g
      rw [if_neg (by decide), if_neg (by decide), if_pos rfl] at g
      omega)
    rw [rd_ms_sgn (f := f + 1) hT hC hj (by omega) (by omega) g s1]
    by_cases d : rd_dg (ch (p + 1))
    · have hl2 := rd_dg_lt hT d
      refine .inr ⟨ch (p + 1) - 48, _, by omega, ?_, e, rd_dig_1 hT hR (by omega) d⟩
      rw [rd_ms_d1 hT hC hj hi (by omega) d s2, ab_put hk (by decide), ab_I1]
    · exact .inl ⟨p + 1, _, _, _, by omega, by omega, rd_ms_no hT hC hj hi (by omega) (fun h => d ((rd_ft35 (.inl s2)).mp h)), e, rd_dig_no (m := 1) hT hR (by omega) d (by decide) (by decide)⟩
  · exact .inl ⟨p, v, _, _, by omega, by omega, rd_ms_no hT hC hj (by omega) (by omega) (by rw [s1]; exact g), e, rd_dig1 (m := 1) (by decide) (by decide)⟩
/-- how a command ends, for both alike -/
def rd_pr (n p j : Nat) (σ τ : q_S) (rc : Option (Int32 × q_S)) (rr : Option q_S) : Prop :=
  ∃ (p' : Nat) (σ' : q_S), p ≤ p' ∧ p' ≤ n ∧ (∀ c, c ≠ 289 → σ' c = σ c) ∧
    ((rc = some (ab_I (-1 - p'), σ') ∧ rr = some (rd_rs τ p' 1)) ∨
    (p + 2 ≤ p' ∧ rc = some (ab_I p', σ') ∧ ∃ a b c : Int32, rr = f_X10_command_119 (ab_I j) a b c (rd_rs τ p' 0) ∧ σ' 289 0 = a ∧ ((j = 1 ∨ j = 2 ∨ j = 4 ∨ j = 6) → σ' 289 1 = b) ∧ (j = 3 → f_X10_directionOf (σ' 289 1) = b ∧ ¬ f_X10_directionOf (σ' 289 1) < 0) ∧ ((j = 1 ∨ j = 2 ∨ j = 3 ∨ j = 4) → σ' 289 2 = c)))
theorem rd_m1 {v : Int} : ab_I v * 1 = ab_I v := by
  rw [show (1 : Int32) = ab_I 1 from rfl, ab_Imul, Int.mul_one]
theorem rd_mc {v s : Int} : ab_I v * ab_I s = ab_I s * ab_I v := by rw [ab_Imul, ab_Imul, Int.mul_comm]
theorem rd_k22_0 {s0 : Int32} {ρ : q_S} : f_X10_command_22 0 s0 ρ = Option.bind (f_X10_behindBlank ρ s0) (fun q3 => f_X10_command_48 0 q3.1 0 0 q3.2) := by
  unfold f_X10_command_22
  simp only [show ¬ ((0 : Int32) = 1) by decide, show ¬ ((0 : Int32) = 6) by decide, if_true, if_false]
theorem rd_k48_0 {v2 v3 v4 : Int32} {ρ : q_S} : f_X10_command_48 0 v2 v3 v4 ρ = f_X10_command_64 0 v2 v3 v4 ρ := by
  unfold f_X10_command_48
  rw [if_neg (show ¬ ((0 : Int32) = 2) by decide), if_neg (show ¬ ((0 : Int32) = 4) by decide)]
theorem rd_k64_0 {v2 v3 v4 : Int32} {ρ : q_S} : f_X10_command_64 0 v2 v3 v4 ρ = f_X10_command_81 0 v2 v3 v4 ρ := by
  unfold f_X10_command_64
  rw [if_neg (show ¬ ((0 : Int32) = 1) by decide), if_neg (show ¬ ((0 : Int32) = 2) by decide)]
theorem rd_k81_0 {v2 v3 v4 : Int32} {ρ : q_S} : f_X10_command_81 0 v2 v3 v4 ρ = f_X10_command_98 0 v2 v3 v4 ρ := by
  unfold f_X10_command_81
  rw [if_neg (show ¬ ((0 : Int32) = 3) by decide)]
theorem rd_k98_0 {v2 v3 v4 : Int32} {ρ : q_S} : f_X10_command_98 0 v2 v3 v4 ρ = f_X10_command_119 0 v2 v3 v4 ρ := by
  unfold f_X10_command_98
  rw [if_neg (show ¬ ((0 : Int32) = 4) by decide)]
/-- new -/
theorem rd_t0 (hT : rd_tx n ch) (hC : rd_txC σ n ch) (hR : rd_txR τ n ch) {p f : Nat} (hp : p ≤ n) : rd_pr n p 0 σ τ (f_X1_match_13 0 (f + 7) (ab_I n) (ab_I p) (ab_I ((0 : Nat) : Int)) 1 (ab_I ((3 : Nat) : Int)) σ) (f_X10_command_22 0 1 (rd_rs τ p 0)) := by
  rw [rd_k22_0]
  rcases rd_fb1 hT hC hR (j := 0) (i := 3) (p := p) (k := 0) (f := f + 5) (by decide) (by decide) (by decide) (by decide) (by omega) (by decide) (v7 := 1) with ⟨pa, a1, a2, a3, a4⟩ | ⟨va, a2, a3, a4⟩
  · refine ⟨pa, σ, by omega, by omega, fun _ _ => rfl, .inl ⟨a3, ?_⟩⟩
    rw [a4, Option.bind_some, rd_s48]
  refine ⟨(p + 2), (q_up σ 289 0 (ab_I va * 1)), by omega, by omega, fun c hc => by rw [ab_up_ne hc], .inr ⟨by omega, a3.trans (rd_ms_end (f := f + 4) (by decide) (by decide)), ab_I va, 0, 0, ?_, by rw [ab_up_at, rd_m1], fun h => absurd h (by decide), fun h => absurd h (by decide), fun h => absurd h (by decide)⟩⟩
  rw [a4, Option.bind_some, rd_k48_0, rd_k64_0, rd_k81_0, rd_k98_0]
  rfl
theorem rd_k22_1 {s0 : Int32} {ρ : q_S} : f_X10_command_22 1 s0 ρ = Option.bind (f_X10_behindBlank ρ s0) (fun q3 => f_X10_command_42 1 q3.1 0 q3.2) := by
  unfold f_X10_command_22
  simp only [if_true, if_false]
theorem rd_k42_1 {v2 v4 : Int32} {ρ : q_S} : f_X10_command_42 1 v2 v4 ρ = Option.bind (f_X10_behindBlank ρ 1) (fun q5 => f_X10_command_48 1 v2 q5.1 v4 q5.2) := rfl
theorem rd_k48_1 {v2 v3 v4 : Int32} {ρ : q_S} : f_X10_command_48 1 v2 v3 v4 ρ = f_X10_command_64 1 v2 v3 v4 ρ := by
  unfold f_X10_command_48
  rw [if_neg (show ¬ ((1 : Int32) = 2) by decide), if_neg (show ¬ ((1 : Int32) = 4) by decide)]
theorem rd_k64_1 {v2 v3 v4 : Int32} {ρ : q_S} : f_X10_command_64 1 v2 v3 v4 ρ = Option.bind (f_X10_behindBlank ρ 1) (fun q9 => f_X10_command_81 1 v2 v3 q9.1 q9.2) := by
  unfold f_X10_command_64 f_X10_command_74
  rw [if_pos (show (1 : Int32) = 1 from rfl)]
theorem rd_k81_1 {v2 v3 v4 : Int32} {ρ : q_S} : f_X10_command_81 1 v2 v3 v4 ρ = f_X10_command_98 1 v2 v3 v4 ρ := by
  unfold f_X10_command_81
  rw [if_neg (show ¬ ((1 : Int32) = 3) by decide)]
theorem rd_k98_1 {v2 v3 v4 : Int32} {ρ : q_S} : f_X10_command_98 1 v2 v3 v4 ρ = f_X10_command_119 1 v2 v3 v4 ρ := by
  unfold f_X10_command_98
  rw [if_neg (show ¬ ((1 : Int32) = 4) by decide)]
/-- peg -/
theorem rd_t1 (hT : rd_tx n ch) (hC : rd_txC σ n ch) (hR : rd_txR τ n ch) {p f : Nat} (hp : p ≤ n) : rd_pr n p 1 σ τ (f_X1_match_13 1 (f + 7) (ab_I n) (ab_I p) (ab_I ((0 : Nat) : Int)) 1 (ab_I ((3 : Nat) : Int)) σ) (f_X10_command_22 1 2 (rd_rs τ p 0)) := by
  rw [rd_k22_1]
  rcases rd_fb2 hT hC hR (j := 1) (i := 3) (p := p) (k := 0) (f := f + 5) (by decide) (by decide) (by decide) (by decide) (by omega) (by decide) (v7 := 1) with ⟨pa, a1, a2, a3, a4⟩ | ⟨va, qa, a1, a2, a3, a4⟩
  · refine ⟨pa, σ, by omega, by omega, fun _ _ => rfl, .inl ⟨a3, ?_⟩⟩
    rw [a4, Option.bind_some, rd_k42_1, show f_X10_behindBlank (rd_rs τ pa 1) 1 = _ from rd_bb1 (m := 1) (by decide) (by decide), Option.bind_some, rd_s48]
  rcases rd_fb1 hT hC.up hR (j := 1) (i := 5) (p := qa) (k := 1) (f := f + 3) (by decide) (by decide) (by decide) (by decide) (by omega) (by decide) (v7 := 1) with ⟨pb, b1, b2, b3, b4⟩ | ⟨vb, b2, b3, b4⟩
  · refine ⟨pb, (q_up σ 289 0 (ab_I va * 1)), by omega, by omega, fun c hc => by rw [ab_up_ne hc], .inl ⟨a3.trans (b3), ?_⟩⟩
    rw [a4, Option.bind_some, rd_k42_1, b4, Option.bind_some, rd_s48]
  rcases rd_fb1 hT hC.up.up hR (j := 1) (i := 7) (p := (qa + 2)) (k := 2) (f := f + 1) (by decide) (by decide) (by decide) (by decide) (by omega) (by decide) (v7 := 1) with ⟨pc, c1, c2, c3, c4⟩ | ⟨vc, c2, c3, c4⟩
  · refine ⟨pc, (q_up (q_up σ 289 0 (ab_I va * 1)) 289 1 (ab_I vb * 1)), by omega, by omega, fun c hc => by rw [ab_up_ne hc, ab_up_ne hc], .inl ⟨a3.trans (b3.trans (c3)), ?_⟩⟩
    rw [a4, Option.bind_some, rd_k42_1, b4, Option.bind_some, rd_k48_1, rd_k64_1, c4, Option.bind_some, rd_s81]
  refine ⟨((qa + 2) + 2), (q_up (q_up (q_up σ 289 0 (ab_I va * 1)) 289 1 (ab_I vb * 1)) 289 2 (ab_I vc * 1)), by omega, by omega, fun c hc => by rw [ab_up_ne hc, ab_up_ne hc, ab_up_ne hc], .inr ⟨by omega, a3.trans (b3.trans (c3.trans (rd_ms_end (f := f + 0) (by decide) (by decide)))), ab_I va, ab_I vb, ab_I vc, ?_, by rw [ab_up_nk (by decide), ab_up_nk (by decide), ab_up_at, rd_m1], fun _ => by rw [ab_up_nk (by decide), ab_up_at, rd_m1], fun h => absurd h (by decide), fun _ => by rw [ab_up_at, rd_m1]⟩⟩
  rw [a4, Option.bind_some, rd_k42_1, b4, Option.bind_some, rd_k48_1, rd_k64_1, c4, Option.bind_some, rd_k81_1, rd_k98_1]
  rfl
theorem rd_k22_2 {s0 : Int32} {ρ : q_S} : f_X10_command_22 2 s0 ρ = Option.bind (f_X10_behindBlank ρ s0) (fun q3 => f_X10_command_48 2 q3.1 0 0 q3.2) := by
  unfold f_X10_command_22
  simp only [show ¬ ((2 : Int32) = 1) by decide, show ¬ ((2 : Int32) = 6) by decide, if_true, if_false]
theorem rd_k48_2 {v2 v3 v4 : Int32} {ρ : q_S} : f_X10_command_48 2 v2 v3 v4 ρ = Option.bind (f_X10_behindBlank ρ 2) (fun q7 => f_X10_command_64 2 v2 q7.1 v4 q7.2) := by
  unfold f_X10_command_48 f_X10_command_58
  rw [if_pos (show (2 : Int32) = 2 from rfl)]
theorem rd_k64_2 {v2 v3 v4 : Int32} {ρ : q_S} : f_X10_command_64 2 v2 v3 v4 ρ = Option.bind (f_X10_behindBlank ρ 1) (fun q9 => f_X10_command_81 2 v2 v3 q9.1 q9.2) := by
  unfold f_X10_command_64 f_X10_command_74
  rw [if_neg (show ¬ ((2 : Int32) = 1) by decide), if_pos (show (2 : Int32) = 2 from rfl)]
theorem rd_k81_2 {v2 v3 v4 : Int32} {ρ : q_S} : f_X10_command_81 2 v2 v3 v4 ρ = f_X10_command_98 2 v2 v3 v4 ρ := by
  unfold f_X10_command_81
  rw [if_neg (show ¬ ((2 : Int32) = 3) by decide)]
theorem rd_k98_2 {v2 v3 v4 : Int32} {ρ : q_S} : f_X10_command_98 2 v2 v3 v4 ρ = f_X10_command_119 2 v2 v3 v4 ρ := by
  unfold f_X10_command_98
  rw [if_neg (show ¬ ((2 : Int32) = 4) by decide)]
/-- plot -/
theorem rd_t2 (hT : rd_tx n ch) (hC : rd_txC σ n ch) (hR : rd_txR τ n ch) {p f : Nat} (hp : p ≤ n) : rd_pr n p 2 σ τ (f_X1_match_13 2 (f + 7) (ab_I n) (ab_I p) (ab_I ((0 : Nat) : Int)) 1 (ab_I ((4 : Nat) : Int)) σ) (f_X10_command_22 2 1 (rd_rs τ p 0)) := by
  rw [rd_k22_2]
  rcases rd_fb1 hT hC hR (j := 2) (i := 4) (p := p) (k := 0) (f := f + 5) (by decide) (by decide) (by decide) (by decide) (by omega) (by decide) (v7 := 1) with ⟨pa, a1, a2, a3, a4⟩ | ⟨va, a2, a3, a4⟩
  · refine ⟨pa, σ, by omega, by omega, fun _ _ => rfl, .inl ⟨a3, ?_⟩⟩
    rw [a4, Option.bind_some, rd_s48]
  rcases rd_fb2 hT hC.up hR (j := 2) (i := 6) (p := (p + 2)) (k := 1) (f := f + 3) (by decide) (by decide) (by decide) (by decide) (by omega) (by decide) (v7 := 1) with ⟨pb, b1, b2, b3, b4⟩ | ⟨vb, qb, b1, b2, b3, b4⟩
  · refine ⟨pb, (q_up σ 289 0 (ab_I va * 1)), by omega, by omega, fun c hc => by rw [ab_up_ne hc], .inl ⟨a3.trans (b3), ?_⟩⟩
    rw [a4, Option.bind_some, rd_k48_2, b4, Option.bind_some, rd_s64]
  rcases rd_fb1 hT hC.up.up hR (j := 2) (i := 8) (p := qb) (k := 2) (f := f + 1) (by decide) (by decide) (by decide) (by decide) (by omega) (by decide) (v7 := 1) with ⟨pc, c1, c2, c3, c4⟩ | ⟨vc, c2, c3, c4⟩
  · refine ⟨pc, (q_up (q_up σ 289 0 (ab_I va * 1)) 289 1 (ab_I vb * 1)), by omega, by omega, fun c hc => by rw [ab_up_ne hc, ab_up_ne hc], .inl ⟨a3.trans (b3.trans (c3)), ?_⟩⟩
    rw [a4, Option.bind_some, rd_k48_2, b4, Option.bind_some, rd_k64_2, c4, Option.bind_some, rd_s81]
  refine ⟨(qb + 2), (q_up (q_up (q_up σ 289 0 (ab_I va * 1)) 289 1 (ab_I vb * 1)) 289 2 (ab_I vc * 1)), by omega, by omega, fun c hc => by rw [ab_up_ne hc, ab_up_ne hc, ab_up_ne hc], .inr ⟨by omega, a3.trans (b3.trans (c3.trans (rd_ms_end (f := f + 0) (by decide) (by decide)))), ab_I va, ab_I vb, ab_I vc, ?_, by rw [ab_up_nk (by decide), ab_up_nk (by decide), ab_up_at, rd_m1], fun _ => by rw [ab_up_nk (by decide), ab_up_at, rd_m1], fun h => absurd h (by decide), fun _ => by rw [ab_up_at, rd_m1]⟩⟩
  rw [a4, Option.bind_some, rd_k48_2, b4, Option.bind_some, rd_k64_2, c4, Option.bind_some, rd_k81_2, rd_k98_2]
  rfl
theorem rd_k22_3 {s0 : Int32} {ρ : q_S} : f_X10_command_22 3 s0 ρ = Option.bind (f_X10_behindBlank ρ s0) (fun q3 => f_X10_command_48 3 q3.1 0 0 q3.2) := by
  unfold f_X10_command_22
  simp only [show ¬ ((3 : Int32) = 1) by decide, show ¬ ((3 : Int32) = 6) by decide, if_true, if_false]
theorem rd_k48_3 {v2 v3 v4 : Int32} {ρ : q_S} : f_X10_command_48 3 v2 v3 v4 ρ = f_X10_command_64 3 v2 v3 v4 ρ := by
  unfold f_X10_command_48
  rw [if_neg (show ¬ ((3 : Int32) = 2) by decide), if_neg (show ¬ ((3 : Int32) = 4) by decide)]
theorem rd_k64_3 {v2 v3 v4 : Int32} {ρ : q_S} : f_X10_command_64 3 v2 v3 v4 ρ = f_X10_command_81 3 v2 v3 v4 ρ := by
  unfold f_X10_command_64
  rw [if_neg (show ¬ ((3 : Int32) = 1) by decide), if_neg (show ¬ ((3 : Int32) = 2) by decide)]
theorem rd_k81_3 {v2 v3 v4 : Int32} {ρ : q_S} : f_X10_command_81 3 v2 v3 v4 ρ = Option.bind (f_X10_takesDirection ρ) (fun q19 => Option.bind (f_X10_digits q19.2 1) (fun q20 => f_X10_command_98 3 v2 q19.1 q20.1 q20.2)) := by
  unfold f_X10_command_81
  rw [if_pos (show (3 : Int32) = 3 from rfl)]
theorem rd_k98_3 {v2 v3 v4 : Int32} {ρ : q_S} : f_X10_command_98 3 v2 v3 v4 ρ = f_X10_command_119 3 v2 v3 v4 ρ := by
  unfold f_X10_command_98
  rw [if_neg (show ¬ ((3 : Int32) = 4) by decide)]
/-- lay -/
theorem rd_t3 (hT : rd_tx n ch) (hC : rd_txC σ n ch) (hR : rd_txR τ n ch) {p f : Nat} (hp : p ≤ n) : rd_pr n p 3 σ τ (f_X1_match_13 3 (f + 7) (ab_I n) (ab_I p) (ab_I ((0 : Nat) : Int)) 1 (ab_I ((3 : Nat) : Int)) σ) (f_X10_command_22 3 1 (rd_rs τ p 0)) := by
  rw [rd_k22_3]
  rcases rd_fb1 hT hC hR (j := 3) (i := 3) (p := p) (k := 0) (f := f + 5) (by decide) (by decide) (by decide) (by decide) (by omega) (by decide) (v7 := 1) with ⟨pa, a1, a2, a3, a4⟩ | ⟨va, a2, a3, a4⟩
  · refine ⟨pa, σ, by omega, by omega, fun _ _ => rfl, .inl ⟨a3, ?_⟩⟩
    rw [a4, Option.bind_some, rd_s48]
  rcases rd_fdir hT hC.up hR (j := 3) (i := 5) (p := (p + 2)) (k := 1) (f := f + 3) (by decide) (by decide) (by decide) (by decide) (by omega) (by decide) (v7 := 1) with ⟨pb, σb, db, wb, ρb, b1, b2, b5, b3, b4, b6⟩ | ⟨vb, b2, b5, b3, b4, b6⟩
  · refine ⟨pb, σb, by omega, by omega, fun c hc => (b5 c hc).trans (ab_up_ne hc), .inl ⟨a3.trans (b3), ?_⟩⟩
    rw [a4, Option.bind_some, rd_k48_3, rd_k64_3, rd_k81_3, b4, Option.bind_some, b6, Option.bind_some, rd_s98]
  refine ⟨((p + 2) + 2), (q_up (q_up (q_up σ 289 0 (ab_I va * 1)) 289 1 (ab_I (ch (p + 2)))) 289 2 (ab_I vb * 1)), by omega, by omega, fun c hc => by rw [ab_up_ne hc, ab_up_ne hc, ab_up_ne hc], .inr ⟨by omega, a3.trans (b3.trans (rd_ms_end (f := f + 2) (by decide) (by decide))), ab_I va, f_X10_directionOf (ab_I (ch (p + 2))), ab_I vb, ?_, by rw [ab_up_nk (by decide), ab_up_nk (by decide), ab_up_at, rd_m1], fun h => absurd h (by decide), fun _ => ⟨by rw [ab_up_nk (by decide), ab_up_at], by rw [ab_up_nk (by decide), ab_up_at]; exact b5⟩, fun _ => by rw [ab_up_at, rd_m1]⟩⟩
  rw [a4, Option.bind_some, rd_k48_3, rd_k64_3, rd_k81_3, b4, Option.bind_some, b6, Option.bind_some, rd_k98_3]
  rfl
theorem rd_k22_4 {s0 : Int32} {ρ : q_S} : f_X10_command_22 4 s0 ρ = Option.bind (f_X10_behindBlank ρ s0) (fun q3 => f_X10_command_48 4 q3.1 0 0 q3.2) := by
  unfold f_X10_command_22
  simp only [show ¬ ((4 : Int32) = 1) by decide, show ¬ ((4 : Int32) = 6) by decide, if_true, if_false]
theorem rd_k48_4 {v2 v3 v4 : Int32} {ρ : q_S} : f_X10_command_48 4 v2 v3 v4 ρ = Option.bind (f_X10_behindBlank ρ 2) (fun q7 => f_X10_command_64 4 v2 q7.1 v4 q7.2) := by
  unfold f_X10_command_48 f_X10_command_58
  rw [if_neg (show ¬ ((4 : Int32) = 2) by decide), if_pos (show (4 : Int32) = 4 from rfl)]
theorem rd_k64_4 {v2 v3 v4 : Int32} {ρ : q_S} : f_X10_command_64 4 v2 v3 v4 ρ = f_X10_command_81 4 v2 v3 v4 ρ := by
  unfold f_X10_command_64
  rw [if_neg (show ¬ ((4 : Int32) = 1) by decide), if_neg (show ¬ ((4 : Int32) = 2) by decide)]
theorem rd_k81_4 {v2 v3 v4 : Int32} {ρ : q_S} : f_X10_command_81 4 v2 v3 v4 ρ = f_X10_command_98 4 v2 v3 v4 ρ := by
  unfold f_X10_command_81
  rw [if_neg (show ¬ ((4 : Int32) = 3) by decide)]
theorem rd_k98_4 {v2 v3 v4 : Int32} {ρ : q_S} : f_X10_command_98 4 v2 v3 v4 ρ = Option.bind (f_X10_takesSign ρ) (fun q17 => Option.bind (f_X10_digits q17.2 1) (fun q18 => f_X10_command_119 4 v2 v3 (q17.1 * q18.1) q18.2)) := by
  unfold f_X10_command_98
  rw [if_pos (show (4 : Int32) = 4 from rfl)]
/-- bend -/
theorem rd_t4 (hT : rd_tx n ch) (hC : rd_txC σ n ch) (hR : rd_txR τ n ch) {p f : Nat} (hp : p ≤ n) : rd_pr n p 4 σ τ (f_X1_match_13 4 (f + 7) (ab_I n) (ab_I p) (ab_I ((0 : Nat) : Int)) 1 (ab_I ((4 : Nat) : Int)) σ) (f_X10_command_22 4 1 (rd_rs τ p 0)) := by
  rw [rd_k22_4]
  rcases rd_fb1 hT hC hR (j := 4) (i := 4) (p := p) (k := 0) (f := f + 5) (by decide) (by decide) (by decide) (by decide) (by omega) (by decide) (v7 := 1) with ⟨pa, a1, a2, a3, a4⟩ | ⟨va, a2, a3, a4⟩
  · refine ⟨pa, σ, by omega, by omega, fun _ _ => rfl, .inl ⟨a3, ?_⟩⟩
    rw [a4, Option.bind_some, rd_s48]
  rcases rd_fb2 hT hC.up hR (j := 4) (i := 6) (p := (p + 2)) (k := 1) (f := f + 3) (by decide) (by decide) (by decide) (by decide) (by omega) (by decide) (v7 := 1) with ⟨pb, b1, b2, b3, b4⟩ | ⟨vb, qb, b1, b2, b3, b4⟩
  · refine ⟨pb, (q_up σ 289 0 (ab_I va * 1)), by omega, by omega, fun c hc => by rw [ab_up_ne hc], .inl ⟨a3.trans (b3), ?_⟩⟩
    rw [a4, Option.bind_some, rd_k48_4, b4, Option.bind_some, rd_s64]
  rcases rd_fsgn hT hC.up.up hR (j := 4) (i := 8) (p := qb) (k := 2) (f := f + 1) (by decide) (by decide) (by decide) (by decide) (by omega) (by decide) (v7 := 1) with ⟨pc, dc, wc, ρc, c1, c2, c3, c4, c6⟩ | ⟨vc, sc, c2, c3, c4, c6⟩
  · refine ⟨pc, (q_up (q_up σ 289 0 (ab_I va * 1)) 289 1 (ab_I vb * 1)), by omega, by omega, fun c hc => by rw [ab_up_ne hc, ab_up_ne hc], .inl ⟨a3.trans (b3.trans (c3)), ?_⟩⟩
    rw [a4, Option.bind_some, rd_k48_4, b4, Option.bind_some, rd_k64_4, rd_k81_4, rd_k98_4, c4, Option.bind_some, c6, Option.bind_some, rd_s119]
  refine ⟨(qb + 2), (q_up (q_up (q_up σ 289 0 (ab_I va * 1)) 289 1 (ab_I vb * 1)) 289 2 (ab_I vc * ab_I sc)), by omega, by omega, fun c hc => by rw [ab_up_ne hc, ab_up_ne hc, ab_up_ne hc], .inr ⟨by omega, a3.trans (b3.trans (c3.trans (rd_ms_end (f := f + 0) (by decide) (by decide)))), ab_I va, ab_I vb, ab_I sc * ab_I vc, ?_, by rw [ab_up_nk (by decide), ab_up_nk (by decide), ab_up_at, rd_m1], fun _ => by rw [ab_up_nk (by decide), ab_up_at, rd_m1], fun h => absurd h (by decide), fun _ => by rw [ab_up_at, rd_mc]⟩⟩
  rw [a4, Option.bind_some, rd_k48_4, b4, Option.bind_some, rd_k64_4, rd_k81_4, rd_k98_4, c4, Option.bind_some, c6, Option.bind_some]
  rfl
theorem rd_k22_5 {s0 : Int32} {ρ : q_S} : f_X10_command_22 5 s0 ρ = Option.bind (f_X10_behindBlank ρ s0) (fun q3 => f_X10_command_48 5 q3.1 0 0 q3.2) := by
  unfold f_X10_command_22
  simp only [show ¬ ((5 : Int32) = 1) by decide, show ¬ ((5 : Int32) = 6) by decide, if_true, if_false]
theorem rd_k48_5 {v2 v3 v4 : Int32} {ρ : q_S} : f_X10_command_48 5 v2 v3 v4 ρ = f_X10_command_64 5 v2 v3 v4 ρ := by
  unfold f_X10_command_48
  rw [if_neg (show ¬ ((5 : Int32) = 2) by decide), if_neg (show ¬ ((5 : Int32) = 4) by decide)]
theorem rd_k64_5 {v2 v3 v4 : Int32} {ρ : q_S} : f_X10_command_64 5 v2 v3 v4 ρ = f_X10_command_81 5 v2 v3 v4 ρ := by
  unfold f_X10_command_64
  rw [if_neg (show ¬ ((5 : Int32) = 1) by decide), if_neg (show ¬ ((5 : Int32) = 2) by decide)]
theorem rd_k81_5 {v2 v3 v4 : Int32} {ρ : q_S} : f_X10_command_81 5 v2 v3 v4 ρ = f_X10_command_98 5 v2 v3 v4 ρ := by
  unfold f_X10_command_81
  rw [if_neg (show ¬ ((5 : Int32) = 3) by decide)]
theorem rd_k98_5 {v2 v3 v4 : Int32} {ρ : q_S} : f_X10_command_98 5 v2 v3 v4 ρ = f_X10_command_119 5 v2 v3 v4 ρ := by
  unfold f_X10_command_98
  rw [if_neg (show ¬ ((5 : Int32) = 4) by decide)]
/-- drop -/
theorem rd_t5 (hT : rd_tx n ch) (hC : rd_txC σ n ch) (hR : rd_txR τ n ch) {p f : Nat} (hp : p ≤ n) : rd_pr n p 5 σ τ (f_X1_match_13 5 (f + 7) (ab_I n) (ab_I p) (ab_I ((0 : Nat) : Int)) 1 (ab_I ((4 : Nat) : Int)) σ) (f_X10_command_22 5 1 (rd_rs τ p 0)) := by
  rw [rd_k22_5]
  rcases rd_fb1 hT hC hR (j := 5) (i := 4) (p := p) (k := 0) (f := f + 5) (by decide) (by decide) (by decide) (by decide) (by omega) (by decide) (v7 := 1) with ⟨pa, a1, a2, a3, a4⟩ | ⟨va, a2, a3, a4⟩
  · refine ⟨pa, σ, by omega, by omega, fun _ _ => rfl, .inl ⟨a3, ?_⟩⟩
    rw [a4, Option.bind_some, rd_s48]
  refine ⟨(p + 2), (q_up σ 289 0 (ab_I va * 1)), by omega, by omega, fun c hc => by rw [ab_up_ne hc], .inr ⟨by omega, a3.trans (rd_ms_end (f := f + 4) (by decide) (by decide)), ab_I va, 0, 0, ?_, by rw [ab_up_at, rd_m1], fun h => absurd h (by decide), fun h => absurd h (by decide), fun h => absurd h (by decide)⟩⟩
  rw [a4, Option.bind_some, rd_k48_5, rd_k64_5, rd_k81_5, rd_k98_5]
  rfl
theorem rd_k22_6 {s0 : Int32} {ρ : q_S} : f_X10_command_22 6 s0 ρ = Option.bind (f_X10_behindBlank ρ s0) (fun q3 => f_X10_command_42 6 q3.1 0 q3.2) := by
  unfold f_X10_command_22
  simp only [show ¬ ((6 : Int32) = 1) by decide, if_true, if_false]
theorem rd_k42_6 {v2 v4 : Int32} {ρ : q_S} : f_X10_command_42 6 v2 v4 ρ = Option.bind (f_X10_behindBlank ρ 1) (fun q5 => f_X10_command_48 6 v2 q5.1 v4 q5.2) := rfl
theorem rd_k48_6 {v2 v3 v4 : Int32} {ρ : q_S} : f_X10_command_48 6 v2 v3 v4 ρ = f_X10_command_64 6 v2 v3 v4 ρ := by
  unfold f_X10_command_48
  rw [if_neg (show ¬ ((6 : Int32) = 2) by decide), if_neg (show ¬ ((6 : Int32) = 4) by decide)]
theorem rd_k64_6 {v2 v3 v4 : Int32} {ρ : q_S} : f_X10_command_64 6 v2 v3 v4 ρ = f_X10_command_81 6 v2 v3 v4 ρ := by
  unfold f_X10_command_64
  rw [if_neg (show ¬ ((6 : Int32) = 1) by decide), if_neg (show ¬ ((6 : Int32) = 2) by decide)]
theorem rd_k81_6 {v2 v3 v4 : Int32} {ρ : q_S} : f_X10_command_81 6 v2 v3 v4 ρ = f_X10_command_98 6 v2 v3 v4 ρ := by
  unfold f_X10_command_81
  rw [if_neg (show ¬ ((6 : Int32) = 3) by decide)]
theorem rd_k98_6 {v2 v3 v4 : Int32} {ρ : q_S} : f_X10_command_98 6 v2 v3 v4 ρ = f_X10_command_119 6 v2 v3 v4 ρ := by
  unfold f_X10_command_98
  rw [if_neg (show ¬ ((6 : Int32) = 4) by decide)]
/-- deep -/
theorem rd_t6 (hT : rd_tx n ch) (hC : rd_txC σ n ch) (hR : rd_txR τ n ch) {p f : Nat} (hp : p ≤ n) : rd_pr n p 6 σ τ (f_X1_match_13 6 (f + 7) (ab_I n) (ab_I p) (ab_I ((0 : Nat) : Int)) 1 (ab_I ((4 : Nat) : Int)) σ) (f_X10_command_22 6 1 (rd_rs τ p 0)) := by
  rw [rd_k22_6]
  rcases rd_fb1 hT hC hR (j := 6) (i := 4) (p := p) (k := 0) (f := f + 5) (by decide) (by decide) (by decide) (by decide) (by omega) (by decide) (v7 := 1) with ⟨pa, a1, a2, a3, a4⟩ | ⟨va, a2, a3, a4⟩
  · refine ⟨pa, σ, by omega, by omega, fun _ _ => rfl, .inl ⟨a3, ?_⟩⟩
    rw [a4, Option.bind_some, rd_k42_6, show f_X10_behindBlank (rd_rs τ pa 1) 1 = _ from rd_bb1 (m := 1) (by decide) (by decide), Option.bind_some, rd_s48]
  rcases rd_fb1 hT hC.up hR (j := 6) (i := 6) (p := (p + 2)) (k := 1) (f := f + 3) (by decide) (by decide) (by decide) (by decide) (by omega) (by decide) (v7 := 1) with ⟨pb, b1, b2, b3, b4⟩ | ⟨vb, b2, b3, b4⟩
  · refine ⟨pb, (q_up σ 289 0 (ab_I va * 1)), by omega, by omega, fun c hc => by rw [ab_up_ne hc], .inl ⟨a3.trans (b3), ?_⟩⟩
    rw [a4, Option.bind_some, rd_k42_6, b4, Option.bind_some, rd_s48]
  refine ⟨((p + 2) + 2), (q_up (q_up σ 289 0 (ab_I va * 1)) 289 1 (ab_I vb * 1)), by omega, by omega, fun c hc => by rw [ab_up_ne hc, ab_up_ne hc], .inr ⟨by omega, a3.trans (b3.trans (rd_ms_end (f := f + 2) (by decide) (by decide))), ab_I va, ab_I vb, 0, ?_, by rw [ab_up_nk (by decide), ab_up_at, rd_m1], fun _ => by rw [ab_up_at, rd_m1], fun h => absurd h (by decide), fun h => absurd h (by decide)⟩⟩
  rw [a4, Option.bind_some, rd_k42_6, b4, Option.bind_some, rd_k48_6, rd_k64_6, rd_k81_6, rd_k98_6]
  rfl
theorem rd_k22_7 {s0 : Int32} {ρ : q_S} : f_X10_command_22 7 s0 ρ = Option.bind (f_X10_behindBlank ρ s0) (fun q3 => f_X10_command_48 7 q3.1 0 0 q3.2) := by
  unfold f_X10_command_22
  simp only [show ¬ ((7 : Int32) = 1) by decide, show ¬ ((7 : Int32) = 6) by decide, if_true, if_false]
theorem rd_k48_7 {v2 v3 v4 : Int32} {ρ : q_S} : f_X10_command_48 7 v2 v3 v4 ρ = f_X10_command_64 7 v2 v3 v4 ρ := by
  unfold f_X10_command_48
  rw [if_neg (show ¬ ((7 : Int32) = 2) by decide), if_neg (show ¬ ((7 : Int32) = 4) by decide)]
theorem rd_k64_7 {v2 v3 v4 : Int32} {ρ : q_S} : f_X10_command_64 7 v2 v3 v4 ρ = f_X10_command_81 7 v2 v3 v4 ρ := by
  unfold f_X10_command_64
  rw [if_neg (show ¬ ((7 : Int32) = 1) by decide), if_neg (show ¬ ((7 : Int32) = 2) by decide)]
theorem rd_k81_7 {v2 v3 v4 : Int32} {ρ : q_S} : f_X10_command_81 7 v2 v3 v4 ρ = f_X10_command_98 7 v2 v3 v4 ρ := by
  unfold f_X10_command_81
  rw [if_neg (show ¬ ((7 : Int32) = 3) by decide)]
theorem rd_k98_7 {v2 v3 v4 : Int32} {ρ : q_S} : f_X10_command_98 7 v2 v3 v4 ρ = f_X10_command_119 7 v2 v3 v4 ρ := by
  unfold f_X10_command_98
  rw [if_neg (show ¬ ((7 : Int32) = 4) by decide)]
/-- dusk -/
theorem rd_t7 (hT : rd_tx n ch) (hC : rd_txC σ n ch) (hR : rd_txR τ n ch) {p f : Nat} (hp : p ≤ n) : rd_pr n p 7 σ τ (f_X1_match_13 7 (f + 7) (ab_I n) (ab_I p) (ab_I ((0 : Nat) : Int)) 1 (ab_I ((4 : Nat) : Int)) σ) (f_X10_command_22 7 2 (rd_rs τ p 0)) := by
  rw [rd_k22_7]
  rcases rd_fb2 hT hC hR (j := 7) (i := 4) (p := p) (k := 0) (f := f + 5) (by decide) (by decide) (by decide) (by decide) (by omega) (by decide) (v7 := 1) with ⟨pa, a1, a2, a3, a4⟩ | ⟨va, qa, a1, a2, a3, a4⟩
  · refine ⟨pa, σ, by omega, by omega, fun _ _ => rfl, .inl ⟨a3, ?_⟩⟩
    rw [a4, Option.bind_some, rd_s48]
  refine ⟨qa, (q_up σ 289 0 (ab_I va * 1)), by omega, by omega, fun c hc => by rw [ab_up_ne hc], .inr ⟨by omega, a3.trans (rd_ms_end (f := f + 4) (by decide) (by decide)), ab_I va, 0, 0, ?_, by rw [ab_up_at, rd_m1], fun h => absurd h (by decide), fun h => absurd h (by decide), fun h => absurd h (by decide)⟩⟩
  rw [a4, Option.bind_some, rd_k48_7, rd_k64_7, rd_k81_7, rd_k98_7]
  rfl
end
