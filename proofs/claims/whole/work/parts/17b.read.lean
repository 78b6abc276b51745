/-! read: the text, then its commands -/
section
variable {σ ρ : q_S} {n : Nat} {ch : Nat → Int}
theorem rd_parse (hT : rd_tx n ch) (c8 : σ 0 8 = ab_I n) (hC : rd_txC σ n ch) (r22 : ρ 292 22 = ab_I n) (hR : ∀ p, p < n → ρ 299 p = ab_I (ch p)) :
    ∃ (σ' ρ' : q_S) (p : Nat), p ≤ n ∧ (∀ c, c ≠ 0 → (c < 284 ∨ 290 ≤ c) → σ' c = σ c) ∧ (∀ k, k ≠ 8 → σ' 0 k = σ 0 k) ∧ σ' 0 8 = 0 ∧
      (∀ c, c ≠ 292 → c ≠ 300 → c ≠ 301 → ρ' c = ρ c) ∧ (∀ k, (k < 22 ∨ 27 ≤ k) → ρ' 292 k = ρ 292 k) ∧ ρ' 292 22 = 0 ∧
      ((f_X1_understand (q_up σ 0 8 0) (σ 0 8) = some (ab_I p, σ') ∧ f_X10_reads ρ = some ρ' ∧ ρ' 292 26 = 1 ∧ ρ' 292 24 = ab_I p) ∨
      (f_X1_understand (q_up σ 0 8 0) (σ 0 8) = some (-1, σ') ∧ f_X10_reads ρ = some ρ' ∧ ρ' 292 26 = 0 ∧ ∃ m : Nat, m ≤ 10 ∧ σ' 284 0 = ab_I m ∧ ρ' 292 25 = ab_I m ∧ ∀ k, k < m → rd_cm σ' ρ' k)) := by
  have est : q_up (q_up (q_up (q_up (q_up ρ 292 23 (ρ 292 22)) 292 22 0) 292 24 0) 292 25 0) 292 26 0 = rd_rs (q_up (q_up (q_up ρ 292 23 (ab_I n)) 292 22 0) 292 25 0) 0 0 := by
    rw [r22]
    funext c k
    by_cases h : c = 292
    · subst h
      unfold rd_rs
      rw [if_pos rfl]
      by_cases k26 : k = 26
      · subst k26
        rw [ab_up_at, if_neg (by decide), if_pos rfl]
      by_cases k24 : k = 24
      · subst k24
        rw [ab_up_nk (by decide), ab_up_nk (by decide), ab_up_at, if_pos rfl]
        rfl
      rw [ab_up_nk k26, if_neg k24, if_neg k26]
      by_cases k25 : k = 25
      · subst k25
        rw [ab_up_at, ab_up_at]
      · rw [ab_up_nk k25, ab_up_nk k24, ab_up_nk k25]
    · unfold rd_rs
      rw [if_neg h, ab_up_ne h, ab_up_ne h, ab_up_ne h, ab_up_ne h, ab_up_ne h, ab_up_ne h, ab_up_ne h, ab_up_ne h]
  have hC' : rd_txC (q_up (q_up σ 0 8 0) 284 0 0) n ch := fun k hk => by
    rw [ab_up_ne (by decide), ab_up_ne (by decide)]
    exact hC k hk
  have hR' : rd_txR (q_up (q_up (q_up ρ 292 23 (ab_I n)) 292 22 0) 292 25 0) n ch := ⟨by rw [ab_up_nk (by decide), ab_up_nk (by decide), ab_up_at], fun k hk => by
    rw [ab_up_ne (by decide), ab_up_ne (by decide), ab_up_ne (by decide)]
    exact hR k hk⟩
  have hall := rd_all_lp hT (σ0 := q_up (q_up σ 0 8 0) 284 0 0) (τ0 := q_up (q_up (q_up ρ 292 23 (ab_I n)) 292 22 0) 292 25 0) 10 0 (by decide) q_fu q_fu (by unfold q_fu; omega) (by unfold q_fu; omega) (q_up (q_up σ 0 8 0) 284 0 0) (q_up (q_up (q_up ρ 292 23 (ab_I n)) 292 22 0) 292 25 0) 0 hC' hR' (fun _ _ => rfl) ⟨fun _ _ _ _ => rfl, fun _ _ => rfl⟩ (by omega) (by omega) ab_up_at ab_up_at (fun k hk => absurd hk (by omega))
  have eu : f_X1_understand (q_up σ 0 8 0) (σ 0 8) = f_X1_understand_10 q_fu (ab_I n) (ab_I ((0 : Nat) : Int)) (ab_I ((0 : Nat) : Int)) (q_up (q_up σ 0 8 0) 284 0 0) := by
    unfold f_X1_understand
    rw [c8]
    rfl
  have er : f_X10_reads ρ = Option.bind (f_X10_command (rd_rs (q_up (q_up (q_up ρ 292 23 (ab_I n)) 292 22 0) 292 25 0) 0 0)) (fun q7 => f_X10_reads_32 q_fu q7) := by
    unfold f_X10_reads
    rw [est]
  rw [eu, er]
  obtain ⟨σ', τ', p, g1, g2, hp, h⟩ := hall
  have fc : ∀ c, c ≠ 0 → (c < 284 ∨ 290 ≤ c) → σ' c = σ c := fun c h0 h1 => by rw [g1 c h1, ab_up_ne (by omega), ab_up_ne h0]
  have fk : ∀ k, k ≠ 8 → σ' 0 k = σ 0 k := fun k hk => by rw [g1 0 (by decide), ab_up_ne (by decide), ab_up_nk hk]
  have f8 : σ' 0 8 = 0 := by rw [g1 0 (by decide), ab_up_ne (by decide), ab_up_at]
  have rc : ∀ w : Int32, ∀ c, c ≠ 292 → c ≠ 300 → c ≠ 301 → rd_rs τ' p w c = ρ c := fun w c h1 h2 h3 => by
    unfold rd_rs
    funext k
    rw [if_neg h1, g2.1 c h1 h2 h3, ab_up_ne h1, ab_up_ne h1, ab_up_ne h1]
  have rk : ∀ w : Int32, ∀ k, (k < 22 ∨ 27 ≤ k) → rd_rs τ' p w 292 k = ρ 292 k := fun w k hk => by
    unfold rd_rs
    rw [if_pos rfl, if_neg (by omega), if_neg (by omega), g2.2 k (by omega), ab_up_nk (by omega), ab_up_nk (by omega), ab_up_nk (by omega)]
  have r22' : ∀ w : Int32, rd_rs τ' p w 292 22 = 0 := fun w => by
    unfold rd_rs
    rw [if_pos rfl, if_neg (by decide), if_neg (by decide), g2.2 22 (by decide), ab_up_nk (by decide), ab_up_at]
  rcases h with ⟨h1, h2⟩ | ⟨h1, h2, h3⟩
  · exact ⟨σ', _, p, hp, fc, fk, f8, rc 1, rk 1, r22' 1, .inl ⟨h1, h2, rfl, rfl⟩⟩
  · exact ⟨σ', _, p, hp, fc, fk, f8, rc 0, rk 0, r22' 0, .inr ⟨h1, h2, rfl, h3⟩⟩
end
/-- what a command leaves as it was in the second program -/
def rd_fr (ρ ρ' : q_S) : Prop := (∀ c, (¬ ab_sc c ∨ c < 292 ∨ c = 294 ∨ c = 300 ∨ c = 301) → c ≠ 292 → c ≠ 293 → ρ' c = ρ c) ∧ ∀ k, (¬ ab_sf k ∨ k = 4 ∨ k = 25) → ρ' 292 k = ρ 292 k
theorem rd_fr.R {ρ υ υ2 : q_S} (h : ab_fR (q_up ρ 292 27 0) υ) (g : ab_fM υ υ2) : rd_fr ρ υ2 := by
  obtain ⟨h1, h2, h3, h4, h5, h6, h7⟩ := h
  refine ⟨fun c hc c1 c2 => ?_, fun k hk => ?_⟩
  · rw [g.1 c c1 c2]
    have e : q_up ρ 292 27 0 c = ρ c := ab_up_ne c1
    rcases hc with hc | hc | rfl | rfl | rfl
    · rw [h1.1 c hc c1, e]
    · rw [h3 c hc, e]
    · rw [h2, e]
    · rw [h5, e]
    · rw [h6, e]
  · rw [g.2 k hk]
    have e : k ≠ 27 → q_up ρ 292 27 0 292 k = ρ 292 k := fun z => ab_up_nk z
    rcases hk with hk | rfl | rfl
    · rw [h1.2 k hk, e (fun z => hk (by unfold ab_sf; omega))]
    · rw [h4, e (by decide)]
    · rw [h7 25 (by decide) (by decide), e (by decide)]
theorem rd_fr.trans {ρ τ υ : q_S} (h : rd_fr ρ τ) (g : rd_fr τ υ) : rd_fr ρ υ := ⟨fun c a b d => (g.1 c a b d).trans (h.1 c a b d), fun k a => (g.2 k a).trans (h.2 k a)⟩
section
variable {σ0 ρ0 : q_S} {D0 : Nat → Int} {B : Int} {nx ct m : Nat} {E : Nat → Nat → Int}
def rd_end (σ ρ : q_S) (D0 : Nat → Int) (B : Int) (nx ct : Nat) (E : Nat → Nat → Int) (m : Nat) (rc : Option (Nat × Int32 × q_S)) (rr : Option (Int32 × q_S)) : Prop :=
  (∃ τ υ : q_S, rc = some (3, 0, τ) ∧ rr = some (0, υ) ∧ ab_CR τ 2 D0 ∧ (∀ c, (c < 2 ∨ 28 ≤ c) → τ c = σ c) ∧ τ 27 0 = υ 292 8 ∧ τ 27 1 = υ 292 9 ∧ τ 27 2 = υ 292 10 ∧ (τ 27 2 ≠ 0 → τ 27 3 = υ 292 11) ∧ ab_MR υ 293 0 D0 ∧ υ 292 4 = 2 ∧
    (∀ c, (¬ ab_sc c ∨ c < 292) → c ≠ 292 → c ≠ 293 → υ c = ρ c) ∧ ∀ k, ¬ ab_sf k → (k < 8 ∨ 12 ≤ k) → υ 292 k = ρ 292 k) ∨
  (∃ (D2 : Nat → Int) (τ υ : q_S), rc = some (0, ab_I m, τ) ∧ rr = some (ab_I m, υ) ∧ ab_CR τ 2 D2 ∧ ab_MR υ 293 0 D2 ∧ ab_WD (B + 20 * m) D2 ∧ ab_Hc τ ((nx + 1) % 8) (ab_n1 ct) (ab_nE ct E D0) ∧ ab_Hm υ (ab_n1 ct) (ab_nE ct E D0) ∧ (∀ c, (c < 2 ∨ (27 ≤ c ∧ c < 53) ∨ 280 ≤ c) → τ c = σ c) ∧ υ 292 4 = ρ 292 4 ∧
    (∀ c, (¬ ab_sc c ∨ c < 292) → c ≠ 292 → c ≠ 293 → c ≠ 296 → υ c = ρ c) ∧ ∀ k, ¬ ab_sf k → k ≠ 5 → υ 292 k = ρ 292 k)
/-- the first program takes all back -/
theorem rd_backC {σ : q_S} (hb : ab_CR σ 55 D0) (hW0 : ab_WD B D0) (i : Int32) (x : Int32) (hx : x = 0 ∨ x = 1) : ∃ τ, f_X9_read_96 x i σ = some (3, 0, τ) ∧ ab_CR τ 2 D0 ∧ (∀ c, (c < 2 ∨ 28 ≤ c) → τ c = σ c) ∧ τ 27 0 = 11 ∧ τ 27 1 = i ∧ τ 27 2 = (if x = 0 then 0 else σ 27 0) ∧ τ 27 3 = (if x = 0 then 0 else σ 27 1) := by
  have key : ∃ υ, f_X7_refuseCommand σ i x = υ ∧ (∀ c, c ≠ 27 → υ c = σ c) ∧ υ 27 0 = 11 ∧ υ 27 1 = i ∧ υ 27 2 = (if x = 0 then 0 else σ 27 0) ∧ υ 27 3 = (if x = 0 then 0 else σ 27 1) := by
    unfold f_X7_refuseCommand f_X7_refuseCommand_13
    rcases hx with rfl | rfl
    · rw [if_pos (show (0 : Int32) = 0 from rfl), if_pos (show (0 : Int32) = 0 from rfl)]
      exact ⟨_, rfl, fun c hc => by rw [ab_up_ne hc, ab_up_ne hc, ab_up_ne hc, ab_up_ne hc], rfl, rfl, rfl, rfl⟩
    · rw [if_neg (show ¬ (1 : Int32) = 0 by decide), if_neg (show ¬ (1 : Int32) = 0 by decide)]
      exact ⟨_, rfl, fun c hc => by rw [ab_up_ne hc, ab_up_ne hc, ab_up_ne hc, ab_up_ne hc], rfl, rfl, rfl, rfl⟩
  obtain ⟨υ, k1, k2, k3, k4, k5, k6⟩ := key
  have hb2 : ab_CR υ 55 D0 := hb.same hW0.2.1 (fun c a b => k2 c (by omega))
  obtain ⟨τ, t1, t2, t3⟩ := ab_takeBack hb2 hW0
  refine ⟨τ, ?_, t2, fun c hc => by rw [t3 c (by omega), k2 c (by omega)], by rw [t3 27 (by omega)]; exact k3, by rw [t3 27 (by omega)]; exact k4, by rw [t3 27 (by omega)]; exact k5, by rw [t3 27 (by omega)]; exact k6⟩
  unfold f_X9_read_96
  rw [k1, t1, Option.bind_some]
/-- so does the second -/
theorem rd_backR {ρ : q_S} (hb : ab_MR ρ 294 0 D0) (i : Int32) : ∃ υ, (Option.bind (f_X10_copies ρ 294 220 0 293 220 0) (fun q8 => if (q8 292 27) = 0 then (f_X10_read_79 i (q8 292 6) q8) else (f_X10_read_79 i 0 q8))) = some (0, υ) ∧ ab_MR υ 293 0 D0 ∧ υ 292 4 = 2 ∧ υ 292 8 = 11 ∧ υ 292 9 = i ∧ υ 292 10 = (if ρ 292 27 = 0 then ρ 292 6 else 0) ∧ υ 292 11 = ρ 292 7 ∧ (∀ c, c ≠ 292 → c ≠ 293 → υ c = ρ c) ∧ ∀ k, k ≠ 4 → (k < 8 ∨ 12 ≤ k) → υ 292 k = ρ 292 k := by
  obtain ⟨τ, t1, t2, t3⟩ := ab_row (σ := ρ) (a := 294) (b := 293) (by decide) hb
  have e292 : τ 292 = ρ 292 := t3 292 (by decide)
  have r79 : ∀ s0 : Int32, ∃ υ, f_X10_read_79 i s0 τ = some (0, υ) ∧ ab_MR υ 293 0 D0 ∧ υ 292 4 = 2 ∧ υ 292 8 = 11 ∧ υ 292 9 = i ∧ υ 292 10 = s0 ∧ υ 292 11 = ρ 292 7 ∧ (∀ c, c ≠ 292 → c ≠ 293 → υ c = ρ c) ∧ ∀ k, k ≠ 4 → (k < 8 ∨ 12 ≤ k) → υ 292 k = ρ 292 k := fun s0 => by
    refine ⟨_, rfl, fun k hk => ?_, rfl, rfl, rfl, rfl, ?_, fun c c1 c2 => ?_, fun k k4 hk => ?_⟩
    · show q_up (q_up (q_up (q_up (q_up τ 292 10 s0) 292 11 (q_up τ 292 10 s0 292 7)) 292 8 11) 292 9 i) 292 4 2 293 (0 + k) = _
      rw [ab_up_ne (by decide), ab_up_ne (by decide), ab_up_ne (by decide), ab_up_ne (by decide), ab_up_ne (by decide)]
      exact t2 k hk
    · show τ 292 7 = _
      rw [e292]
    · show q_up (q_up (q_up (q_up (q_up τ 292 10 s0) 292 11 (q_up τ 292 10 s0 292 7)) 292 8 11) 292 9 i) 292 4 2 c = _
      rw [ab_up_ne c1, ab_up_ne c1, ab_up_ne c1, ab_up_ne c1, ab_up_ne c1, t3 c c2]
    · show q_up (q_up (q_up (q_up (q_up τ 292 10 s0) 292 11 (q_up τ 292 10 s0 292 7)) 292 8 11) 292 9 i) 292 4 2 292 k = _
      rw [ab_up_nk k4, ab_up_nk (by omega), ab_up_nk (by omega), ab_up_nk (by omega), ab_up_nk (by omega), e292]
  rw [t1, Option.bind_some, e292]
  by_cases q : ρ 292 27 = 0
  · rw [if_pos q, if_pos q]
    exact r79 _
  · rw [if_neg q, if_neg q]
    exact r79 _
theorem rd_do_lp (hm : m ≤ 10) (hB : B + 200 ≤ 1000000000) (c0 : σ0 284 0 = ab_I m) (r0 : ρ0 292 25 = ab_I m) (hcm : ∀ k, k < m → rd_cm σ0 ρ0 k) (hb : ab_CR σ0 55 D0) (hb2 : ab_MR ρ0 294 0 D0) (hW0 : ab_WD B D0) (hHc : ab_Hc σ0 nx ct E) (hHm : ab_Hm ρ0 ct E) (hHw : ab_Hw B nx ct E) :
    ∀ r i : Nat, i + r = m → ∀ f f2, r < f → r < f2 → ∀ (σ ρ : q_S) (D : Nat → Int), (∀ c, (c < 2 ∨ 27 ≤ c) → σ c = σ0 c) → rd_fr ρ0 ρ → ab_CR σ 2 D → ab_MR ρ 293 0 D → ab_WD (B + 20 * i) D →
    rd_end σ0 ρ0 D0 B nx ct E m (f_X9_read_56 f (ab_I i) σ) (f_X10_read_31 f2 (ab_I i) ρ) := by
  intro r
  induction r with
  | zero =>
    intro i hi f f2 hf hf2 σ ρ D fc fr hC hM hW
    obtain ⟨f, rfl⟩ : ∃ g, f = g + 1 := ⟨f - 1, by omega⟩
    obtain ⟨f2, rfl⟩ : ∃ g, f2 = g + 1 := ⟨f2 - 1, by omega⟩
    have ei : i = m := by omega
    have hb' : ab_CR σ 55 D0 := hb.same hW0.2.1 (fun c a b => fc c (by omega))
    have hHc' : ab_Hc σ nx ct E := hHc.same hHw (fc 53 (by omega)) (fun c a b => fc c (by omega))
    obtain ⟨τ, k1, k2, k3⟩ := ab_keep hHc' hHw hb' hW0
    have hHm' : ab_Hm ρ ct E := hHm.same (fr.2 5 (.inl (by unfold ab_sf; omega))) (fr.1 296 (.inl (by unfold ab_sc; omega)) (by decide) (by decide))
    have hb2' : ab_MR ρ 294 0 D0 := fun k hk => by rw [fr.1 294 (by omega) (by decide) (by decide)]; exact hb2 k hk
    obtain ⟨υ, p1, p2, p3, p4⟩ := ab_keeps (v := ab_I m) hHm' hHw.2.1 hb2'
    refine .inr ⟨D, τ, υ, ?_, ?_, hC.same hW.2.1 (fun c a b => k3 c (by omega)), fun k hk => by rw [p3 293 (by decide) (by decide)]; exact hM k hk, by rw [← ei]; exact hW, k2, p2, fun c hc => ?_, ?_, fun c hc c1 c2 c3 => ?_, fun k hk k5 => ?_⟩
    · rw [f_X9_read_56, fc 284 (by omega), c0, ei, if_pos (by rw [ab_Ile (by omega) (by omega) (by omega) (by omega)]; omega), k1, Option.bind_some, k3 284 (by omega), fc 284 (by omega), c0]
    · rw [f_X10_read_31, fr.2 25 (by omega), r0, ei, if_pos (by rw [ab_Ile (by omega) (by omega) (by omega) (by omega)]; omega), p1, Option.bind_some]
    · rw [k3 c (by omega), fc c (by omega)]
    · rw [p4 4 (by decide), fr.2 4 (by omega)]
    · rw [p3 c c1 c3, fr.1 c (hc.elim .inl (fun h => .inr (.inl h))) c1 c2]
    · rw [p4 k k5, fr.2 k (.inl hk)]
  | succ r ih =>
    intro i hi f f2 hf hf2 σ ρ D fc fr hC hM hW
    obtain ⟨f, rfl⟩ : ∃ g, f = g + 1 := ⟨f - 1, by omega⟩
    obtain ⟨f2, rfl⟩ : ∃ g, f2 = g + 1 := ⟨f2 - 1, by omega⟩
    have hcm' : rd_cm σ ρ i := by
      obtain ⟨j, h1, h2, h3, h4, h5, h6, h7⟩ := hcm i (by omega)
      refine ⟨j, h1, ?_⟩
      rw [fc 285 (by omega), fc 286 (by omega), fc 287 (by omega), fc 288 (by omega), fr.1 300 (by omega) (by decide) (by decide), fr.1 301 (by omega) (by decide) (by decide)]
      exact ⟨h2, h3, h4, h5, h6, h7⟩
    have hb' : ∀ τ : q_S, (∀ c, c ≠ 27 → τ c = σ c) → ab_CR τ 55 D0 := fun τ h => hb.same hW0.2.1 (fun c a b => (h c (by omega)).trans (fc c (by omega)))
    rw [f_X9_read_56, fc 284 (by omega), c0, if_neg (by rw [ab_Ile (by omega) (by omega) (by omega) (by omega)]; omega)]
    rw [f_X10_read_31, fr.2 25 (by omega), r0, if_neg (by rw [ab_Ile (by omega) (by omega) (by omega) (by omega)]; omega)]
    rcases rd_carry hC hM hW (by omega) (by omega) hcm' with ⟨h1, h2⟩ | ⟨w, n, υ, hw, h1, h2, h3, h4, h5⟩ | ⟨v, D2, τ, υ, υ2, v0, v1, h1, h2, h3, h4, h5, h6, h7, h8⟩
    · have hb2' : ab_MR (q_up ρ 292 27 1) 294 0 D0 := fun k hk => by rw [ab_up_ne (by decide), fr.1 294 (by omega) (by decide) (by decide)]; exact hb2 k hk
      obtain ⟨τ, a1, a2, a3, a4, a5, a6, a7⟩ := rd_backC (B := B) (hb' σ (fun _ _ => rfl)) hW0 (ab_I i) 0 (.inl rfl)
      obtain ⟨υ, b1, b2, b3, b4, b5, b6, b7, b8, b9⟩ := rd_backR hb2' (ab_I i)
      rw [ab_up_at, if_neg (show ¬ (1 : Int32) = 0 by decide)] at b6
      rw [if_pos rfl] at a6
      refine .inl ⟨τ, υ, ?_, ?_, a2, fun c hc => by rw [a3 c hc, fc c (by omega)], a4.trans b4.symm, a5.trans b5.symm, a6.trans b6.symm, fun z => absurd a6 z, b2, b3, fun c hc c1 c2 => ?_, fun k hk k8 => ?_⟩
      · rcases h1 with h1 | h1
        · rw [h1, Option.bind_some, if_neg (show ¬ (0 : Int32) ≤ -1 by decide), if_neg (show ¬ (-1 : Int32) = -3 by decide)]
          exact a1
        · rw [h1, Option.bind_some, if_neg (show ¬ (0 : Int32) ≤ -2 by decide), if_neg (show ¬ (-2 : Int32) = -3 by decide)]
          exact a1
      · rw [h2, Option.bind_some, if_neg (show ¬ (1 : Int32) = 0 by decide)]
        exact b1
      · rw [b8 c c1 c2, ab_up_ne c1, fr.1 c (hc.elim .inl (fun h => .inr (.inl h))) c1 c2]
      · rw [b9 k (fun e => hk (by unfold ab_sf; omega)) k8, ab_up_nk (fun e => hk (by unfold ab_sf; omega)), fr.2 k (.inl hk)]
    · obtain ⟨x1, x2, x3, x4, x5⟩ := ab_refuse (σ := σ) (w := w) (n := n)
      have fr2 := rd_fr.R h3 (υ2 := υ) ⟨fun _ _ _ => rfl, fun _ _ => rfl⟩
      have e27 : υ 292 27 = 0 := by rw [h3.2.2.2.2.2.2 27 (by decide) (by decide), ab_up_at]
      have hb2' : ab_MR υ 294 0 D0 := fun k hk => by rw [fr2.1 294 (by omega) (by decide) (by decide), fr.1 294 (by omega) (by decide) (by decide)]; exact hb2 k hk
      obtain ⟨τ, a1, a2, a3, a4, a5, a6, a7⟩ := rd_backC (B := B) (hb' (f_X7_refuse σ w n).2 x5) hW0 (ab_I i) 1 (.inr rfl)
      obtain ⟨υ', b1, b2, b3, b4, b5, b6, b7, b8, b9⟩ := rd_backR hb2' (ab_I i)
      rw [if_pos e27, h4] at b6
      rw [if_neg (show ¬ (1 : Int32) = 0 by decide), x2] at a6
      rw [if_neg (show ¬ (1 : Int32) = 0 by decide), x3] at a7
      refine .inl ⟨τ, υ', ?_, ?_, a2, fun c hc => by rw [a3 c hc, x5 c (by omega), fc c (by omega)], a4.trans b4.symm, a5.trans b5.symm, a6.trans b6.symm, fun _ => by rw [a7, b7, h5], b2, b3, fun c hc c1 c2 => ?_, fun k hk k8 => ?_⟩
      · rw [h1, Option.bind_some, x1, if_neg (show ¬ (0 : Int32) ≤ -3 by decide), if_pos rfl]
        exact a1
      · rw [h2, Option.bind_some, if_neg (show ¬ (1 : Int32) = 0 by decide)]
        exact b1
      · rw [b8 c c1 c2, fr2.1 c (hc.elim .inl (fun h => .inr (.inl h))) c1 c2, fr.1 c (hc.elim .inl (fun h => .inr (.inl h))) c1 c2]
      · rw [b9 k (fun e => hk (by unfold ab_sf; omega)) k8, fr2.2 k (.inl hk), fr.2 k (.inl hk)]
    · rw [h1, Option.bind_some, if_pos (by rw [show (0 : Int32) = ab_I 0 from rfl, ab_Ile (by omega) (by omega) (by omega) (by omega)]; exact v0), h2, Option.bind_some, if_pos (show (0 : Int32) = 0 from rfl), ab_I1]
      exact ih (i + 1) (by omega) f f2 (by omega) (by omega) τ υ2 D2 (fun c hc => by rw [h8 c hc]; exact fc c hc) (fr.trans (rd_fr.R h3 h4)) h6 h5 (h7.mono (by omega))
end
