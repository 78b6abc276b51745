/-! ranked as a call -/
section
variable {σ τ : q_S} {D : Nat → Int} {B : Int}
theorem ab_ah01 {o s : Nat} : ab_ah D o s = 0 ∨ ab_ah D o s = 1 := by
  unfold ab_ah
  split
  · exact .inr rfl
  · exact .inl rfl
theorem ab_rk_s {k s : Nat} : ab_rk D (k + 1) s = ab_rk D k s + ab_ah D k s := rfl
theorem ab_sAO_lp (hC : ab_CR τ 2 D) (hW : ab_WD B D) (h : ∀ s : Nat, s < 5 → τ 282 s = ab_I (ab_cn D 0 s)) {n : Nat} (hn : D 0 = n) {s : Nat} (hs : s < n) : ∀ r k : Nat, k + r = n → ∀ f, r < f → f_X9_sleepersAheadOf_4 τ f (ab_I s) (ab_I (ab_rk D k s)) (ab_I k) = some (ab_I (ab_rk D n s)) := by
  have w5 := hW.2.1
  intro r
  induction r with
  | zero =>
    intro k hk f hf
    obtain ⟨f, rfl⟩ : ∃ g, f = g + 1 := ⟨f - 1, by omega⟩
    rw [f_X9_sleepersAheadOf_4, show τ 2 0 = _ from hC.1, if_pos (by rw [ab_Ile (by omega) (by omega) (by omega) (by omega)]; omega), show k = n by omega]
  | succ r ih =>
    intro k hk f hf
    obtain ⟨f, rfl⟩ : ∃ g, f = g + 1 := ⟨f - 1, by omega⟩
    have hI := ih (k + 1) (by omega) f (by omega)
    rw [ab_rk_s] at hI
    rw [f_X9_sleepersAheadOf_4, show τ 2 0 = _ from hC.1, if_neg (by rw [ab_Ile (by omega) (by omega) (by omega) (by omega)]; omega), ab_aheadC hC hW h (by omega) (by omega), ab_I1]
    rcases ab_ah01 (D := D) (o := k) (s := s) with q | q
    · rw [q, Int.add_zero] at hI
      rw [q, if_pos (show ab_I 0 = 0 from rfl)]
      exact hI
    · rw [q] at hI
      rw [q, if_neg (show ¬ ab_I 1 = 0 by decide), show ab_I (ab_rk D k s) + 1 = _ from ab_Iadd (b := 1)]
      exact hI
theorem ab_sAO (hC : ab_CR τ 2 D) (hW : ab_WD B D) (h : ∀ s : Nat, s < 5 → τ 282 s = ab_I (ab_cn D 0 s)) {n : Nat} (hn : D 0 = n) {s : Nat} (hs : s < n) : f_X9_sleepersAheadOf τ (ab_I s) = some (ab_I (ab_rk D n s)) := by
  have w5 := hW.2.1
  exact ab_sAO_lp hC hW h hn hs n 0 (by omega) q_fu (by unfold q_fu; omega)
theorem ab_r42_lp (hC : ab_CR τ 2 D) (hW : ab_WD B D) (h : ∀ s : Nat, s < 5 → τ 282 s = ab_I (ab_cn D 0 s)) {n : Nat} (hn : D 0 = n) {s0 : Nat} (hs0 : s0 < n) : ∀ r k : Nat, k + r = n → ∀ f, r < f → ∀ v : Int32, f_X9_ranked_42 f (ab_I (ab_rk D n s0)) v (ab_I k) τ = some (0, (if k ≤ s0 then ab_I s0 else v), τ) := by
  have w5 := hW.2.1
  intro r
  induction r with
  | zero =>
    intro k hk f hf v
    obtain ⟨f, rfl⟩ : ∃ g, f = g + 1 := ⟨f - 1, by omega⟩
    rw [f_X9_ranked_42, show τ 2 0 = _ from hC.1, if_pos (by rw [ab_Ile (by omega) (by omega) (by omega) (by omega)]; omega), if_neg (by omega)]
  | succ r ih =>
    intro k hk f hf v
    obtain ⟨f, rfl⟩ : ∃ g, f = g + 1 := ⟨f - 1, by omega⟩
    have b1 := ab_rk_b (D := D) (n := n) (s := k) (by omega)
    have b2 := ab_rk_b (D := D) (n := n) (s := s0) hs0
    rw [f_X9_ranked_42, show τ 2 0 = _ from hC.1, if_neg (by rw [ab_Ile (by omega) (by omega) (by omega) (by omega)]; omega), ab_sAO hC hW h hn (by omega), Option.bind_some, ab_I1]
    by_cases q : k = s0
    · rw [if_pos (by rw [q]), ih (k + 1) (by omega) f (by omega), if_neg (by omega), if_pos (by omega), q]
    · rw [if_neg (by rw [ab_Ieq (by omega) (by omega) (by omega) (by omega)]; exact fun e => q (ab_rk_inj hW hn (by omega) hs0 e)), ih (k + 1) (by omega) f (by omega)]
      by_cases z : k ≤ s0
      · rw [if_pos (by omega), if_pos z]
      · rw [if_neg (by omega), if_neg z]
theorem ab_r52_lp (hM : ab_MR τ 293 0 D) (hW : ab_WD B D) (h : ∀ s : Nat, (s : Int) < D 0 → τ 298 s = ab_I (ab_cn D 0 s)) {n : Nat} (hn : D 0 = n) {s : Nat} (hs : s < n) {k37 : Int32 → Int32 → q_S → Option (Int32 × q_S)} {a : Int32} : ∀ r k : Nat, k + r = n → ∀ f, r < f → f_X10_ranked_52 k37 f a (ab_I s) (ab_I (ab_rk D k s)) (ab_I k) τ = if ab_I (ab_rk D n s) = a then some (ab_I s, τ) else k37 a (ab_I s + 1) τ := by
  have w5 := hW.2.1
  have m0 : τ 293 0 = ab_I (D 0) := hM 0 (by decide)
  intro r
  induction r with
  | zero =>
    intro k hk f hf
    obtain ⟨f, rfl⟩ : ∃ g, f = g + 1 := ⟨f - 1, by omega⟩
    rw [f_X10_ranked_52, m0, if_pos (by rw [ab_Ile (by omega) (by omega) (by omega) (by omega)]; omega), show k = n by omega]
  | succ r ih =>
    intro k hk f hf
    obtain ⟨f, rfl⟩ : ∃ g, f = g + 1 := ⟨f - 1, by omega⟩
    have hI := ih (k + 1) (by omega) f (by omega)
    rw [ab_rk_s] at hI
    rw [f_X10_ranked_52, m0, if_neg (by rw [ab_Ile (by omega) (by omega) (by omega) (by omega)]; omega), ab_aheadR hM hW h (by omega) (by omega), Option.bind_some, ab_I1]
    rcases ab_ah01 (D := D) (o := k) (s := s) with q | q
    · rw [q] at hI
      rw [q, if_pos (show ab_I 0 = 0 from rfl), show ab_I (ab_rk D k s) + 0 = _ from ab_Iadd (b := 0)]
      exact hI
    · rw [q] at hI
      rw [q, if_neg (show ¬ ab_I 1 = 0 by decide), show ab_I (ab_rk D k s) + 1 = _ from ab_Iadd (b := 1)]
      exact hI
theorem ab_r37_lp (hM : ab_MR τ 293 0 D) (hW : ab_WD B D) (h : ∀ s : Nat, (s : Int) < D 0 → τ 298 s = ab_I (ab_cn D 0 s)) {n : Nat} (hn : D 0 = n) {s0 : Nat} (hs0 : s0 < n) : ∀ r k : Nat, k + r = s0 → ∀ f, r < f → f_X10_ranked_37 f (ab_I (ab_rk D n s0)) (ab_I k) τ = some (ab_I s0, τ) := by
  have w5 := hW.2.1
  have m0 : τ 293 0 = ab_I (D 0) := hM 0 (by decide)
  have b2 := ab_rk_b (D := D) (n := n) (s := s0) hs0
  intro r
  induction r with
  | zero =>
    intro k hk f hf
    obtain ⟨f, rfl⟩ : ∃ g, f = g + 1 := ⟨f - 1, by omega⟩
    rw [f_X10_ranked_37, m0, if_neg (by rw [ab_Ile (by omega) (by omega) (by omega) (by omega)]; omega), show k = s0 by omega, show f_X10_ranked_52 (f_X10_ranked_37 f) q_fu (ab_I (ab_rk D n s0)) (ab_I s0) 0 0 τ = _ from ab_r52_lp hM hW h hn hs0 n 0 (by omega) q_fu (by unfold q_fu; omega), if_pos rfl]
  | succ r ih =>
    intro k hk f hf
    obtain ⟨f, rfl⟩ : ∃ g, f = g + 1 := ⟨f - 1, by omega⟩
    have b1 := ab_rk_b (D := D) (n := n) (s := k) (by omega)
    rw [f_X10_ranked_37, m0, if_neg (by rw [ab_Ile (by omega) (by omega) (by omega) (by omega)]; omega), show f_X10_ranked_52 (f_X10_ranked_37 f) q_fu (ab_I (ab_rk D n s0)) (ab_I k) 0 0 τ = _ from ab_r52_lp hM hW h hn (s := k) (by omega) n 0 (by omega) q_fu (by unfold q_fu; omega), if_neg (by rw [ab_Ieq (by omega) (by omega) (by omega) (by omega)]; exact fun e => absurd (ab_rk_inj hW hn (by omega) hs0 e) (by omega)), ab_I1]
    exact ih (k + 1) (by omega) f (by omega)
theorem ab_r37_no (hM : ab_MR τ 293 0 D) (hW : ab_WD B D) (h : ∀ s : Nat, (s : Int) < D 0 → τ 298 s = ab_I (ab_cn D 0 s)) {n : Nat} (hn : D 0 = n) {a : Int32} (ha : ∀ s, s < n → ab_I (ab_rk D n s) ≠ a) : ∀ r k : Nat, k + r = n → ∀ f, r < f → f_X10_ranked_37 f a (ab_I k) τ = some (0, q_up τ 292 4 1) := by
  have w5 := hW.2.1
  have m0 : τ 293 0 = ab_I (D 0) := hM 0 (by decide)
  intro r
  induction r with
  | zero =>
    intro k hk f hf
    obtain ⟨f, rfl⟩ : ∃ g, f = g + 1 := ⟨f - 1, by omega⟩
    rw [f_X10_ranked_37, m0, if_pos (by rw [ab_Ile (by omega) (by omega) (by omega) (by omega)]; omega)]
    rfl
  | succ r ih =>
    intro k hk f hf
    obtain ⟨f, rfl⟩ : ∃ g, f = g + 1 := ⟨f - 1, by omega⟩
    rw [f_X10_ranked_37, m0, if_neg (by rw [ab_Ile (by omega) (by omega) (by omega) (by omega)]; omega), show f_X10_ranked_52 (f_X10_ranked_37 f) q_fu a (ab_I k) 0 0 τ = _ from ab_r52_lp hM hW h hn (s := k) (by omega) n 0 (by omega) q_fu (by unfold q_fu; omega), if_neg (ha k (by omega)), ab_I1]
    exact ih (k + 1) (by omega) f (by omega)
theorem ab_r7_lp (hM : ab_MR σ 293 0 D) (hW : ab_WD B D) {n : Nat} (hn : D 0 = n) {a : Int32} : ∀ r k : Nat, k + r = n → ∀ f, r < f → ∀ τ : q_S, (∀ s : Nat, s < k → τ 298 s = ab_I (ab_cn D 0 s)) → (∀ c, c ≠ 298 → τ c = σ c) → ∃ υ, f_X10_ranked_7 f a (ab_I k) τ = f_X10_ranked_37 q_fu a 0 υ ∧ (∀ s : Nat, (s : Int) < D 0 → υ 298 s = ab_I (ab_cn D 0 s)) ∧ ∀ c, c ≠ 298 → υ c = σ c := by
  have w5 := hW.2.1
  have m0 : σ 293 0 = ab_I (D 0) := hM 0 (by decide)
  intro r
  induction r with
  | zero =>
    intro k hk f hf τ h1 h2
    obtain ⟨f, rfl⟩ : ∃ g, f = g + 1 := ⟨f - 1, by omega⟩
    refine ⟨τ, ?_, fun s hs => h1 s (by omega), h2⟩
    rw [f_X10_ranked_7, h2 293 (by decide), m0, if_pos (by rw [ab_Ile (by omega) (by omega) (by omega) (by omega)]; omega)]
  | succ r ih =>
    intro k hk f hf τ h1 h2
    obtain ⟨f, rfl⟩ : ∃ g, f = g + 1 := ⟨f - 1, by omega⟩
    have hM2 : ab_MR τ 293 0 D := fun j hj => by rw [h2 293 (by decide)]; exact hM j hj
    obtain ⟨υ, u1, u2, u3⟩ := ih (k + 1) (by omega) f (by omega) (q_up τ 298 k (ab_I (ab_cn D 0 k))) (fun s hs => by
      by_cases e : s = k
      · subst e; rw [ab_up_at]
      · rw [ab_up_nk e]; exact h1 s (by omega)) (fun c hc => by rw [ab_up_ne hc]; exact h2 c hc)
    refine ⟨υ, ?_, u2, u3⟩
    rw [f_X10_ranked_7, h2 293 (by decide), m0, if_neg (by rw [ab_Ile (by omega) (by omega) (by omega) (by omega)]; omega), show f_X10_cellsIn τ (ab_I k) 0 = _ from ab_cellsIn hM2 hW (h := 0) (s := k) (by omega) (by omega) (by omega) (by omega), Option.bind_some, if_neg (by rw [ab_Icl (by omega) (by omega), Int.toNat_natCast, ab_Iltc (by omega) (by omega)]; exact fun h => h.elim id (fun h => by omega)), ab_Icl (by omega) (by omega), Int.toNat_natCast, ab_I1]
    exact u1
end
theorem ab_ok_20 {t : Nat} {σ : q_S} (hI : ab_Inv t σ) (_ht : t < 512) (a b c : Int32) : w_ok_20 σ a b c (ab_Inv (t + 1)) := by
  have hI2 := hI
  obtain ⟨D, ⟨hC, hM, hW⟩, hO⟩ := hI
  have w0 := hW.1
  have w5 := hW.2.1
  obtain ⟨n, hn⟩ : ∃ n : Nat, D 0 = n := ⟨(D 0).toNat, by omega⟩
  have l0 := Int32.le_toInt a
  have l1 := Int32.toInt_lt a
  have eq4 : ∀ (τ υ : q_S), ab_eq σ τ → (∀ c, c ≠ 298 → υ c = q_up τ 292 4 0 c) → ab_eq σ υ := fun τ υ h g =>
    (h.trans (ab_eq.up (c := 292) (k := 4) (v := 0) (.inr ⟨rfl, .inl rfl⟩))).trans ⟨fun c p q => g c (fun e => p (by unfold ab_sc; omega)), fun k _ => by rw [g 292 (by decide)]⟩
  unfold w_ok_20
  by_cases q : 0 ≤ a.toInt ∧ a.toInt < D 0
  · obtain ⟨s0, z1, z2⟩ := ab_onto (f := fun s => (ab_rk D n s).toNat) (n := n) (p := a.toInt.toNat) (by omega) (fun s hs => by have := ab_rk_b (D := D) hs; omega) (fun o s ho hs e => ab_rk_inj hW hn ho hs (by have := ab_rk_b (D := D) ho; have := ab_rk_b (D := D) hs; omega)) (by omega)
    have b2 := ab_rk_b (D := D) z1
    have ea : a = ab_I (ab_rk D n s0) := by
      rw [ab_Iof a]
      exact congrArg ab_I (by omega)
    obtain ⟨τ, t1, t2, t3, t4⟩ := ab_survey hC hW (h := 0) (by omega) (by omega)
    have hCτ : ab_CR τ 2 D := hC.same hW.2.1 (fun c a b => t4 c (by omega) (by omega))
    have hMτ : ab_MR (q_up τ 292 4 0) 293 0 D := fun k hk => by rw [ab_up_ne (by decide), t4 293 (by decide) (by decide)]; exact hM k hk
    obtain ⟨υ, u1, u2, u3⟩ := ab_r7_lp (a := a) hMτ hW hn n 0 (by omega) q_fu (by unfold q_fu; omega) (q_up τ 292 4 0) (fun s hs => absurd hs (by omega)) (fun _ _ => rfl)
    have hMυ : ab_MR υ 293 0 D := fun k hk => by rw [u3 293 (by decide)]; exact hMτ k hk
    refine ⟨0, ab_I s0, ab_I s0, τ, υ, ?_, .inl rfl, ?_, ?_, fun _ => rfl, hI2.same (eq4 τ υ (ab_svq t4) u3)⟩
    · unfold f_X9_ranked
      rw [show σ 2 0 = _ from hC.1, if_neg (by rw [ab_Iof a, show (0 : Int32) = ab_I 0 from rfl, ab_Ilt (by omega) (by omega) (by omega) (by omega)]; omega), if_pos (by rw [ab_Iof a, ab_Ilt (by omega) (by omega) (by omega) (by omega)]; omega), show f_X0_survey σ 2 0 = _ from t1, Option.bind_some, ea]
      have g := ab_r42_lp hCτ hW t3 hn z1 n 0 (by omega) q_fu (by unfold q_fu; omega) 0
      rw [if_pos (by omega)] at g
      exact g
    · unfold f_X10_ranked
      refine u1.trans ?_
      rw [ea]
      exact ab_r37_lp hMυ hW u2 hn z1 s0 0 (by omega) q_fu (by unfold q_fu; omega)
    · show υ 292 4 = 0
      rw [u3 292 (by decide), ab_up_at]
  · have hM1 : ab_MR (q_up σ 292 4 0) 293 0 D := hM
    obtain ⟨υ, u1, u2, u3⟩ := ab_r7_lp (a := a) hM1 hW hn n 0 (by omega) q_fu (by unfold q_fu; omega) (q_up σ 292 4 0) (fun s hs => absurd hs (by omega)) (fun _ _ => rfl)
    have hMυ : ab_MR υ 293 0 D := fun k hk => by rw [u3 293 (by decide)]; exact hM1 k hk
    have hno : ∀ s, s < n → ab_I (ab_rk D n s) ≠ a := fun s hs e => by
      have := ab_rk_b (D := D) hs
      rw [← e, ab_Iint (by omega) (by omega)] at q
      omega
    refine ⟨4, 0, 0, σ, q_up υ 292 4 1, ?_, .inr rfl, ?_, rfl, fun z => absurd z (by decide), hI2.same ((eq4 σ υ ab_eq.rf u3).trans (ab_eq.up (.inr ⟨rfl, .inl rfl⟩)))⟩
    · unfold f_X9_ranked
      by_cases q0 : a < 0
      · rw [if_pos q0]
      · rw [if_neg q0, if_neg (by
          rw [ab_Iof a, show (0 : Int32) = ab_I 0 from rfl, ab_Ilt (by omega) (by omega) (by omega) (by omega)] at q0
          rw [show σ 2 0 = _ from hC.1, ab_Iof a, ab_Ilt (by omega) (by omega) (by omega) (by omega)]
          omega)]
    · unfold f_X10_ranked
      refine u1.trans ?_
      exact ab_r37_no hMυ hW u2 hn hno n 0 (by omega) q_fu (by unfold q_fu; omega)
