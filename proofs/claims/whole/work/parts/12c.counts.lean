/-! counts over the sleepers -/
section
variable {σ : q_S} {D : Nat → Int} {B : Int}
theorem ab_cPlots_lp {z : Nat} (hC : ab_CR σ z D) (hW : ab_WD B D) (h0 : 0 ≤ D 0) (h5 : D 0 ≤ 5) : ∀ r k : Nat, ((k + r : Nat) : Int) = D 0 → ∀ f, r < f → f_X2_countPlots_4 z σ f (ab_I (ab_S (fun s => if 1 ≤ D (31 + 37 * s) then (1 : Int) else 0) k)) (ab_I k) = some (ab_I (ab_S (fun s => if 1 ≤ D (31 + 37 * s) then (1 : Int) else 0) (D 0).toNat)) := by
  intro r
  induction r with
  | zero =>
    intro k hk f hf
    obtain ⟨f, rfl⟩ : ∃ g, f = g + 1 := ⟨f - 1, by omega⟩
    rw [f_X2_countPlots_4, hC.1, if_pos (by rw [ab_Ile (by omega) (by omega) (by omega) (by omega)]; omega), show (D 0).toNat = k by omega]
  | succ r ih =>
    intro k hk f hf
    obtain ⟨f, rfl⟩ : ∃ g, f = g + 1 := ⟨f - 1, by omega⟩
    have hI := ih (k + 1) (by omega) f (by omega)
    rw [f_X2_countPlots_4, hC.1, if_neg (by rw [ab_Ile (by omega) (by omega) (by omega) (by omega)]; omega)]
    have hs : ab_S (fun s => if 1 ≤ D (31 + 37 * s) then (1 : Int) else 0) (k + 1) = ab_S (fun s => if 1 ≤ D (31 + 37 * s) then (1 : Int) else 0) k + (if 1 ≤ D (31 + 37 * k) then (1 : Int) else 0) := rfl
    rw [hs] at hI
    have hp := hC.2.2.2.2.1 k (by omega)
    have w := hW.2.2.2.2.2.2.2.2.1 k (by omega)
    have e1 : ab_sl D k 1 = D (31 + 37 * k) := congrArg D (by omega)
    have w1 := w.2.2.1
    have w2 := w.2.2.2.1
    rw [ab_plotOf (by omega)]
    rw [hp.2.1, e1]
    by_cases q : 1 ≤ D (31 + 37 * k)
    · rw [if_pos q] at hI
      rw [if_pos q, if_neg (show ¬ ab_I 1 = 0 by decide), (show ab_I (ab_S (fun s => if 1 ≤ D (31 + 37 * s) then (1 : Int) else 0) k) + 1 = ab_I (ab_S (fun s => if 1 ≤ D (31 + 37 * s) then (1 : Int) else 0) k + 1) from ab_Iadd (b := 1)), ab_I1]
      exact hI
    · rw [if_neg q] at hI
      rw [Int.add_zero] at hI
      rw [if_neg q, if_pos (show ab_I 0 = 0 from rfl), ab_I1]
      exact hI
theorem ab_cPlots {z : Nat} (hC : ab_CR σ z D) (hW : ab_WD B D) (h0 : 0 ≤ D 0) (h5 : D 0 ≤ 5) : f_X2_countPlots σ z = some (ab_I (ab_S (fun s => if 1 ≤ D (31 + 37 * s) then (1 : Int) else 0) (D 0).toNat)) := by
  unfold f_X2_countPlots
  exact ab_cPlots_lp hC hW h0 h5 (D 0).toNat 0 (by omega) q_fu (by unfold q_fu; omega)
theorem ab_cClosed_lp {z : Nat} (hC : ab_CR σ z D) (hW : ab_WD B D) (h0 : 0 ≤ D 0) (h5 : D 0 ≤ 5) : ∀ r k : Nat, ((k + r : Nat) : Int) = D 0 → ∀ f, r < f → f_X2_countClosed_4 z σ f (ab_I (ab_S (fun s => if D (31 + 37 * s) = 2 then (1 : Int) else 0) k)) (ab_I k) = some (ab_I (ab_S (fun s => if D (31 + 37 * s) = 2 then (1 : Int) else 0) (D 0).toNat)) := by
  intro r
  induction r with
  | zero =>
    intro k hk f hf
    obtain ⟨f, rfl⟩ : ∃ g, f = g + 1 := ⟨f - 1, by omega⟩
    rw [f_X2_countClosed_4, hC.1, if_pos (by rw [ab_Ile (by omega) (by omega) (by omega) (by omega)]; omega), show (D 0).toNat = k by omega]
  | succ r ih =>
    intro k hk f hf
    obtain ⟨f, rfl⟩ : ∃ g, f = g + 1 := ⟨f - 1, by omega⟩
    have hI := ih (k + 1) (by omega) f (by omega)
    rw [f_X2_countClosed_4, hC.1, if_neg (by rw [ab_Ile (by omega) (by omega) (by omega) (by omega)]; omega)]
    have hs : ab_S (fun s => if D (31 + 37 * s) = 2 then (1 : Int) else 0) (k + 1) = ab_S (fun s => if D (31 + 37 * s) = 2 then (1 : Int) else 0) k + (if D (31 + 37 * k) = 2 then (1 : Int) else 0) := rfl
    rw [hs] at hI
    have hp := hC.2.2.2.2.1 k (by omega)
    have w := hW.2.2.2.2.2.2.2.2.1 k (by omega)
    have e1 : ab_sl D k 1 = D (31 + 37 * k) := congrArg D (by omega)
    have w1 := w.2.2.1
    have w2 := w.2.2.2.1
    rw [ab_plotOf (by omega)]
    rw [hp.2.2.1, e1]
    by_cases q : D (31 + 37 * k) = 2
    · rw [if_pos q] at hI
      rw [if_pos q, if_neg (show ¬ ab_I 1 = 0 by decide), (show ab_I (ab_S (fun s => if D (31 + 37 * s) = 2 then (1 : Int) else 0) k) + 1 = ab_I (ab_S (fun s => if D (31 + 37 * s) = 2 then (1 : Int) else 0) k + 1) from ab_Iadd (b := 1)), ab_I1]
      exact hI
    · rw [if_neg q] at hI
      rw [Int.add_zero] at hI
      rw [if_neg q, if_pos (show ab_I 0 = 0 from rfl), ab_I1]
      exact hI
theorem ab_cClosed {z : Nat} (hC : ab_CR σ z D) (hW : ab_WD B D) (h0 : 0 ≤ D 0) (h5 : D 0 ≤ 5) : f_X2_countClosed σ z = some (ab_I (ab_S (fun s => if D (31 + 37 * s) = 2 then (1 : Int) else 0) (D 0).toNat)) := by
  unfold f_X2_countClosed
  exact ab_cClosed_lp hC hW h0 h5 (D 0).toNat 0 (by omega) q_fu (by unfold q_fu; omega)
theorem ab_cAwake_lp {z : Nat} (hC : ab_CR σ z D) (hW : ab_WD B D) (h0 : 0 ≤ D 0) (h5 : D 0 ≤ 5) : ∀ r k : Nat, ((k + r : Nat) : Int) = D 0 → ∀ f, r < f → f_X2_countAwake_4 z σ f (ab_I (ab_S (fun s => if D (30 + 37 * s) = 0 then (1 : Int) else 0) k)) (ab_I k) = some (ab_I (ab_S (fun s => if D (30 + 37 * s) = 0 then (1 : Int) else 0) (D 0).toNat)) := by
  intro r
  induction r with
  | zero =>
    intro k hk f hf
    obtain ⟨f, rfl⟩ : ∃ g, f = g + 1 := ⟨f - 1, by omega⟩
    rw [f_X2_countAwake_4, hC.1, if_pos (by rw [ab_Ile (by omega) (by omega) (by omega) (by omega)]; omega), show (D 0).toNat = k by omega]
  | succ r ih =>
    intro k hk f hf
    obtain ⟨f, rfl⟩ : ∃ g, f = g + 1 := ⟨f - 1, by omega⟩
    have hI := ih (k + 1) (by omega) f (by omega)
    rw [f_X2_countAwake_4, hC.1, if_neg (by rw [ab_Ile (by omega) (by omega) (by omega) (by omega)]; omega)]
    have hs : ab_S (fun s => if D (30 + 37 * s) = 0 then (1 : Int) else 0) (k + 1) = ab_S (fun s => if D (30 + 37 * s) = 0 then (1 : Int) else 0) k + (if D (30 + 37 * k) = 0 then (1 : Int) else 0) := rfl
    rw [hs] at hI
    have w := hW.2.2.2.2.2.2.2.2.1 k (by omega)
    have w1 : 0 ≤ D (30 + 37 * k) := w.1
    have w2 : D (30 + 37 * k) ≤ 9 := w.2.1
    rw [ab_depthOf hC (by omega) (by omega)]
    by_cases q : D (30 + 37 * k) = 0
    · rw [if_pos q] at hI
      rw [if_pos (by rw [q]; rfl), (show ab_I (ab_S (fun s => if D (30 + 37 * s) = 0 then (1 : Int) else 0) k) + 1 = ab_I (ab_S (fun s => if D (30 + 37 * s) = 0 then (1 : Int) else 0) k + 1) from ab_Iadd (b := 1)), ab_I1]
      exact hI
    · rw [if_neg q] at hI
      rw [Int.add_zero] at hI
      rw [if_neg (by rw [show (0 : Int32) = ab_I 0 from rfl, ab_Ieq (by omega) (by omega) (by omega) (by omega)]; exact q), ab_I1]
      exact hI
theorem ab_cAwake {z : Nat} (hC : ab_CR σ z D) (hW : ab_WD B D) (h0 : 0 ≤ D 0) (h5 : D 0 ≤ 5) : f_X2_countAwake σ z = some (ab_I (ab_S (fun s => if D (30 + 37 * s) = 0 then (1 : Int) else 0) (D 0).toNat)) := by
  unfold f_X2_countAwake
  exact ab_cAwake_lp hC hW h0 h5 (D 0).toNat 0 (by omega) q_fu (by unfold q_fu; omega)
theorem ab_cChains_lp {z : Nat} (hC : ab_CR σ z D) (hW : ab_WD B D) (h0 : 0 ≤ D 0) (h5 : D 0 ≤ 5) : ∀ r k : Nat, ((k + r : Nat) : Int) = D 0 → ∀ f, r < f → f_X2_countChains_4 z σ f (ab_I (ab_S (fun s => D (34 + 37 * s)) k)) (ab_I k) = some (ab_I (ab_S (fun s => D (34 + 37 * s)) (D 0).toNat)) := by
  intro r
  induction r with
  | zero =>
    intro k hk f hf
    obtain ⟨f, rfl⟩ : ∃ g, f = g + 1 := ⟨f - 1, by omega⟩
    rw [f_X2_countChains_4, hC.1, if_pos (by rw [ab_Ile (by omega) (by omega) (by omega) (by omega)]; omega), show (D 0).toNat = k by omega]
  | succ r ih =>
    intro k hk f hf
    obtain ⟨f, rfl⟩ : ∃ g, f = g + 1 := ⟨f - 1, by omega⟩
    have hI := ih (k + 1) (by omega) f (by omega)
    rw [f_X2_countChains_4, hC.1, if_neg (by rw [ab_Ile (by omega) (by omega) (by omega) (by omega)]; omega)]
    have hs : ab_S (fun s => D (34 + 37 * s)) (k + 1) = ab_S (fun s => D (34 + 37 * s)) k + (D (34 + 37 * k)) := rfl
    rw [hs] at hI
    have hp := hC.2.2.2.2.1 k (by omega)
    have e1 : ab_sl D k 4 = D (34 + 37 * k) := congrArg D (by omega)
    rw [ab_plotOf (by omega), hp.2.2.2.1, e1]
    rw [ab_Iadd, ab_I1]
    exact hI
theorem ab_cChains {z : Nat} (hC : ab_CR σ z D) (hW : ab_WD B D) (h0 : 0 ≤ D 0) (h5 : D 0 ≤ 5) : f_X2_countChains σ z = some (ab_I (ab_S (fun s => D (34 + 37 * s)) (D 0).toNat)) := by
  unfold f_X2_countChains
  exact ab_cChains_lp hC hW h0 h5 (D 0).toNat 0 (by omega) q_fu (by unfold q_fu; omega)
theorem ab_cDepths_lp {z : Nat} (hC : ab_CR σ z D) (hW : ab_WD B D) (h0 : 0 ≤ D 0) (h5 : D 0 ≤ 5) : ∀ r k : Nat, ((k + r : Nat) : Int) = D 0 → ∀ f, r < f → f_X2_sumOfDepths_4 z σ f (ab_I (ab_S (fun s => D (30 + 37 * s)) k)) (ab_I k) = some (ab_I (ab_S (fun s => D (30 + 37 * s)) (D 0).toNat)) := by
  intro r
  induction r with
  | zero =>
    intro k hk f hf
    obtain ⟨f, rfl⟩ : ∃ g, f = g + 1 := ⟨f - 1, by omega⟩
    rw [f_X2_sumOfDepths_4, hC.1, if_pos (by rw [ab_Ile (by omega) (by omega) (by omega) (by omega)]; omega), show (D 0).toNat = k by omega]
  | succ r ih =>
    intro k hk f hf
    obtain ⟨f, rfl⟩ : ∃ g, f = g + 1 := ⟨f - 1, by omega⟩
    have hI := ih (k + 1) (by omega) f (by omega)
    rw [f_X2_sumOfDepths_4, hC.1, if_neg (by rw [ab_Ile (by omega) (by omega) (by omega) (by omega)]; omega)]
    have hs : ab_S (fun s => D (30 + 37 * s)) (k + 1) = ab_S (fun s => D (30 + 37 * s)) k + (D (30 + 37 * k)) := rfl
    rw [hs] at hI
    rw [ab_depthOf hC (by omega) (by omega)]
    rw [ab_Iadd, ab_I1]
    exact hI
theorem ab_cDepths {z : Nat} (hC : ab_CR σ z D) (hW : ab_WD B D) (h0 : 0 ≤ D 0) (h5 : D 0 ≤ 5) : f_X2_sumOfDepths σ z = some (ab_I (ab_S (fun s => D (30 + 37 * s)) (D 0).toNat)) := by
  unfold f_X2_sumOfDepths
  exact ab_cDepths_lp hC hW h0 h5 (D 0).toNat 0 (by omega) q_fu (by unfold q_fu; omega)
theorem ab_rPlots_lp (hM : ab_MR σ 293 0 D) (hW : ab_WD B D) (h0 : 0 ≤ D 0) (h5 : D 0 ≤ 5) {m : Int} (hm0 : 0 ≤ m) (hm1 : m ≤ 5) : ∀ r k : Nat, ((k + r : Nat) : Int) = D 0 → ∀ f, r < f → f_X10_plots_4 σ f (ab_I m) (ab_I (ab_S (fun s => if m ≤ D (31 + 37 * s) then (1 : Int) else 0) k)) (ab_I k) = some (ab_I (ab_S (fun s => if m ≤ D (31 + 37 * s) then (1 : Int) else 0) (D 0).toNat)) := by
  intro r
  induction r with
  | zero =>
    intro k hk f hf
    obtain ⟨f, rfl⟩ : ∃ g, f = g + 1 := ⟨f - 1, by omega⟩
    rw [f_X10_plots_4, (show σ 293 0 = ab_I (D 0) from hM 0 (by decide)), if_pos (by rw [ab_Ile (by omega) (by omega) (by omega) (by omega)]; omega), show (D 0).toNat = k by omega]
  | succ r ih =>
    intro k hk f hf
    obtain ⟨f, rfl⟩ : ∃ g, f = g + 1 := ⟨f - 1, by omega⟩
    have hI := ih (k + 1) (by omega) f (by omega)
    rw [f_X10_plots_4, (show σ 293 0 = ab_I (D 0) from hM 0 (by decide)), if_neg (by rw [ab_Ile (by omega) (by omega) (by omega) (by omega)]; omega)]
    have hs : ab_S (fun s => if m ≤ D (31 + 37 * s) then (1 : Int) else 0) (k + 1) = ab_S (fun s => if m ≤ D (31 + 37 * s) then (1 : Int) else 0) k + (if m ≤ D (31 + 37 * k) then (1 : Int) else 0) := rfl
    rw [hs] at hI
    have w := hW.2.2.2.2.2.2.2.2.1 k (by omega)
    have w1 := w.2.2.1
    have w2 := w.2.2.2.1
    have e1 : ab_sl D k 1 = D (31 + 37 * k) := congrArg D (by omega)
    rw [(ab_svn hM (s := k) (by omega)).2.1, Option.bind_some, e1]
    rw [e1] at w1 w2
    by_cases q : m ≤ D (31 + 37 * k)
    · rw [if_pos q] at hI
      rw [if_neg (by rw [ab_Ilt (by omega) (by omega) (by omega) (by omega)]; omega), (show ab_I (ab_S (fun s => if m ≤ D (31 + 37 * s) then (1 : Int) else 0) k) + 1 = ab_I (ab_S (fun s => if m ≤ D (31 + 37 * s) then (1 : Int) else 0) k + 1) from ab_Iadd (b := 1)), ab_I1]
      exact hI
    · rw [if_neg q] at hI
      rw [if_pos (by rw [ab_Ilt (by omega) (by omega) (by omega) (by omega)]; omega), ab_I1, show (0 : Int32) = ab_I 0 from rfl, ab_Iadd]
      exact hI
theorem ab_rPlots (hM : ab_MR σ 293 0 D) (hW : ab_WD B D) (h0 : 0 ≤ D 0) (h5 : D 0 ≤ 5) {m : Int} (hm0 : 0 ≤ m) (hm1 : m ≤ 5) : f_X10_plots σ (ab_I m) = some (ab_I (ab_S (fun s => if m ≤ D (31 + 37 * s) then (1 : Int) else 0) (D 0).toNat)) := by
  unfold f_X10_plots
  exact ab_rPlots_lp hM hW h0 h5 hm0 hm1 (D 0).toNat 0 (by omega) q_fu (by unfold q_fu; omega)
theorem ab_rAwake_lp (hM : ab_MR σ 293 0 D) (hW : ab_WD B D) (h0 : 0 ≤ D 0) (h5 : D 0 ≤ 5) : ∀ r k : Nat, ((k + r : Nat) : Int) = D 0 → ∀ f, r < f → f_X10_awake_4 σ f (ab_I (ab_S (fun s => if D (30 + 37 * s) = 0 then (1 : Int) else 0) k)) (ab_I k) = some (ab_I (ab_S (fun s => if D (30 + 37 * s) = 0 then (1 : Int) else 0) (D 0).toNat)) := by
  intro r
  induction r with
  | zero =>
    intro k hk f hf
    obtain ⟨f, rfl⟩ : ∃ g, f = g + 1 := ⟨f - 1, by omega⟩
    rw [f_X10_awake_4, (show σ 293 0 = ab_I (D 0) from hM 0 (by decide)), if_pos (by rw [ab_Ile (by omega) (by omega) (by omega) (by omega)]; omega), show (D 0).toNat = k by omega]
  | succ r ih =>
    intro k hk f hf
    obtain ⟨f, rfl⟩ : ∃ g, f = g + 1 := ⟨f - 1, by omega⟩
    have hI := ih (k + 1) (by omega) f (by omega)
    rw [f_X10_awake_4, (show σ 293 0 = ab_I (D 0) from hM 0 (by decide)), if_neg (by rw [ab_Ile (by omega) (by omega) (by omega) (by omega)]; omega)]
    have hs : ab_S (fun s => if D (30 + 37 * s) = 0 then (1 : Int) else 0) (k + 1) = ab_S (fun s => if D (30 + 37 * s) = 0 then (1 : Int) else 0) k + (if D (30 + 37 * k) = 0 then (1 : Int) else 0) := rfl
    rw [hs] at hI
    have w := hW.2.2.2.2.2.2.2.2.1 k (by omega)
    have w1 : 0 ≤ D (30 + 37 * k) := w.1
    have w2 : D (30 + 37 * k) ≤ 9 := w.2.1
    rw [show f_X10_sv σ (ab_I k) 0 = some (ab_I (D (30 + 37 * k))) from (ab_svn hM (s := k) (by omega)).1, Option.bind_some]
    by_cases q : D (30 + 37 * k) = 0
    · rw [if_pos q] at hI
      rw [if_pos (by rw [q]; rfl), (show ab_I (ab_S (fun s => if D (30 + 37 * s) = 0 then (1 : Int) else 0) k) + 1 = ab_I (ab_S (fun s => if D (30 + 37 * s) = 0 then (1 : Int) else 0) k + 1) from ab_Iadd (b := 1)), ab_I1]
      exact hI
    · rw [if_neg q] at hI
      rw [if_neg (by rw [show (0 : Int32) = ab_I 0 from rfl, ab_Ieq (by omega) (by omega) (by omega) (by omega)]; exact q), ab_I1, show (0 : Int32) = ab_I 0 from rfl, ab_Iadd]
      exact hI
theorem ab_rAwake (hM : ab_MR σ 293 0 D) (hW : ab_WD B D) (h0 : 0 ≤ D 0) (h5 : D 0 ≤ 5) : f_X10_awake σ = some (ab_I (ab_S (fun s => if D (30 + 37 * s) = 0 then (1 : Int) else 0) (D 0).toNat)) := by
  unfold f_X10_awake
  exact ab_rAwake_lp hM hW h0 h5 (D 0).toNat 0 (by omega) q_fu (by unfold q_fu; omega)
theorem ab_rChains_lp (hM : ab_MR σ 293 0 D) (hW : ab_WD B D) (h0 : 0 ≤ D 0) (h5 : D 0 ≤ 5) : ∀ r k : Nat, ((k + r : Nat) : Int) = D 0 → ∀ f, r < f → f_X10_sumOf_4 σ f 4 (ab_I (ab_S (fun s => D (34 + 37 * s)) k)) (ab_I k) = some (ab_I (ab_S (fun s => D (34 + 37 * s)) (D 0).toNat)) := by
  intro r
  induction r with
  | zero =>
    intro k hk f hf
    obtain ⟨f, rfl⟩ : ∃ g, f = g + 1 := ⟨f - 1, by omega⟩
    rw [f_X10_sumOf_4, (show σ 293 0 = ab_I (D 0) from hM 0 (by decide)), if_pos (by rw [ab_Ile (by omega) (by omega) (by omega) (by omega)]; omega), show (D 0).toNat = k by omega]
  | succ r ih =>
    intro k hk f hf
    obtain ⟨f, rfl⟩ : ∃ g, f = g + 1 := ⟨f - 1, by omega⟩
    have hI := ih (k + 1) (by omega) f (by omega)
    rw [f_X10_sumOf_4, (show σ 293 0 = ab_I (D 0) from hM 0 (by decide)), if_neg (by rw [ab_Ile (by omega) (by omega) (by omega) (by omega)]; omega)]
    have hs : ab_S (fun s => D (34 + 37 * s)) (k + 1) = ab_S (fun s => D (34 + 37 * s)) k + (D (34 + 37 * k)) := rfl
    rw [hs] at hI
    have e1 : ab_sl D k 4 = D (34 + 37 * k) := congrArg D (by omega)
    rw [(ab_svn hM (s := k) (by omega)).2.2.2.2, Option.bind_some, e1]
    rw [ab_Iadd, ab_I1]
    exact hI
theorem ab_rChains (hM : ab_MR σ 293 0 D) (hW : ab_WD B D) (h0 : 0 ≤ D 0) (h5 : D 0 ≤ 5) : f_X10_sumOf σ 4 = some (ab_I (ab_S (fun s => D (34 + 37 * s)) (D 0).toNat)) := by
  unfold f_X10_sumOf
  exact ab_rChains_lp hM hW h0 h5 (D 0).toNat 0 (by omega) q_fu (by unfold q_fu; omega)
theorem ab_rDepths_lp (hM : ab_MR σ 293 0 D) (hW : ab_WD B D) (h0 : 0 ≤ D 0) (h5 : D 0 ≤ 5) : ∀ r k : Nat, ((k + r : Nat) : Int) = D 0 → ∀ f, r < f → f_X10_sumOf_4 σ f 0 (ab_I (ab_S (fun s => D (30 + 37 * s)) k)) (ab_I k) = some (ab_I (ab_S (fun s => D (30 + 37 * s)) (D 0).toNat)) := by
  intro r
  induction r with
  | zero =>
    intro k hk f hf
    obtain ⟨f, rfl⟩ : ∃ g, f = g + 1 := ⟨f - 1, by omega⟩
    rw [f_X10_sumOf_4, (show σ 293 0 = ab_I (D 0) from hM 0 (by decide)), if_pos (by rw [ab_Ile (by omega) (by omega) (by omega) (by omega)]; omega), show (D 0).toNat = k by omega]
  | succ r ih =>
    intro k hk f hf
    obtain ⟨f, rfl⟩ : ∃ g, f = g + 1 := ⟨f - 1, by omega⟩
    have hI := ih (k + 1) (by omega) f (by omega)
    rw [f_X10_sumOf_4, (show σ 293 0 = ab_I (D 0) from hM 0 (by decide)), if_neg (by rw [ab_Ile (by omega) (by omega) (by omega) (by omega)]; omega)]
    have hs : ab_S (fun s => D (30 + 37 * s)) (k + 1) = ab_S (fun s => D (30 + 37 * s)) k + (D (30 + 37 * k)) := rfl
    rw [hs] at hI
    rw [show f_X10_sv σ (ab_I k) 0 = some (ab_I (D (30 + 37 * k))) from (ab_svn hM (s := k) (by omega)).1, Option.bind_some]
    rw [ab_Iadd, ab_I1]
    exact hI
theorem ab_rDepths (hM : ab_MR σ 293 0 D) (hW : ab_WD B D) (h0 : 0 ≤ D 0) (h5 : D 0 ≤ 5) : f_X10_sumOf σ 0 = some (ab_I (ab_S (fun s => D (30 + 37 * s)) (D 0).toNat)) := by
  unfold f_X10_sumOf
  exact ab_rDepths_lp hM hW h0 h5 (D 0).toNat 0 (by omega) q_fu (by unfold q_fu; omega)
end
