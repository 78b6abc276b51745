/-! a plot told -/
def ab_num (v : Nat) : List Nat := if v < 10 then [48 + v] else [48 + v / 10, 48 + v % 10]
def ab_let (d : Int) : Nat := if d = 0 then 110 else if d = 1 then 101 else if d = 2 then 115 else 119
def ab_tl (P : Nat → Int) : Nat → List Nat
  | 0 => [40] ++ ab_num (P 2).toNat ++ [44] ++ ab_num (P 3).toNat ++ [41]
  | k + 1 => ab_tl P k ++ [ab_let (ab_ds P k)] ++ ab_num (ab_ls P k).toNat
section
variable {σ τ : q_S} {D : Nat → Int} {B : Int}
theorem ab_gd {L : List Nat} {v : Nat} : (∀ k, k < L.length → (L ++ [v]).getD k 0 = L.getD k 0) ∧ (L ++ [v]).getD L.length 0 = v := by
  refine ⟨fun k hk => ?_, ?_⟩
  · rw [List.getD_eq_getElem?_getD, List.getD_eq_getElem?_getD, List.getElem?_append_left hk]
  · rw [List.getD_eq_getElem?_getD, List.getElem?_append_right (Nat.le_refl _), Nat.sub_self]
    rfl
def ab_Qc (σ : q_S) (L : List Nat) : Prop := ab_Lc σ L.length (fun k => L.getD k 0)
def ab_Qr (σ : q_S) (L : List Nat) : Prop := ab_Lr σ L.length (fun k => L.getD k 0)
theorem ab_putQ {L : List Nat} {v : Nat} (h : ab_Qc σ L) (hn : L.length < 39) (hv : v < 65536) : ∃ υ, f_X4_put σ (ab_I v) = some υ ∧ ab_Qc υ (L ++ [v]) ∧ ab_fLc σ υ := by
  have g := ab_gd (L := L) (v := v)
  obtain ⟨υ, u1, u2, u3⟩ := ab_putL (l := fun k => (L ++ [v]).getD k 0) (n := L.length) ⟨h.1, fun k hk => (h.2 k hk).trans (congrArg (fun z : Nat => ab_I (z : Int)) (g.1 k hk)).symm⟩ hn hv g.2
  refine ⟨υ, u1, ?_, u3⟩
  unfold ab_Qc
  rw [List.length_append]
  exact u2
theorem ab_writeQ {L : List Nat} {v : Nat} (h : ab_Qr σ L) (hn : L.length < 60) : ∃ υ, f_X10_writes σ (ab_I v) = some υ ∧ ab_Qr υ (L ++ [v]) ∧ ab_fLr σ υ := by
  have g := ab_gd (L := L) (v := v)
  obtain ⟨υ, u1, u2, u3⟩ := ab_writeL (l := fun k => (L ++ [v]).getD k 0) (n := L.length) ⟨h.1, fun k hk => (h.2 k hk).trans (congrArg (fun z : Nat => ab_I (z : Int)) (g.1 k hk)).symm⟩ hn g.2
  refine ⟨υ, u1, ?_, u3⟩
  unfold ab_Qr
  rw [List.length_append]
  exact u2
theorem ab_dg {v : Nat} (hv : v < 100) : (48 : Int32) + (ab_I v - ab_I v / 10 * 10) = ab_I ((48 + v % 10 : Nat) : Int) ∧ (48 : Int32) + ab_I v / 10 = ab_I ((48 + v / 10 : Nat) : Int) := by
  rw [show ab_I (v : Int) - ab_I v / 10 * 10 = ab_I ((v : Int) % 10) from ab_Imod (a := v) (b := 10) (by omega) (by omega) (by omega) (by omega), show ab_I (v : Int) / 10 = ab_I ((v : Int) / 10) from ab_Itdiv (a := v) (b := 10) (by omega) (by omega) (by omega) (by omega), show (48 : Int32) = ab_I 48 from rfl, ab_Iadd, ab_Iadd]
  exact ⟨congrArg ab_I (by omega), congrArg ab_I (by omega)⟩
theorem ab_putNumQ {L : List Nat} {v : Nat} (h : ab_Qc σ L) (hv : v < 100) (hn : (L ++ ab_num v).length ≤ 39) : ∃ υ, f_X4_putNumber σ (ab_I v) = some υ ∧ ab_Qc υ (L ++ ab_num v) ∧ ab_fLc σ υ := by
  have d := ab_dg hv
  unfold f_X4_putNumber f_X4_putNumber_18
  unfold ab_num at hn ⊢
  rw [d.1, d.2, (ab_nar (z := 48 + v % 10) (by omega)).1, (ab_nar (z := 48 + v / 10) (by omega)).1]
  by_cases q : v < 10
  · rw [if_pos q] at hn ⊢
    rw [if_pos (by rw [show (10 : Int32) = ab_I 10 from rfl, ab_Ilt (by omega) (by omega) (by omega) (by omega)]; omega), show 48 + v % 10 = 48 + v by omega]
    rw [List.length_append] at hn
    obtain ⟨υ, u1, u2, u3⟩ := ab_putQ h (v := 48 + v) (by simp at hn; omega) (by omega)
    exact ⟨υ, by rw [u1, Option.bind_some], u2, u3⟩
  · rw [if_neg q] at hn ⊢
    rw [if_neg (by rw [show (10 : Int32) = ab_I 10 from rfl, ab_Ilt (by omega) (by omega) (by omega) (by omega)]; omega)]
    rw [List.length_append] at hn
    have hn2 : L.length + 2 ≤ 39 := hn
    obtain ⟨υ, u1, u2, u3⟩ := ab_putQ h (v := 48 + v / 10) (by omega) (by omega)
    obtain ⟨ω, w1, w2, w3⟩ := ab_putQ u2 (v := 48 + v % 10) (by rw [List.length_append]; show L.length + 1 < 39; omega) (by omega)
    refine ⟨ω, by rw [u1, Option.bind_some, w1, Option.bind_some], ?_, u3.trans w3⟩
    rw [List.append_assoc] at w2
    exact w2
theorem ab_writeNumQ {L : List Nat} {v : Nat} (h : ab_Qr σ L) (hv : v < 100) (hn : (L ++ ab_num v).length ≤ 39) : ∃ υ, f_X10_writesNumber σ (ab_I v) = some υ ∧ ab_Qr υ (L ++ ab_num v) ∧ ab_fLr σ υ := by
  have d := ab_dg hv
  unfold f_X10_writesNumber f_X10_writesNumber_17
  unfold ab_num at hn ⊢
  rw [d.1, d.2]
  by_cases q : v < 10
  · rw [if_pos q] at hn ⊢
    rw [if_pos (by rw [show (9 : Int32) = ab_I 9 from rfl, ab_Ile (by omega) (by omega) (by omega) (by omega)]; omega), show 48 + v % 10 = 48 + v by omega]
    rw [List.length_append] at hn
    obtain ⟨υ, u1, u2, u3⟩ := ab_writeQ h (v := 48 + v) (by omega)
    exact ⟨υ, by rw [u1, Option.bind_some], u2, u3⟩
  · rw [if_neg q] at hn ⊢
    rw [if_neg (by rw [show (9 : Int32) = ab_I 9 from rfl, ab_Ile (by omega) (by omega) (by omega) (by omega)]; omega)]
    rw [List.length_append] at hn
    have hn2 : L.length + 2 ≤ 39 := hn
    obtain ⟨υ, u1, u2, u3⟩ := ab_writeQ h (v := 48 + v / 10) (by omega)
    obtain ⟨ω, w1, w2, w3⟩ := ab_writeQ u2 (v := 48 + v % 10) (by rw [List.length_append]; show L.length + 1 < 60; omega)
    refine ⟨ω, by rw [u1, Option.bind_some, w1, Option.bind_some], ?_, u3.trans w3⟩
    rw [List.append_assoc] at w2
    exact w2
theorem ab_num_len (v : Nat) : (ab_num v).length ≤ 2 ∧ (v < 10 → (ab_num v).length = 1) := by
  unfold ab_num
  split
  · exact ⟨Nat.le_of_ble_eq_true rfl, fun _ => rfl⟩
  · exact ⟨Nat.le_of_ble_eq_true rfl, fun h => absurd h (by assumption)⟩
theorem ab_tl_len {P : Nat → Int} (hW : ab_WP P) (h1 : 1 ≤ P 1) : ∀ k : Nat, (k : Int) ≤ P 4 → (ab_tl P k).length ≤ 6 + 2 * k := by
  intro k
  induction k with
  | zero =>
    intro _
    have p := hW.pos h1 (k := 0) hW.2.2.2.2.1
    have p3 : ab_py (P 3) (ab_ds P) (ab_ls P) 0 = P 3 := rfl
    have a := (ab_num_len (P 2).toNat).1
    have b := (ab_num_len (P 3).toNat).2 (by omega)
    unfold ab_tl
    simp only [List.length_append, List.length_cons, List.length_nil]
    omega
  | succ k ih =>
    intro hk
    have w := hW.ch (k := k) (by omega)
    have b := (ab_num_len (ab_ls P k).toNat).2 (by omega)
    have i := ih (by omega)
    unfold ab_tl
    simp only [List.length_append, List.length_cons, List.length_nil]
    omega
theorem ab_letC {d : Int} (h0 : 0 ≤ d) (h3 : d ≤ 3) : f_X9_letterFor (ab_I d) = ab_I (ab_let d) ∧ f_X10_letterOf (ab_I d) = ab_I (ab_let d) ∧ ab_let d < 200 := by
  rcases ab_dir h0 h3 with rfl | rfl | rfl | rfl <;> decide
/-- the whole text -/
def ab_tx (P : Nat → Int) : List Nat := if P 1 = 2 then ab_tl P (P 4).toNat ++ [33] else ab_tl P (P 4).toNat
theorem ab_tellC_lp {c : Nat} {P : Nat → Int} (h0 : ab_CP σ c P) (hW : ab_WP P) (h1 : 1 ≤ P 1) (hc : c + 2 < 290) : ∀ r k : Nat, ((k + r : Nat) : Int) = P 4 → ∀ f, r < f → ∀ τ : q_S, ab_Qc τ (ab_tl P k) → ab_fLc σ τ → ∃ υ, f_X4_putPlot_36 c f (ab_I k) τ = some υ ∧ ab_Qc υ (ab_tx P) ∧ ab_fLc σ υ := by
  have w6 := hW.2.2.2.2.2.1
  intro r
  induction r with
  | zero =>
    intro k hk f hf τ hQ hf2
    obtain ⟨f, rfl⟩ : ∃ g, f = g + 1 := ⟨f - 1, by omega⟩
    have h : ab_CP τ c P := h0.same (hf2 _ (by omega) (by omega)) (hf2 _ (by omega) (by omega)) (hf2 _ (by omega) (by omega))
    have l := ab_tl_len hW h1 k (by omega)
    rw [f_X4_putPlot_36, h.2.2.1, if_pos (by rw [ab_Ile (by omega) (by omega) (by omega) (by omega)]; omega), h.2.1]
    unfold ab_tx
    rw [show (P 4).toNat = k by omega]
    by_cases q : P 1 = 2
    · obtain ⟨υ, u1, u2, u3⟩ := ab_putQ hQ (v := 33) (by omega) (by decide)
      rw [if_pos q, if_pos q, if_neg (show ¬ ab_I 1 = 0 by decide), show f_X4_put τ 33 = _ from u1, Option.bind_some]
      exact ⟨υ, rfl, u2, hf2.trans u3⟩
    · rw [if_neg q, if_neg q, if_pos (show ab_I 0 = 0 from rfl)]
      exact ⟨τ, rfl, hQ, hf2⟩
  | succ r ih =>
    intro k hk f hf τ hQ hf2
    obtain ⟨f, rfl⟩ : ∃ g, f = g + 1 := ⟨f - 1, by omega⟩
    have h : ab_CP τ c P := h0.same (hf2 _ (by omega) (by omega)) (hf2 _ (by omega) (by omega)) (hf2 _ (by omega) (by omega))
    have l := ab_tl_len hW h1 (k + 1) (by omega)
    have lk := ab_tl_len hW h1 k (by omega)
    have w := hW.ch (k := k) (by omega)
    have e := ab_letC w.2.1 w.2.2.1
    obtain ⟨υ, u1, u2, u3⟩ := ab_putQ hQ (v := ab_let (ab_ds P k)) (by omega) (by omega)
    have h2 : ab_CP υ c P := h.same (u3 _ (by omega) (by omega)) (u3 _ (by omega) (by omega)) (u3 _ (by omega) (by omega))
    have hl : (ab_tl P k ++ [ab_let (ab_ds P k)] ++ ab_num (ab_ls P k).toNat).length ≤ 39 := by
      have l2 : (ab_tl P k ++ [ab_let (ab_ds P k)] ++ ab_num (ab_ls P k).toNat).length ≤ 6 + 2 * (k + 1) := l
      omega
    obtain ⟨ω, w1, w2, w3⟩ := ab_putNumQ u2 (v := (ab_ls P k).toNat) (by omega) hl
    rw [show (((ab_ls P k).toNat : Nat) : Int) = ab_ls P k by omega] at w1
    rw [f_X4_putPlot_36, h.2.2.1, if_neg (by rw [ab_Ile (by omega) (by omega) (by omega) (by omega)]; omega), (ab_dir_at h hW (k := k) (by omega)).1, e.1, u1, Option.bind_some, (ab_dir_at h2 hW (k := k) (by omega)).2, w1, Option.bind_some, ab_I1]
    exact ih (k + 1) (by omega) f (by omega) ω w2 ((hf2.trans u3).trans w3)
theorem ab_tellR_lp (hM : ab_MR σ 293 0 D) {s : Nat} (hs : s < 5) (hW : ab_WP (ab_sl D s)) (h1 : 1 ≤ ab_sl D s 1) : ∀ r k : Nat, ((k + r : Nat) : Int) = ab_sl D s 4 → ∀ f, r < f → ∀ τ : q_S, ab_Qr τ (ab_tl (ab_sl D s) k) → ab_fLr σ τ → ∃ υ, f_X10_tell_82 f (ab_I s) (ab_I k) τ = some (υ 292 29, υ) ∧ ab_Qr υ (ab_tx (ab_sl D s)) ∧ ab_fLr σ υ := by
  have w6 := hW.2.2.2.2.2.1
  have w2 := hW.2.2.2.1
  intro r
  induction r with
  | zero =>
    intro k hk f hf τ hQ hf2
    obtain ⟨f, rfl⟩ : ∃ g, f = g + 1 := ⟨f - 1, by omega⟩
    have hM2 : ab_MR τ 293 0 D := fun j hj => by rw [hf2.1 293 (by decide) (by decide)]; exact hM j hj
    have l := ab_tl_len hW h1 k (by omega)
    rw [f_X10_tell_82, (ab_svn hM2 hs).2.2.2.2, Option.bind_some, if_pos (by rw [ab_Ile (by omega) (by omega) (by omega) (by omega)]; omega), (ab_svn hM2 hs).2.1, Option.bind_some]
    unfold ab_tx
    rw [show (ab_sl D s 4).toNat = k by omega]
    by_cases q : ab_sl D s 1 = 2
    · obtain ⟨υ, u1, u2, u3⟩ := ab_writeQ hQ (v := 33) (by omega)
      rw [if_pos (by rw [q]; rfl), if_pos q, show f_X10_writes τ 33 = _ from u1, Option.bind_some]
      exact ⟨υ, rfl, u2, hf2.trans u3⟩
    · rw [if_neg (by rw [show (2 : Int32) = ab_I 2 from rfl, ab_Ieq (by omega) (by omega) (by omega) (by omega)]; exact q), if_neg q]
      exact ⟨τ, rfl, hQ, hf2⟩
  | succ r ih =>
    intro k hk f hf τ hQ hf2
    obtain ⟨f, rfl⟩ : ∃ g, f = g + 1 := ⟨f - 1, by omega⟩
    have hM2 : ab_MR τ 293 0 D := fun j hj => by rw [hf2.1 293 (by decide) (by decide)]; exact hM j hj
    have l := ab_tl_len hW h1 (k + 1) (by omega)
    have lk := ab_tl_len hW h1 k (by omega)
    have w := hW.ch (k := k) (by omega)
    have e := ab_letC w.2.1 w.2.2.1
    obtain ⟨υ, u1, u2, u3⟩ := ab_writeQ hQ (v := ab_let (ab_ds (ab_sl D s) k)) (by omega)
    have hM3 : ab_MR υ 293 0 D := fun j hj => by rw [u3.1 293 (by decide) (by decide)]; exact hM2 j hj
    have hl : (ab_tl (ab_sl D s) k ++ [ab_let (ab_ds (ab_sl D s) k)] ++ ab_num (ab_ls (ab_sl D s) k).toNat).length ≤ 39 := by
      have l2 : (ab_tl (ab_sl D s) k ++ [ab_let (ab_ds (ab_sl D s) k)] ++ ab_num (ab_ls (ab_sl D s) k).toNat).length ≤ 6 + 2 * (k + 1) := l
      omega
    obtain ⟨ω, w1, w3, w4⟩ := ab_writeNumQ u2 (v := (ab_ls (ab_sl D s) k).toNat) (by omega) hl
    rw [show (((ab_ls (ab_sl D s) k).toNat : Nat) : Int) = ab_ls (ab_sl D s) k by omega] at w1
    rw [f_X10_tell_82, (ab_svn hM2 hs).2.2.2.2, Option.bind_some, if_neg (by rw [ab_Ile (by omega) (by omega) (by omega) (by omega)]; omega), ab_way hM2 hs (by omega), Option.bind_some, e.2.1, u1, Option.bind_some, ab_len hM3 hs (by omega), Option.bind_some, w1, Option.bind_some, ab_I1]
    exact ih (k + 1) (by omega) f (by omega) ω w3 ((hf2.trans u3).trans w4)
end
