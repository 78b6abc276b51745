/-! tell, as a call -/
section
variable {σ τ : q_S} {D : Nat → Int} {B : Int}
theorem ab_headC {c : Nat} {P : Nat → Int} (h : ab_CP σ c P) (hW : ab_WP P) (h1 : 1 ≤ P 1) (hc : c + 2 < 290) (hQ : ab_Qc σ []) : ∃ υ, f_X4_putPlot σ c = some υ ∧ ab_Qc υ (ab_tx P) ∧ ab_fLc σ υ := by
  have w4 := hW.2.2.2.2.1
  have p := hW.pos h1 (k := 0) w4
  have p2 : ab_px (P 2) (ab_ds P) (ab_ls P) 0 = P 2 := rfl
  have p3 : ab_py (P 3) (ab_ds P) (ab_ls P) 0 = P 3 := rfl
  have a := (ab_num_len (P 2).toNat).1
  have b := (ab_num_len (P 3).toNat).2 (by omega)
  have x2 : (((P 2).toNat : Nat) : Int) = P 2 := by omega
  have x3 : (((P 3).toNat : Nat) : Int) = P 3 := by omega
  have f := h.2.2.2.1 h1
  obtain ⟨u1, a1, a2, a3⟩ := ab_putQ hQ (v := 40) (by decide) (by decide)
  obtain ⟨u2, b1, b2, b3⟩ := ab_putNumQ a2 (v := (P 2).toNat) (by omega) (by simp only [List.length_append, List.length_cons, List.length_nil]; omega)
  obtain ⟨u3, c1, c2, c3⟩ := ab_putQ b2 (v := 44) (by simp only [List.length_append, List.length_cons, List.length_nil]; omega) (by decide)
  obtain ⟨u4, d1, d2, d3⟩ := ab_putNumQ c2 (v := (P 3).toNat) (by omega) (by simp only [List.length_append, List.length_cons, List.length_nil]; omega)
  obtain ⟨u5, e1, e2, e3⟩ := ab_putQ d2 (v := 41) (by simp only [List.length_append, List.length_cons, List.length_nil]; omega) (by decide)
  rw [x2] at b1
  rw [x3] at d1
  have ff : ab_fLc σ u5 := (((a3.trans b3).trans c3).trans d3).trans e3
  have e2 : ab_Qc u5 (ab_tl P 0) := e2
  obtain ⟨υ, v1, v2, v3⟩ := ab_tellC_lp h hW h1 hc (P 4).toNat 0 (by omega) q_fu (by have := hW.2.2.2.2.2.1; unfold q_fu; omega) u5 e2 ff
  refine ⟨υ, ?_, v2, v3⟩
  unfold f_X4_putPlot
  rw [show f_X4_put σ 40 = _ from a1, Option.bind_some, show u1 c 2 = ab_I (P 2) by rw [a3 c (by omega) (by omega)]; exact f.1, b1, Option.bind_some, show f_X4_put u2 44 = _ from c1, Option.bind_some, show u3 c 3 = ab_I (P 3) by rw [((a3.trans b3).trans c3) c (by omega) (by omega)]; exact f.2.1, d1, Option.bind_some, show f_X4_put u4 41 = _ from e1, Option.bind_some]
  exact v1
theorem ab_headR (hM : ab_MR σ 293 0 D) {s : Nat} (hs : s < 5) (hW : ab_WP (ab_sl D s)) (h1 : 1 ≤ ab_sl D s 1) (hQ : ab_Qr (q_up (q_up σ 292 4 0) 292 29 0) []) : ∃ υ, f_X10_tell_14 (ab_I s) 0 σ = some (υ 292 29, υ) ∧ ab_Qr υ (ab_tx (ab_sl D s)) ∧ ab_fLr (q_up (q_up σ 292 4 0) 292 29 0) υ := by
  have w2 := hW.2.2.2.1
  have w4 := hW.2.2.2.2.1
  have p := hW.pos h1 (k := 0) w4
  have p2 : ab_px (ab_sl D s 2) (ab_ds (ab_sl D s)) (ab_ls (ab_sl D s)) 0 = ab_sl D s 2 := rfl
  have p3 : ab_py (ab_sl D s 3) (ab_ds (ab_sl D s)) (ab_ls (ab_sl D s)) 0 = ab_sl D s 3 := rfl
  have a := (ab_num_len (ab_sl D s 2).toNat).1
  have b := (ab_num_len (ab_sl D s 3).toNat).2 (by omega)
  have x2 : (((ab_sl D s 2).toNat : Nat) : Int) = ab_sl D s 2 := by omega
  have x3 : (((ab_sl D s 3).toNat : Nat) : Int) = ab_sl D s 3 := by omega
  have m0 : ab_MR (q_up (q_up σ 292 4 0) 292 29 0) 293 0 D := fun j hj => by rw [ab_up_ne (by decide), ab_up_ne (by decide)]; exact hM j hj
  obtain ⟨u1, a1, a2, a3⟩ := ab_writeQ hQ (v := 40) (by decide)
  obtain ⟨u2, b1, b2, b3⟩ := ab_writeNumQ a2 (v := (ab_sl D s 2).toNat) (by omega) (by simp only [List.length_append, List.length_cons, List.length_nil]; omega)
  obtain ⟨u3, c1, c2, c3⟩ := ab_writeQ b2 (v := 44) (by simp only [List.length_append, List.length_cons, List.length_nil]; omega)
  obtain ⟨u4, d1, d2, d3⟩ := ab_writeNumQ c2 (v := (ab_sl D s 3).toNat) (by omega) (by simp only [List.length_append, List.length_cons, List.length_nil]; omega)
  obtain ⟨u5, e1, e2, e3⟩ := ab_writeQ d2 (v := 41) (by simp only [List.length_append, List.length_cons, List.length_nil]; omega)
  rw [x2] at b1
  rw [x3] at d1
  have m1 : ab_MR u1 293 0 D := fun j hj => by rw [a3.1 293 (by decide) (by decide)]; exact m0 j hj
  have m3 : ab_MR u3 293 0 D := fun j hj => by rw [((a3.trans b3).trans c3).1 293 (by decide) (by decide)]; exact m0 j hj
  have ff : ab_fLr (q_up (q_up σ 292 4 0) 292 29 0) u5 := (((a3.trans b3).trans c3).trans d3).trans e3
  have e2 : ab_Qr u5 (ab_tl (ab_sl D s) 0) := e2
  obtain ⟨υ, v1, v2, v3⟩ := ab_tellR_lp m0 hs hW h1 (ab_sl D s 4).toNat 0 (by omega) q_fu (by have := hW.2.2.2.2.2.1; unfold q_fu; omega) u5 e2 ff
  refine ⟨υ, ?_, v2, v3⟩
  unfold f_X10_tell_14
  rw [ab_up_at, if_pos (show (0 : Int32) ≤ 0 by decide), (ab_svn m0 hs).2.1, Option.bind_some, if_neg (by rw [show (0 : Int32) = ab_I 0 from rfl, ab_Ieq (by omega) (by omega) (by omega) (by omega)]; omega), show f_X10_writes _ 40 = _ from a1, Option.bind_some, (ab_svn m1 hs).2.2.1, Option.bind_some, b1, Option.bind_some, show f_X10_writes u2 44 = _ from c1, Option.bind_some, (ab_svn m3 hs).2.2.2.1, Option.bind_some, d1, Option.bind_some, show f_X10_writes u4 41 = _ from e1, Option.bind_some]
  exact v1
theorem ab_num_lt {v : Nat} (hv : v < 100) : ∀ z ∈ ab_num v, z < 65536 := by
  intro z hz
  unfold ab_num at hz
  split at hz
  · simp only [List.mem_cons, List.not_mem_nil, or_false] at hz; omega
  · simp only [List.mem_cons, List.not_mem_nil, or_false] at hz; omega
theorem ab_tl_lt {P : Nat → Int} (hW : ab_WP P) (h1 : 1 ≤ P 1) : ∀ k : Nat, (k : Int) ≤ P 4 → ∀ z ∈ ab_tl P k, z < 65536 := by
  intro k
  induction k with
  | zero =>
    intro _ z hz
    have p := hW.pos h1 (k := 0) hW.2.2.2.2.1
    have p2 : ab_px (P 2) (ab_ds P) (ab_ls P) 0 = P 2 := rfl
    have p3 : ab_py (P 3) (ab_ds P) (ab_ls P) 0 = P 3 := rfl
    unfold ab_tl at hz
    simp only [List.mem_append, List.mem_cons, List.not_mem_nil, or_false] at hz
    rcases hz with (((hz | hz) | hz) | hz) | hz
    · omega
    · exact ab_num_lt (by omega) z hz
    · omega
    · exact ab_num_lt (by omega) z hz
    · omega
  | succ k ih =>
    intro hk z hz
    have w := hW.ch (k := k) (by omega)
    have e := ab_letC w.2.1 w.2.2.1
    unfold ab_tl at hz
    simp only [List.mem_append, List.mem_cons, List.not_mem_nil, or_false] at hz
    rcases hz with (hz | hz) | hz
    · exact ih (by omega) z hz
    · omega
    · exact ab_num_lt (by omega) z hz
end
theorem ab_ok_28 {t : Nat} {σ : q_S} (hI : ab_Inv t σ) (_ht : t < 512) (a b c : Int32) : w_ok_28 σ a b c (ab_Inv (t + 1)) := by
  have hI2 := hI
  obtain ⟨D, ⟨hC, hM, hW⟩, hO⟩ := hI
  have hM0 : σ 293 0 = ab_I (D 0) := hM 0 (by decide)
  have w5 := hW.2.1
  unfold w_ok_28
  rcases ab_hasS (a := a) hC.1 hM0 hW.1 hW.2.1 with ⟨h1, h2⟩ | ⟨h1, h2, s, hs, rfl⟩
  · refine ⟨1, 0, 0, σ, q_up σ 292 4 1, ?_, .inr rfl, ?_, rfl, fun z => absurd z (by decide), ab_sI hI2 1⟩
    · unfold f_X9_tell
      rw [h1, if_pos rfl]
    · unfold f_X10_tell
      rw [h2, Option.bind_some, if_pos rfl]
      unfold f_X10_tell_14
      rw [ab_up_at, if_neg (show ¬ ((1 : Int32) ≤ 0) by decide)]
  · have s5 : s < 5 := by omega
    have w := hW.2.2.2.2.2.2.2.2.1 s hs
    have hp := (hC.2.2.2.2.1 s hs).2
    have v0 := w.2.2.1
    have v2 := w.2.2.2.1
    have v4 := w.2.2.2.2.1
    have v6 := w.2.2.2.2.2.1
    have hMc : ab_MR (q_up σ 290 1 0) 293 0 D := fun k hk => by rw [ab_up_ne (by decide)]; exact hM k hk
    have is : f_X10_isSleeper (q_up σ 290 1 0) (ab_I s) = some 1 := by
      unfold f_X10_isSleeper at h2 ⊢
      rw [ab_up_ne (show (293 : Nat) ≠ 290 by decide)]
      exact h2
    have hpc : ab_CP (q_up σ 290 1 0) (2 + (10 + 3 * s)) (ab_sl D s) := hp.same (ab_up_ne (by omega)) (ab_up_ne (by omega)) (ab_up_ne (by omega))
    by_cases q : ab_sl D s 1 = 0
    · refine ⟨0, 0, 0, q_up σ 290 1 0, q_up (q_up (q_up σ 290 1 0) 292 4 0) 292 29 0, ?_, .inl rfl, ?_, rfl, fun _ => rfl, ab_line (τ' := σ) hI2 (n := 0) (l := fun _ => 0) (by decide) (fun k hk => absurd hk (by omega)) ⟨?_, fun k hk => absurd hk (by omega)⟩ ⟨?_, fun k hk => absurd hk (by omega)⟩ (fun c g1 g2 g3 g4 g5 => ?_) (fun k g1 g2 => ?_)⟩
      · unfold f_X9_tell f_X4_clear
        rw [h1, if_neg (show ¬ ((1 : Int32) = 0) by decide), ab_plotOf s5, hpc.1, if_neg (show ¬ (1 : Int) ≤ ab_sl D s 1 by omega), if_pos (show ab_I 0 = 0 from rfl), ab_up_at]
      · unfold f_X10_tell
        rw [is, Option.bind_some, if_neg (show ¬ ((1 : Int32) = 0) by decide)]
        unfold f_X10_tell_14
        have m0 : ab_MR (q_up (q_up (q_up σ 290 1 0) 292 4 0) 292 29 0) 293 0 D := fun j hj => by rw [ab_up_ne (by decide), ab_up_ne (by decide)]; exact hMc j hj
        rw [ab_up_at, if_pos (show (0 : Int32) ≤ 0 by decide), (ab_svn m0 s5).2.1, Option.bind_some, q, if_pos (show ab_I 0 = 0 from rfl)]
      · rw [ab_up_ne (by decide), ab_up_ne (by decide), ab_up_at]; rfl
      · rw [ab_up_at]; rfl
      · rw [ab_up_ne g2, ab_up_ne g2, ab_up_ne g3]
      · unfold ab_sf at g1
        rw [ab_up_nk g2, ab_up_nk (by omega), ab_up_ne (by decide)]
    · obtain ⟨τ, t1, t2, t3⟩ := ab_headC hpc w (by omega) (by omega) ⟨ab_up_at, fun k hk => absurd hk (by exact Nat.not_lt_zero k)⟩
      have hMτ : ab_MR τ 293 0 D := fun k hk => by rw [t3 293 (by decide) (by decide)]; exact hMc k hk
      have isτ : f_X10_isSleeper τ (ab_I s) = some 1 := by
        unfold f_X10_isSleeper at is ⊢
        rw [t3 293 (by decide) (by decide)]
        exact is
      obtain ⟨υ, u1, u2, u3, u4⟩ := ab_headR hMτ s5 w (by omega) ⟨ab_up_at, fun k hk => absurd hk (by exact Nat.not_lt_zero k)⟩
      have hlen : (ab_tx (ab_sl D s)).length ≤ 39 := by
        have l := ab_tl_len w (by omega) (ab_sl D s 4).toNat (by omega)
        unfold ab_tx
        split
        · rw [List.length_append]; show _ + 1 ≤ 39; omega
        · omega
      have hlt : ∀ k, k < (ab_tx (ab_sl D s)).length → (ab_tx (ab_sl D s)).getD k 0 < 65536 := fun k hk => by
        have hm : ∀ z ∈ ab_tx (ab_sl D s), z < 65536 := fun z hz => by
          have g := ab_tl_lt w (by omega) (ab_sl D s 4).toNat (by omega)
          unfold ab_tx at hz
          split at hz
          · rcases List.mem_append.mp hz with hz | hz
            · exact g z hz
            · simp only [List.mem_cons, List.not_mem_nil, or_false] at hz; omega
          · exact g z hz
        rw [List.getD_eq_getElem?_getD, List.getElem?_eq_getElem hk]
        exact hm _ (List.getElem_mem hk)
      refine ⟨0, ab_I (ab_tx (ab_sl D s)).length, ab_I (ab_tx (ab_sl D s)).length, τ, υ, ?_, .inl rfl, ?_, ?_, fun _ => rfl, ab_line (τ' := σ) hI2 (n := (ab_tx (ab_sl D s)).length) (l := fun k => (ab_tx (ab_sl D s)).getD k 0) hlen hlt ⟨?_, fun k hk => ?_⟩ u2 (fun c g1 g2 g3 g4 g5 => ?_) (fun k g1 g2 => ?_)⟩
      · unfold f_X9_tell f_X4_clear
        rw [h1, if_neg (show ¬ ((1 : Int32) = 0) by decide), ab_plotOf s5, hpc.1, if_pos (show (1 : Int) ≤ ab_sl D s 1 by omega), if_neg (show ¬ ab_I 1 = 0 by decide), t1, Option.bind_some, t2.1]
      · unfold f_X10_tell
        rw [isτ, Option.bind_some, if_neg (show ¬ ((1 : Int32) = 0) by decide), u1, u2.1]
      · show υ 292 4 = _
        rw [u4 4 (by decide), ab_up_nk (by decide), ab_up_at]
        rfl
      · rw [u3 290 (by decide) (by decide), ab_up_ne (by decide), ab_up_ne (by decide)]
        exact t2.1
      · rw [u3 291 (by decide) (by decide), ab_up_ne (by decide), ab_up_ne (by decide)]
        exact t2.2 k hk
      · rw [u3 c g2 g5, ab_up_ne g2, ab_up_ne g2, t3 c g3 g4, ab_up_ne g3]
      · unfold ab_sf at g1
        rw [u4 k g2, ab_up_nk g2, ab_up_nk (by omega), t3 292 (by decide) (by decide), ab_up_ne (by decide)]
