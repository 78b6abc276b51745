/-! questions that look at a few numbers -/
theorem ab_sI {t : Nat} {σ : q_S} (hI : ab_Inv t σ) (v : Int32) : ab_Inv (t + 1) (q_up σ 292 4 v) := hI.same (ab_eq.up (.inr ⟨rfl, .inl rfl⟩))
theorem ab_sI2 {t : Nat} {σ : q_S} (hI : ab_Inv t σ) (v w : Int32) : ab_Inv (t + 1) (q_up (q_up σ 292 4 v) 292 4 w) := hI.same ((ab_eq.up (.inr ⟨rfl, .inl rfl⟩)).trans (ab_eq.up (.inr ⟨rfl, .inl rfl⟩)))
theorem ab_ok_25 {t : Nat} {σ : q_S} (hI : ab_Inv t σ) (_ht : t < 512) (a b c : Int32) : w_ok_25 σ a b c (ab_Inv (t + 1)) := by
  have hI2 := hI
  obtain ⟨D, hA, hH, hS, hR, hm, hT, hL⟩ := hI
  unfold w_ok_25 f_X9_errorPosition f_X10_errorPosition
  rw [hm]
  by_cases q : 0 ≤ σ 292 12
  · rw [if_pos q, if_pos q]
    exact ⟨0, _, _, _, rfl, .inl rfl, rfl, rfl, fun _ => rfl, ab_sI hI2 0⟩
  · rw [if_neg q, if_neg q]
    exact ⟨4, 0, _, _, rfl, .inr rfl, rfl, rfl, fun z => absurd z (by decide), ab_sI hI2 1⟩
theorem ab_ok_26 {t : Nat} {σ : q_S} (hI : ab_Inv t σ) (_ht : t < 512) (a b c : Int32) : w_ok_26 σ a b c (ab_Inv (t + 1)) := by
  have hI2 := hI
  obtain ⟨D, hA, hH, hS, ⟨r0, r1, r2, r3⟩, hm, hT, hL⟩ := hI
  unfold w_ok_26 f_X9_refusal f_X10_refusal
  generalize q_bz a = x
  generalize q_bz b = y
  rw [r0, r2, ab_up_nk (by decide), ab_up_nk (by decide)]
  by_cases qx : x = 0
  · rw [if_pos qx, if_pos qx]
    unfold f_X9_refusal_21 f_X10_refusal_20
    by_cases q0 : σ 292 8 = 0
    · rw [if_pos q0, if_pos q0]
      exact ⟨4, 0, _, _, rfl, .inr rfl, rfl, rfl, fun z => absurd z (by decide), ab_sI2 hI2 0 1⟩
    · rw [if_neg q0, if_neg q0]
      by_cases qy : y = 0
      · rw [if_pos qy, if_pos qy]
        exact ⟨0, _, _, _, rfl, .inl rfl, rfl, rfl, fun _ => rfl, ab_sI hI2 0⟩
      · rw [if_neg qy, if_neg qy, if_pos qx, if_pos qx, r1]
        exact ⟨0, _, _, _, rfl, .inl rfl, rfl, rfl, fun _ => rfl, ab_sI hI2 0⟩
  · rw [if_neg qx, if_neg qx]
    unfold f_X9_refusal_21 f_X10_refusal_20
    by_cases q0 : σ 292 10 = 0
    · rw [if_pos q0, if_pos q0]
      exact ⟨4, 0, _, _, rfl, .inr rfl, rfl, rfl, fun z => absurd z (by decide), ab_sI2 hI2 0 1⟩
    · rw [if_neg q0, if_neg q0]
      by_cases qy : y = 0
      · rw [if_pos qy, if_pos qy]
        exact ⟨0, _, _, _, rfl, .inl rfl, rfl, rfl, fun _ => rfl, ab_sI hI2 0⟩
      · rw [if_neg qy, if_neg qy, if_neg qx, if_neg qx, r3 (by rw [r2]; exact q0)]
        exact ⟨0, _, _, _, rfl, .inl rfl, rfl, rfl, fun _ => rfl, ab_sI hI2 0⟩
/-- a number from 0 up to another -/
theorem ab_upto {a : Int32} {n : Int} (h0 : 0 ≤ n) (h1 : n ≤ 1000000) : (f_X9_isFrom a 0 (ab_I n - 1) = 0 ∧ (a < 0 ∨ ab_I n ≤ a)) ∨ (f_X9_isFrom a 0 (ab_I n - 1) = 1 ∧ ∃ k : Nat, (k : Int) < n ∧ a = ab_I k) := by
  have l0 := Int32.le_toInt a
  have l1 := Int32.toInt_lt a
  rw [show ab_I n - 1 = ab_I (n - 1) from ab_Isub (b := 1)]
  rcases ab_from (a := a) 0 (n - 1) (by decide) (by decide) (by omega) (by omega) with h | ⟨h, k, k0, k1, rfl⟩
  · left
    refine ⟨h, ?_⟩
    rw [ab_Iof a] at h ⊢
    rw [ab_isFrom l0 (by omega) (by decide) (by decide) (by omega) (by omega)] at h
    rw [show (0 : Int32) = ab_I 0 from rfl, ab_Ilt l0 (by omega) (by decide) (by decide), ab_Ile (by omega) (by omega) l0 (by omega)]
    by_cases q : 0 ≤ a.toInt ∧ a.toInt ≤ n - 1
    · rw [if_pos q] at h; exact absurd h (by decide)
    · omega
  · right
    exact ⟨h, k.toNat, by omega, by rw [show ((k.toNat : Nat) : Int) = k by omega]⟩
theorem ab_ok_10 {t : Nat} {σ : q_S} (hI : ab_Inv t σ) (ht : t < 512) (a b c : Int32) : w_ok_10 σ a b c (ab_Inv (t + 1)) := by
  have hI2 := hI
  obtain ⟨D, ⟨hC, hM, hW⟩, hO⟩ := hI
  have hM1 : σ 293 1 = ab_I (D 1) := hM 1 (by decide)
  have hM' : ab_MR (q_up σ 292 4 0) 293 0 D := hM
  have hB : (200 * t : Int) ≤ 1000000000 := by omega
  have w3 := hW.2.2.1
  have w4 := hW.2.2.2.1
  unfold w_ok_10
  rcases ab_upto (a := a) (n := D 1) w3 (by omega) with ⟨h1, h2⟩ | ⟨h1, p, hp, rfl⟩
  · refine ⟨1, 0, 0, _, ?_, .inr (.inl rfl), ?_, ?_, fun z => absurd z (by decide), ab_sI2 hI2 0 1⟩
    · unfold f_X9_pegOf
      rw [show σ 8 0 = _ from hC.2.1]
      by_cases q : a < 0
      · rw [if_pos q]
      · rw [if_neg q, if_neg (fun z => by
          rcases h2 with h2 | h2
          · exact q h2
          · exact Int32.lt_irrefl (Int32.lt_of_lt_of_le z h2))]
    · unfold f_X10_pegOf
      rw [ab_in_from, ab_up_ne (show (293 : Nat) ≠ 292 by decide), hM1, h1, if_pos rfl]
      rfl
    · rfl
  · have p8 : p < 8 := by omega
    have e := hC.2.2.2.2.2.1 p hp
    have g := ab_pvn hM' p8
    rcases ab_from (a := b) 0 3 (by decide) (by decide) (by decide) (by decide) with q | ⟨q, k, k0, k3, rfl⟩
    · have q : f_X9_isFrom b 0 3 = 0 := q
      have n : ∀ k : Int32, f_X9_isFrom k 0 3 = 1 → b ≠ k := fun k h z => by rw [z, h] at q; exact absurd q (by decide)
      refine ⟨2, 0, 0, _, ?_, .inr (.inr rfl), ?_, ?_, fun z => absurd z (by decide), ab_sI2 hI2 0 2⟩
      · unfold f_X9_pegOf
        rw [show σ 8 0 = _ from hC.2.1, if_neg (show ¬ ab_I (p : Int) < 0 by rw [ab_Iltc (by omega) (by omega)]; exact id), if_pos (show ab_I (p : Int) < ab_I (D 1) by rw [ab_Ilt (by omega) (by omega) (by omega) (by omega)]; exact hp), if_neg (n 0 (by decide)), if_neg (n 1 (by decide)), if_neg (n 2 (by decide)), if_neg (n 3 (by decide))]
      · unfold f_X10_pegOf
        rw [ab_in_from, ab_up_ne (show (293 : Nat) ≠ 292 by decide), hM1, h1, if_neg (show ¬ ((1 : Int32) = 0) by decide), q, if_pos rfl]
        rfl
      · rfl
    · have q : f_X9_isFrom (ab_I k) 0 3 = 1 := q
      rcases (show k = 0 ∨ k = 1 ∨ k = 2 ∨ k = 3 by omega) with rfl | rfl | rfl | rfl
      · refine ⟨0, ab_I (D (6 + 3 * p)), _, q_up σ 292 4 0, ?_, .inl rfl, ?_, rfl, fun _ => rfl, ab_sI hI2 0⟩
        · unfold f_X9_pegOf
          rw [show σ 8 0 = _ from hC.2.1, if_neg (show ¬ ab_I (p : Int) < 0 by rw [ab_Iltc (by omega) (by omega)]; exact id), if_pos (show ab_I (p : Int) < ab_I (D 1) by rw [ab_Ilt (by omega) (by omega) (by omega) (by omega)]; exact hp), if_pos (show ab_I 0 = 0 from rfl), ab_at p8 (by decide), show σ 9 p = _ from e.1]
        · unfold f_X10_pegOf
          rw [ab_in_from, ab_up_ne (show (293 : Nat) ≠ 292 by decide), hM1, h1, if_neg (show ¬ ((1 : Int32) = 0) by decide), q, if_neg (show ¬ ((1 : Int32) = 0) by decide), if_neg (show ¬ (3 ≤ ab_I 0) by decide), show f_X10_pv _ (ab_I p) (ab_I 0) = _ from g.1, Option.bind_some]
      · refine ⟨0, ab_I (D (7 + 3 * p)), _, q_up σ 292 4 0, ?_, .inl rfl, ?_, rfl, fun _ => rfl, ab_sI hI2 0⟩
        · unfold f_X9_pegOf
          rw [show σ 8 0 = _ from hC.2.1, if_neg (show ¬ ab_I (p : Int) < 0 by rw [ab_Iltc (by omega) (by omega)]; exact id), if_pos (show ab_I (p : Int) < ab_I (D 1) by rw [ab_Ilt (by omega) (by omega) (by omega) (by omega)]; exact hp), if_neg (show ¬ (ab_I 1 = 0) by decide), if_pos (show ab_I 1 = 1 from rfl), ab_at p8 (by decide), show σ 10 p = _ from e.2.1]
        · unfold f_X10_pegOf
          rw [ab_in_from, ab_up_ne (show (293 : Nat) ≠ 292 by decide), hM1, h1, if_neg (show ¬ ((1 : Int32) = 0) by decide), q, if_neg (show ¬ ((1 : Int32) = 0) by decide), if_neg (show ¬ (3 ≤ ab_I 1) by decide), show f_X10_pv _ (ab_I p) (ab_I 1) = _ from g.2.1, Option.bind_some]
      · refine ⟨0, ab_I (D (8 + 3 * p)), _, q_up σ 292 4 0, ?_, .inl rfl, ?_, rfl, fun _ => rfl, ab_sI hI2 0⟩
        · unfold f_X9_pegOf
          rw [show σ 8 0 = _ from hC.2.1, if_neg (show ¬ ab_I (p : Int) < 0 by rw [ab_Iltc (by omega) (by omega)]; exact id), if_pos (show ab_I (p : Int) < ab_I (D 1) by rw [ab_Ilt (by omega) (by omega) (by omega) (by omega)]; exact hp), if_neg (show ¬ (ab_I 2 = 0) by decide), if_neg (show ¬ (ab_I 2 = 1) by decide), if_pos (show ab_I 2 = 2 from rfl), ab_at p8 (by decide), show σ 11 p = _ from e.2.2]
        · unfold f_X10_pegOf
          rw [ab_in_from, ab_up_ne (show (293 : Nat) ≠ 292 by decide), hM1, h1, if_neg (show ¬ ((1 : Int32) = 0) by decide), q, if_neg (show ¬ ((1 : Int32) = 0) by decide), if_neg (show ¬ (3 ≤ ab_I 2) by decide), show f_X10_pv _ (ab_I p) (ab_I 2) = _ from g.2.2, Option.bind_some]
      · refine ⟨0, ab_I (ab_lt D p), _, q_up σ 292 4 0, ?_, .inl rfl, ?_, rfl, fun _ => rfl, ab_sI hI2 0⟩
        · unfold f_X9_pegOf
          rw [show σ 8 0 = _ from hC.2.1, if_neg (show ¬ ab_I (p : Int) < 0 by rw [ab_Iltc (by omega) (by omega)]; exact id), if_pos (show ab_I (p : Int) < ab_I (D 1) by rw [ab_Ilt (by omega) (by omega) (by omega) (by omega)]; exact hp), if_neg (show ¬ (ab_I 3 = 0) by decide), if_neg (show ¬ (ab_I 3 = 1) by decide), if_neg (show ¬ (ab_I 3 = 2) by decide), if_pos (show ab_I 3 = 3 from rfl), hC.2.2.1, show f_X5_hoursUntilLit σ 8 (ab_I p) (ab_I (D 2)) = _ from ab_until hC hW hB hp p8, Option.bind_some]
        · unfold f_X10_pegOf
          rw [ab_in_from, ab_up_ne (show (293 : Nat) ≠ 292 by decide), hM1, h1, if_neg (show ¬ ((1 : Int32) = 0) by decide), q, if_neg (show ¬ ((1 : Int32) = 0) by decide), if_pos (show 3 ≤ ab_I 3 by decide), ab_litIn hM' hW hB hp p8, Option.bind_some]
theorem ab_char (u : UInt32) : ∃ n : Nat, n < 65536 ∧ (u % 65536).toInt32 = ab_I n ∧ ((ab_I n).toUInt32 % 65536).toInt32 = ab_I n := by
  have h : (u % 65536).toNat < 65536 := by
    rw [UInt32.toNat_mod]
    exact Nat.mod_lt _ (by decide)
  have e : (u % 65536).toInt32 = ab_I ((u % 65536).toNat : Nat) := by
    rw [← Int32.toInt_inj, ab_Iint (by omega) (by omega)]
    show (u % 65536).toBitVec.toInt = _
    rw [BitVec.toInt_eq_toNat_of_lt (by show 2 * (u % 65536).toNat < 2 ^ 32; omega)]
    rfl
  refine ⟨(u % 65536).toNat, h, e, ?_⟩
  rw [← e]
  congr 1
  show (u % 65536) % 65536 = u % 65536
  apply UInt32.toNat_inj.mp
  rw [UInt32.toNat_mod]
  exact Nat.mod_eq_of_lt h
theorem ab_ok_29 {t : Nat} {σ : q_S} (hI : ab_Inv t σ) (_ht : t < 512) (a b c : Int32) : w_ok_29 σ a b c (ab_Inv (t + 1)) := by
  have hI2 := hI
  obtain ⟨D, hA, hH, hS, hR, hm, hT, n, n39, l1, l2, l3⟩ := hI
  unfold w_ok_29
  rcases ab_upto (a := a) (n := n) (by omega) (by omega) with ⟨h1, h2⟩ | ⟨h1, k, hk, rfl⟩
  · refine ⟨4, 0, 32, q_up σ 292 4 1, ?_, .inr rfl, ?_, rfl, fun z => absurd z (by decide), ab_sI hI2 1⟩
    · unfold f_X9_written
      rw [l1]
      by_cases q : a < 0
      · rw [if_pos q]
      · rcases h2 with h2 | h2
        · exact absurd h2 q
        · rw [if_neg q, if_pos h2]
    · unfold f_X10_written
      rw [ab_in_from, l2, h1, if_pos rfl]
      unfold f_X10_written_20
      rw [ab_up_at, if_neg (show ¬ ((1 : Int32) ≤ 0) by decide)]
  · obtain ⟨e1, e2, e3⟩ := l3 k (by omega)
    obtain ⟨m, m1, m2, m3⟩ := ab_char (σ 302 k).toUInt32
    have em : σ 302 k = ab_I (σ 302 k).toInt := ab_Iof _
    have h0 : ((σ 302 k).toUInt32 % 65536).toInt32 = σ 302 k := by
      obtain ⟨z, hz⟩ : ∃ z : Nat, (σ 302 k).toInt = z := ⟨(σ 302 k).toInt.toNat, by omega⟩
      rw [hz] at em
      have hx : ∀ z : Nat, z < 65536 → ((ab_I z).toUInt32 % 65536).toInt32 = ab_I z := fun z hz => by
        have e4 : (ab_I (z : Int)).toUInt32.toNat = z := by
          show (BitVec.ofInt 32 (z : Int)).toNat = z
          rw [BitVec.toNat_ofInt]
          omega
        rw [← Int32.toInt_inj, ab_Iint (by omega) (by omega)]
        show ((ab_I (z : Int)).toUInt32 % 65536).toBitVec.toInt = _
        have e5 : ((ab_I (z : Int)).toUInt32 % 65536).toNat = z := by
          rw [UInt32.toNat_mod, e4]
          exact Nat.mod_eq_of_lt hz
        rw [BitVec.toInt_eq_toNat_of_lt (by show 2 * ((ab_I (z : Int)).toUInt32 % 65536).toNat < 2 ^ 32; omega)]
        show (((ab_I (z : Int)).toUInt32 % 65536).toNat : Int) = _
        rw [e5]
      rw [em]
      exact hx z (by omega)
    refine ⟨0, σ 302 k, σ 302 k, q_up σ 292 4 0, ?_, .inl rfl, ?_, rfl, fun _ => rfl, ab_sI hI2 0⟩
    · unfold f_X9_written
      rw [l1, if_neg (show ¬ ab_I (k : Int) < 0 by rw [ab_Iltc (by omega) (by omega)]; exact id), if_neg (by rw [ab_Ile (by omega) (by omega) (by omega) (by omega)]; omega), if_pos (by rw [show (39 : Int32) = ab_I 39 from rfl, ab_Ilt (by omega) (by omega) (by omega) (by omega)]; omega), ab_Icl (by omega) (by omega), Int.toNat_natCast, if_neg (by rw [ab_Iltc (by omega) (by omega)]; exact fun h => h.elim id (fun h => by omega)), e1, if_pos h0]
    · unfold f_X10_written
      rw [ab_in_from, l2, h1, if_neg (show ¬ ((1 : Int32) = 0) by decide)]
      unfold f_X10_written_20
      rw [ab_up_at, if_pos (show (0 : Int32) ≤ 0 by decide), ab_Icl (by omega) (by omega), Int.toNat_natCast, if_neg (by rw [ab_Iltc (by omega) (by omega)]; exact fun h => h.elim id (fun h => by omega)), ab_up_ne (show (302 : Nat) ≠ 292 by decide), h0]
