/-! the copying of dreams, and of rows -/
theorem ab_up_ne {σ : q_S} {c k c2 : Nat} {v : Int32} (h : c2 ≠ c) : q_up σ c k v c2 = σ c2 := by
  funext k2
  rw [ab_up, if_neg h]
theorem ab_up_at {σ : q_S} {c k : Nat} {v : Int32} : q_up σ c k v c k = v := by rw [ab_up, if_pos rfl, if_pos rfl]
theorem ab_up_nk {σ : q_S} {c k k2 : Nat} {v : Int32} (h : k2 ≠ k) : q_up σ c k v c k2 = σ c k2 := by rw [ab_up, if_pos rfl, if_neg h]
theorem ab_plot_copy {σ : q_S} {z0 z1 : Nat} (hd : z0 + 3 ≤ z1 ∨ z1 + 3 ≤ z0) (h0 : ab_flag (σ z1 0)) (h1 : ab_flag (σ z1 1)) : f_X6_copyFrom σ z0 z1 = some (fun c k => if c = z0 then (if k < 7 then σ z1 k else σ z0 k) else if c = z0 + 1 then (if k < 16 then σ (z1 + 1) k else σ c k) else if c = z0 + 2 then (if k < 16 then σ (z1 + 2) k else σ c k) else σ c k) := by
  have e0 : z1 ≠ z0 := by omega
  unfold f_X6_copyFrom
  simp only [ab_up_ne e0]
  rw [if_pos (show σ z1 0 = 0 ∨ σ z1 0 = 1 from h0), if_pos (show σ z1 1 = 0 ∨ σ z1 1 = 1 from h1)]
  refine congrArg some ?_
  unfold f_X9_copyNumbers q_row
  funext c k
  have e1 : z1 + 1 ≠ z0 := by omega
  have e2 : z1 + 2 ≠ z0 := by omega
  have e3 : z1 + 2 ≠ z0 + 1 := by omega
  by_cases hc2 : c = z0 + 2
  · subst hc2
    simp only [ab_up_ne (show z0 + 2 ≠ z0 by omega), ab_up_ne e1, ab_up_ne e2, if_neg e3, if_neg (show z0 + 2 ≠ z0 by omega), if_neg (show z0 + 2 ≠ z0 + 1 by omega), if_true]
  · rw [if_neg hc2]
    by_cases hc1 : c = z0 + 1
    · subst hc1
      simp only [ab_up_ne (show z0 + 1 ≠ z0 by omega), ab_up_ne e1, if_neg (show z0 + 1 ≠ z0 by omega), if_true]
    · rw [if_neg hc1]
      by_cases hc0 : c = z0
      · subst hc0
        simp only [ab_up, if_true]
        (repeat' split) <;> first | rfl | omega | (subst_vars; rfl)
      · simp only [ab_up_ne hc0, if_neg hc0, if_neg hc1, if_neg hc2]
theorem ab_pegs_copy {σ : q_S} {z0 z1 : Nat} (hd : z0 + 4 ≤ z1 ∨ z1 + 4 ≤ z0) : f_X5_copyFrom σ z0 z1 = fun c k => if c = z0 then (if k = 0 then σ z1 0 else σ z0 k) else if c = z0 + 1 then (if k < 8 then σ (z1 + 1) k else σ c k) else if c = z0 + 2 then (if k < 8 then σ (z1 + 2) k else σ c k) else if c = z0 + 3 then (if k < 8 then σ (z1 + 3) k else σ c k) else σ c k := by
  unfold f_X5_copyFrom f_X9_copyNumbers q_row
  funext c k
  have e1 : z1 + 1 ≠ z0 := by omega
  have e2 : z1 + 2 ≠ z0 := by omega
  have e3 : z1 + 3 ≠ z0 := by omega
  by_cases hc3 : c = z0 + 3
  · subst hc3
    simp only [ab_up_ne (show z0 + 3 ≠ z0 by omega), ab_up_ne e3, if_neg (show z1 + 3 ≠ z0 + 1 by omega), if_neg (show z1 + 3 ≠ z0 + 2 by omega), if_neg (show z0 + 3 ≠ z0 by omega), if_neg (show z0 + 3 ≠ z0 + 1 by omega), if_neg (show z0 + 3 ≠ z0 + 2 by omega), if_true]
  · rw [if_neg hc3]
    by_cases hc2 : c = z0 + 2
    · subst hc2
      simp only [ab_up_ne (show z0 + 2 ≠ z0 by omega), ab_up_ne e2, if_neg (show z1 + 2 ≠ z0 + 1 by omega), if_neg (show z0 + 2 ≠ z0 by omega), if_neg (show z0 + 2 ≠ z0 + 1 by omega), if_true]
    · rw [if_neg hc2]
      by_cases hc1 : c = z0 + 1
      · subst hc1
        simp only [ab_up_ne (show z0 + 1 ≠ z0 by omega), ab_up_ne e1, if_neg (show z0 + 1 ≠ z0 by omega), if_true]
      · rw [if_neg hc1]
        by_cases hc0 : c = z0
        · subst hc0
          simp only [ab_up, if_true]
        · simp only [ab_up_ne hc0, if_neg hc0, if_neg hc1, if_neg hc2, if_neg hc3]
/-- what a dream is made of is the same in both places -/
def ab_eqD (σ : q_S) (z1 : Nat) (τ : q_S) (z0 : Nat) : Prop :=
  τ z0 0 = σ z1 0 ∧ τ z0 5 = σ z1 5 ∧ τ z0 6 = σ z1 6 ∧ (∀ k, k < 5 → τ (z0 + 1) k = σ (z1 + 1) k) ∧ τ (z0 + 6) 0 = σ (z1 + 6) 0 ∧ (∀ k, k < 8 → τ (z0 + 7) k = σ (z1 + 7) k ∧ τ (z0 + 8) k = σ (z1 + 8) k ∧ τ (z0 + 9) k = σ (z1 + 9) k) ∧
  (∀ s, s < 5 → (∀ k, k < 7 → τ (z0 + (10 + 3 * s)) k = σ (z1 + (10 + 3 * s)) k) ∧ (∀ k, k < 16 → τ (z0 + (11 + 3 * s)) k = σ (z1 + (11 + 3 * s)) k ∧ τ (z0 + (12 + 3 * s)) k = σ (z1 + (12 + 3 * s)) k))
theorem ab_copy_lp {σ0 σ : q_S} {z0 z1 : Nat} (hd : z0 + 25 ≤ z1 ∨ z1 + 25 ≤ z0) (hf : ∀ s, s < 5 → ab_flag (σ (z1 + (10 + 3 * s)) 0) ∧ ab_flag (σ (z1 + (10 + 3 * s)) 1))
    (h0 : σ0 z0 0 = σ z1 0) (h1 : ∀ k, k < 5 → σ0 (z0 + 1) k = σ (z1 + 1) k) (h2 : ∀ c, c < z0 ∨ z0 + 2 ≤ c → σ0 c = σ c) : ∀ r s, s + r = 5 → ∀ f, r < f → ∀ τ : q_S, (∀ c, c < z0 + 10 ∨ z0 + 25 ≤ c → τ c = σ0 c) →
    (∀ s', s' < s → (∀ k, k < 7 → τ (z0 + (10 + 3 * s')) k = σ (z1 + (10 + 3 * s')) k) ∧ (∀ k, k < 16 → τ (z0 + (11 + 3 * s')) k = σ (z1 + (11 + 3 * s')) k ∧ τ (z0 + (12 + 3 * s')) k = σ (z1 + (12 + 3 * s')) k)) →
    ∃ υ, f_X2_copyFrom_21 z0 z1 f (ab_I s) τ = some υ ∧ ab_eqD σ z1 υ z0 ∧ ∀ c, c < z0 ∨ z0 + 25 ≤ c → υ c = σ c := by
  intro r
  induction r with
  | zero =>
    intro s hs f hf2 τ g1 g2
    obtain ⟨f, rfl⟩ : ∃ g, f = g + 1 := ⟨f - 1, by omega⟩
    have hz1 : ∀ j, j < 25 → τ (z1 + j) = σ (z1 + j) := fun j hj => by rw [g1 _ (by omega), h2 _ (by omega)]
    have hz1a := hz1 0 (by decide)
    rw [Nat.add_zero] at hz1a
    rw [f_X2_copyFrom_21, if_pos (by rw [show (5 : Int32) = ab_I 5 from rfl, ab_Ile (by omega) (by omega) (by omega) (by omega)]; omega), ab_pegs_copy (by omega)]
    refine ⟨_, rfl, ⟨?_, ?_, ?_, fun k hk => ?_, ?_, fun k hk => ⟨?_, ?_, ?_⟩, fun s' hs' => ⟨fun k hk => ?_, fun k hk => ⟨?_, ?_⟩⟩⟩, fun c hc => ?_⟩
    · simp (disch := omega) only [if_true, ab_up_nk, if_neg, if_pos, g1 z0 (by omega), h0]
    · simp (disch := omega) only [if_true, ab_up_nk, ab_up_at, if_neg, hz1a]
    · simp (disch := omega) only [if_true, ab_up_nk, ab_up_at, ab_up_ne, if_neg, hz1a]
    · simp (disch := omega) only [if_true, ab_up_ne, if_neg, g1 (z0 + 1) (by omega), h1 k hk]
    · simp (disch := omega) only [if_true, ab_up_ne, if_pos, hz1 6 (by omega)]
    · simp (disch := omega) only [if_true, ab_up_ne, if_pos, if_neg, Nat.add_assoc, hz1 (6 + 1) (by omega)]
    · simp (disch := omega) only [if_true, ab_up_ne, if_pos, if_neg, Nat.add_assoc, hz1 (6 + 2) (by omega)]
    · simp (disch := omega) only [if_true, ab_up_ne, if_pos, if_neg, Nat.add_assoc, hz1 (6 + 3) (by omega)]
    · simp (disch := omega) only [if_true, ab_up_ne, if_neg]
      exact (g2 s' (by omega)).1 k hk
    · simp (disch := omega) only [if_true, ab_up_ne, if_neg]
      exact ((g2 s' (by omega)).2 k hk).1
    · simp (disch := omega) only [if_true, ab_up_ne, if_neg]
      exact ((g2 s' (by omega)).2 k hk).2
    · funext k
      simp (disch := omega) only [if_true, ab_up_ne, if_neg]
      rw [g1 c (by omega), h2 c (by omega)]
  | succ r ih =>
    intro s hs f hf2 τ g1 g2
    obtain ⟨f, rfl⟩ : ∃ g, f = g + 1 := ⟨f - 1, by omega⟩
    have hz1 : ∀ j, j < 25 → τ (z1 + j) = σ (z1 + j) := fun j hj => by rw [g1 _ (by omega), h2 _ (by omega)]
    rw [f_X2_copyFrom_21, if_neg (by rw [show (5 : Int32) = ab_I 5 from rfl, ab_Ile (by omega) (by omega) (by omega) (by omega)]; omega), ab_plotOf (by omega), ab_plotOf (by omega), ab_plot_copy (by omega) (by rw [hz1 _ (by omega)]; exact (hf s (by omega)).1) (by rw [hz1 _ (by omega)]; exact (hf s (by omega)).2), Option.bind_some, ab_I1]
    refine ih (s + 1) (by omega) f (by omega) _ (fun c hc => ?_) (fun s' hs' => ⟨fun k hk => ?_, fun k hk => ⟨?_, ?_⟩⟩)
    · funext k
      simp (disch := omega) only [if_true, if_neg]
      rw [g1 c (by omega)]
    · by_cases h : s' = s
      · subst h
        simp (disch := omega) only [if_true, if_pos]
        rw [hz1 _ (by omega)]
      · simp (disch := omega) only [if_true, if_neg]
        exact (g2 s' (by omega)).1 k hk
    · by_cases h : s' = s
      · subst h
        simp (disch := omega) only [if_true, if_pos, if_neg]
        rw [Nat.add_assoc, hz1 _ (by omega), show 10 + 3 * s' + 1 = 11 + 3 * s' by omega]
      · simp (disch := omega) only [if_true, if_neg]
        exact ((g2 s' (by omega)).2 k hk).1
    · by_cases h : s' = s
      · subst h
        simp (disch := omega) only [if_true, if_pos, if_neg]
        rw [Nat.add_assoc, hz1 _ (by omega), show 10 + 3 * s' + 2 = 12 + 3 * s' by omega]
      · simp (disch := omega) only [if_true, if_neg]
        exact ((g2 s' (by omega)).2 k hk).2
theorem ab_copyFrom {σ : q_S} {z0 z1 : Nat} (hd : z0 + 25 ≤ z1 ∨ z1 + 25 ≤ z0) (hf : ∀ s, s < 5 → ab_flag (σ (z1 + (10 + 3 * s)) 0) ∧ ab_flag (σ (z1 + (10 + 3 * s)) 1)) : ∃ υ, f_X2_copyFrom σ z0 z1 = some υ ∧ ab_eqD σ z1 υ z0 ∧ ∀ c, c < z0 ∨ z0 + 25 ≤ c → υ c = σ c := by
  unfold f_X2_copyFrom f_X9_copyNumbers q_row
  refine ab_copy_lp hd hf ?_ (fun k hk => ?_) (fun c hc => ?_) 5 0 (by omega) q_fu (by unfold q_fu; omega) _ (fun c hc => rfl) (fun s' hs' => absurd hs' (by omega))
  · simp (disch := omega) only [if_true, if_neg, ab_up_at]
  · simp (disch := omega) only [if_true, if_pos, ab_up_ne]
  · funext k
    simp (disch := omega) only [if_true, if_neg, ab_up_ne]
theorem ab_CR.copied {σ τ : q_S} {z z' : Nat} {D : Nat → Int} (h : ab_CR σ z D) (h5 : D 0 ≤ 5) (h8 : D 1 ≤ 8) (h16 : ∀ s : Nat, (s : Int) < D 0 → ab_sl D s 4 ≤ 16) (he : ab_eqD σ z τ z') : ab_CR τ z' D := by
  obtain ⟨a1, a2, a3, a4, a5, a6, a7⟩ := h
  obtain ⟨b1, b2, b3, b4, b5, b6, b7⟩ := he
  refine ⟨b1.trans a1, b5.trans a2, b2.trans a3, b3.trans a4, fun s hs => ⟨(b4 s (by omega)).trans (a5 s hs).1, ?_⟩, fun p hp => ?_, fun s hs => ?_⟩
  · obtain ⟨c1, c2⟩ := b7 s (by omega)
    obtain ⟨d1, d2, d3, d4, d5⟩ := (a5 s hs).2
    refine ⟨(c1 0 (by decide)).trans d1, (c1 1 (by decide)).trans d2, (c1 6 (by decide)).trans d3, fun q => ⟨(c1 2 (by decide)).trans (d4 q).1, (c1 3 (by decide)).trans (d4 q).2.1, (c1 4 (by decide)).trans (d4 q).2.2.1, (c1 5 (by decide)).trans (d4 q).2.2.2⟩, fun k hk => ?_⟩
    have hk16 := h16 s hs
    have e := c2 k (by omega)
    rw [show z' + (11 + 3 * s) = z' + (10 + 3 * s) + 1 by omega, show z + (11 + 3 * s) = z + (10 + 3 * s) + 1 by omega, show z' + (12 + 3 * s) = z' + (10 + 3 * s) + 2 by omega, show z + (12 + 3 * s) = z + (10 + 3 * s) + 2 by omega] at e
    exact ⟨e.1.trans (d5 k hk).1, e.2.trans (d5 k hk).2⟩
  · have e := b6 p (by omega)
    exact ⟨e.1.trans (a6 p hp).1, e.2.1.trans (a6 p hp).2.1, e.2.2.trans (a6 p hp).2.2⟩
  · have e := (b7 s hs).1
    rw [e 0 (by decide), e 1 (by decide)]
    exact a7 s hs
theorem ab_WD.c16 {B : Int} {D : Nat → Int} (h : ab_WD B D) : ∀ s : Nat, (s : Int) < D 0 → ab_sl D s 4 ≤ 16 := fun s hs => (h.2.2.2.2.2.2.2.2.1 s hs).2.2.2.2.2.1
/-- a dream copied -/
theorem ab_copyD {σ : q_S} {z0 z1 : Nat} {B : Int} {D : Nat → Int} (hd : z0 + 25 ≤ z1 ∨ z1 + 25 ≤ z0) (h : ab_CR σ z1 D) (hW : ab_WD B D) : ∃ υ, f_X2_copyFrom σ z0 z1 = some υ ∧ ab_CR υ z0 D ∧ ∀ c, c < z0 ∨ z0 + 25 ≤ c → υ c = σ c := by
  obtain ⟨υ, h1, h2, h3⟩ := ab_copyFrom (σ := σ) (z0 := z0) hd h.2.2.2.2.2.2
  exact ⟨υ, h1, h.copied hW.2.1 hW.2.2.2.1 hW.c16 h2, h3⟩
/-- a row copied -/
theorem ab_copies_lp {σ : q_S} {c0 N0 c2 N2 a b : Nat} (ha : a + 220 ≤ N0) (hb : b + 220 ≤ N2) (hN0 : N0 ≤ 100000) (hN2 : N2 ≤ 100000) (hne : c0 ≠ c2 ∨ b + 220 ≤ a) : ∀ r k : Nat, k + r = 220 → ∀ f, r < f → f_X10_copies_3 c0 N0 c2 N2 f (ab_I a) (ab_I b) (ab_I k) (fun c j => if c = c2 ∧ b ≤ j ∧ j < b + k then σ c0 (a + (j - b)) else σ c j) = some (fun c j => if c = c2 ∧ b ≤ j ∧ j < b + 220 then σ c0 (a + (j - b)) else σ c j) := by
  intro r
  induction r with
  | zero =>
    intro k hk f hf
    obtain ⟨f, rfl⟩ : ∃ g, f = g + 1 := ⟨f - 1, by omega⟩
    rw [f_X10_copies_3, if_pos (by rw [show (220 : Int32) = ab_I 220 from rfl, ab_Ile (by omega) (by omega) (by omega) (by omega)]; omega), show k = 220 by omega]
  | succ r ih =>
    intro k hk f hf
    obtain ⟨f, rfl⟩ : ∃ g, f = g + 1 := ⟨f - 1, by omega⟩
    have e1 : ab_I a + ab_I k = ab_I ((a + k : Nat) : Int) := by rw [ab_Iadd]; exact congrArg ab_I (by omega)
    have e2 : ab_I b + ab_I k = ab_I ((b + k : Nat) : Int) := by rw [ab_Iadd]; exact congrArg ab_I (by omega)
    rw [f_X10_copies_3, if_neg (by rw [show (220 : Int32) = ab_I 220 from rfl, ab_Ile (by omega) (by omega) (by omega) (by omega)]; omega), e1, e2, ab_Icl (by omega) (by omega), ab_Icl (by omega) (by omega), Int.toNat_natCast, Int.toNat_natCast, if_neg (by rw [ab_Iltc (by omega) (by omega)]; exact fun h => h.elim id (fun h => by omega)), if_neg (by rw [ab_Iltc (by omega) (by omega)]; exact fun h => h.elim id (fun h => by omega)), ab_I1]
    rw [← ih (k + 1) (by omega) f (by omega)]
    congr 1
    funext c j
    rw [ab_up]
    rw [if_neg (show ¬ (c0 = c2 ∧ b ≤ a + k ∧ a + k < b + k) by omega)]
    by_cases hc : c = c2
    · subst hc
      rw [if_pos rfl]
      by_cases hj : j = b + k
      · subst hj
        rw [if_pos rfl, if_pos (by omega)]
        congr 1
        omega
      · rw [if_neg hj]
        by_cases hj2 : b ≤ j ∧ j < b + k
        · rw [if_pos ⟨rfl, hj2⟩, if_pos ⟨rfl, by omega, by omega⟩]
        · rw [if_neg (fun h => hj2 h.2), if_neg (fun h => hj2 ⟨h.2.1, by omega⟩)]
    · rw [if_neg hc, if_neg (fun h => hc h.1), if_neg (fun h => hc h.1)]
theorem ab_copies {σ : q_S} {c0 N0 c2 N2 a b : Nat} (ha : a + 220 ≤ N0) (hb : b + 220 ≤ N2) (hN0 : N0 ≤ 100000) (hN2 : N2 ≤ 100000) (hne : c0 ≠ c2 ∨ b + 220 ≤ a) : f_X10_copies σ c0 N0 (ab_I a) c2 N2 (ab_I b) = some (fun c j => if c = c2 ∧ b ≤ j ∧ j < b + 220 then σ c0 (a + (j - b)) else σ c j) := by
  unfold f_X10_copies
  have h := ab_copies_lp (σ := σ) ha hb hN0 hN2 hne 220 0 (by omega) q_fu (by unfold q_fu; omega)
  rw [← h]
  congr 1
  funext c j
  rw [if_neg (by omega)]
