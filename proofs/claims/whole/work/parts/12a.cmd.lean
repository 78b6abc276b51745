/-! commands: what both programs do of one, said alike -/
def ab_u (D : Nat → Int) (k : Nat) (v : Int) : Nat → Int := fun j => if j = k then v else D j
theorem ab_u_at {D : Nat → Int} {k : Nat} {v : Int} : ab_u D k v k = v := by unfold ab_u; rw [if_pos rfl]
theorem ab_u_ne {D : Nat → Int} {k j : Nat} {v : Int} (h : j ≠ k) : ab_u D k v j = D j := by unfold ab_u; rw [if_neg h]
theorem ab_MR.up {σ : q_S} {D : Nat → Int} {c : Nat} (h : ab_MR σ c 0 D) (k : Nat) (v : Int) : ab_MR (q_up σ c k (ab_I v)) c 0 (ab_u D k v) := by
  intro j hj
  rw [Nat.zero_add]
  have hh := h j hj
  rw [Nat.zero_add] at hh
  unfold ab_u
  by_cases e : j = k
  · subst e
    rw [ab_up_at, if_pos rfl]
  · rw [ab_up_nk e, if_neg e, hh]
theorem ab_W.congr {X X2 Y Y2 : Int} {n : Nat} {d l d2 l2 : Nat → Int} {hend : Prop} (h : ab_W X Y n d l hend) (hX : X2 = X) (hY : Y2 = Y) (hd : ∀ j, j < n → d2 j = d j) (hl : ∀ j, j < n → l2 j = l j) : ab_W X2 Y2 n d2 l2 hend := by
  subst hX hY
  have px : ∀ k, k ≤ n → ab_px X2 d2 l2 k = ab_px X2 d l k := fun k hk => ab_px_congr (fun j hj => hd j (by omega)) (fun j hj => hl j (by omega))
  have py : ∀ k, k ≤ n → ab_py Y2 d2 l2 k = ab_py Y2 d l k := fun k hk => ab_py_congr (fun j hj => hd j (by omega)) (fun j hj => hl j (by omega))
  have cx : ∀ k a, k < n → ab_cx X2 d2 l2 k a = ab_cx X2 d l k a := fun k a hk => by unfold ab_cx; rw [px k (by omega), hd k hk]
  have cy : ∀ k a, k < n → ab_cy Y2 d2 l2 k a = ab_cy Y2 d l k a := fun k a hk => by unfold ab_cy; rw [py k (by omega), hd k hk]
  obtain ⟨h1, h2, h3, h4, h5⟩ := h
  refine ⟨fun j hj => by rw [hd j hj, hl j hj]; exact h1 j hj, fun j hj => by rw [px j hj, py j hj]; exact h2 j hj, fun i j a b hi hj => by rw [hl i hi, hl j hj, cx i a hi, cx j b hj, cy i a hi, cy j b hj]; exact h3 i j a b hi hj, fun i a hi => by rw [hl i hi, cx i a hi, cy i a hi]; exact h4 i a hi, fun he => by rw [px n (Nat.le_refl _), py n (Nat.le_refl _)]; exact h5 he⟩
theorem ab_WP.congr {P P2 : Nat → Int} (h : ab_WP P) (he : ∀ k, k < 37 → P2 k = P k) : ab_WP P2 := by
  unfold ab_WP at h ⊢
  rw [he 0 (by decide), he 1 (by decide), he 2 (by decide), he 3 (by decide), he 4 (by decide)]
  obtain ⟨h1, h2, h3, h4, h5, h6, h7, h8⟩ := h
  refine ⟨h1, h2, h3, h4, h5, h6, h7, fun h => (h8 h).congr rfl rfl (fun j hj => he _ (by omega)) (fun j hj => he _ (by omega))⟩
theorem ab_WP.congr0 {P P2 : Nat → Int} (h : ab_WP P) (h0 : 0 ≤ P2 0) (h9 : P2 0 ≤ 9) (he : ∀ k, 1 ≤ k → k < 37 → P2 k = P k) : ab_WP P2 := by
  unfold ab_WP at h ⊢
  rw [he 1 (by decide) (by decide), he 2 (by decide) (by decide), he 3 (by decide) (by decide), he 4 (by decide) (by decide)]
  obtain ⟨h1, h2, h3, h4, h5, h6, h7, h8⟩ := h
  refine ⟨h0, h9, h3, h4, h5, h6, h7, fun h => (h8 h).congr rfl rfl (fun j hj => he _ (by omega) (by omega)) (fun j hj => he _ (by omega) (by omega))⟩
theorem ab_CP.congr {σ : q_S} {c : Nat} {P P2 : Nat → Int} (h : ab_CP σ c P) (h5 : 0 ≤ P 4) (h16 : P 4 ≤ 16) (he : ∀ k, 1 ≤ k → k < 37 → P2 k = P k) : ab_CP σ c P2 := by
  unfold ab_CP at h ⊢
  have e2 : ∀ k, k < 16 → ab_ds P2 k = ab_ds P k := fun k hk => he _ (by omega) (by omega)
  have e3 : ∀ k, k < 16 → ab_ls P2 k = ab_ls P k := fun k hk => he _ (by omega) (by omega)
  rw [he 1 (by decide) (by decide), he 2 (by decide) (by decide), he 3 (by decide) (by decide), he 4 (by decide) (by decide)]
  obtain ⟨h1, h2, h3, h4, h5'⟩ := h
  refine ⟨h1, h2, h3, fun q => ?_, fun k hk => ?_⟩
  · rw [ab_px_congr (d2 := ab_ds P) (l2 := ab_ls P) (fun j hj => e2 j (by omega)) (fun j hj => e3 j (by omega)), ab_py_congr (d2 := ab_ds P) (l2 := ab_ls P) (fun j hj => e2 j (by omega)) (fun j hj => e3 j (by omega))]
    exact h4 q
  · rw [he _ (by omega) (by omega), he _ (by omega) (by omega)]
    exact h5' k hk
/-- what stands outside the sleeper s is as it was -/
theorem ab_sl_ne {D D2 : Nat → Int} {s s2 : Nat} (hne : s2 ≠ s) (he : ∀ k, (k < 30 + 37 * s ∨ 67 + 37 * s ≤ k) → 30 ≤ k → D2 k = D k) : ∀ k, k < 37 → ab_sl D2 s2 k = ab_sl D s2 k := fun k hk => he _ (by omega) (by omega)
theorem ab_in_from : f_X10_in = f_X9_isFrom := rfl
theorem ab_corner_eq : f_X10_isCorner = f_X9_isCorner := rfl
theorem ab_from {a : Int32} (lo hi : Int) (h0 : -2147483648 ≤ lo) (h1 : lo ≤ 2147483647) (h2 : -2147483648 ≤ hi) (h3 : hi ≤ 2147483647) : f_X9_isFrom a (ab_I lo) (ab_I hi) = 0 ∨ (f_X9_isFrom a (ab_I lo) (ab_I hi) = 1 ∧ ∃ n : Int, lo ≤ n ∧ n ≤ hi ∧ a = ab_I n) := by
  rw [ab_Iof a, ab_isFrom (Int32.le_toInt a) (by have := Int32.toInt_lt a; omega) h0 h1 h2 h3]
  by_cases h : lo ≤ a.toInt ∧ a.toInt ≤ hi
  · rw [if_pos h]
    exact .inr ⟨rfl, a.toInt, h.1, h.2, rfl⟩
  · rw [if_neg h]
    exact .inl rfl
theorem ab_corner {a b : Int32} : f_X9_isCorner a b = 0 ∨ (f_X9_isCorner a b = 1 ∧ ∃ x y : Int, 0 ≤ x ∧ x ≤ 12 ∧ 0 ≤ y ∧ y ≤ 8 ∧ a = ab_I x ∧ b = ab_I y) := by
  unfold f_X9_isCorner
  rcases ab_from (a := a) 0 12 (by decide) (by decide) (by decide) (by decide) with h | ⟨h, x, hx0, hx1, rfl⟩
  · exact .inl (if_pos (show f_X9_isFrom a 0 12 = 0 from h))
  · rcases ab_from (a := b) 0 8 (by decide) (by decide) (by decide) (by decide) with g | ⟨g, y, hy0, hy1, rfl⟩
    · rw [if_neg (by rw [show f_X9_isFrom (ab_I x) 0 12 = 1 from h]; decide), if_pos (show f_X9_isFrom b 0 8 = 0 from g)]
      exact .inl rfl
    · rw [if_neg (by rw [show f_X9_isFrom (ab_I x) 0 12 = 1 from h]; decide), if_neg (by rw [show f_X9_isFrom (ab_I y) 0 8 = 1 from g]; decide)]
      exact .inr ⟨rfl, x, y, hx0, hx1, hy0, hy1, rfl, rfl⟩
theorem ab_hasS {σ σ' : q_S} {z : Nat} {n : Int} {a : Int32} (h : σ z 0 = ab_I n) (h' : σ' 293 0 = ab_I n) (h0 : 0 ≤ n) (h5 : n ≤ 5) : (f_X2_hasSleeper σ z a = 0 ∧ f_X10_isSleeper σ' a = some 0) ∨ (f_X2_hasSleeper σ z a = 1 ∧ f_X10_isSleeper σ' a = some 1 ∧ ∃ s : Nat, (s : Int) < n ∧ a = ab_I s) := by
  unfold f_X2_hasSleeper f_X10_isSleeper f_X10_in
  have l0 := Int32.le_toInt a
  have l1 := Int32.toInt_lt a
  rw [h, h', ab_Iof a, show (1 : Int32) = ab_I 1 from rfl, ab_Isub, show (0 : Int32) = ab_I 0 from rfl]
  simp only [ab_Ilt l0 (by omega) (show (-2147483648 : Int) ≤ 0 by omega) (by omega), ab_Ile (a := n) (b := a.toInt) (by omega) (by omega) l0 (by omega), ab_Ilt (a := n - 1) (b := a.toInt) (by omega) (by omega) l0 (by omega)]
  by_cases c1 : a.toInt < 0
  · left
    simp only [if_pos c1]
    refine ⟨?_, ?_⟩ <;> first | trivial | rfl
  · by_cases c2 : n ≤ a.toInt
    · left
      simp only [if_neg c1, if_pos c2, if_pos (show n - 1 < a.toInt by omega)]
      refine ⟨?_, ?_⟩ <;> first | trivial | rfl
    · right
      simp only [if_neg c1, if_neg c2, if_neg (show ¬ n - 1 < a.toInt by omega)]
      refine ⟨by first | trivial | rfl, by first | trivial | rfl, a.toInt.toNat, by omega, by rw [show ((a.toInt.toNat : Nat) : Int) = a.toInt by omega]⟩
/-- the frames: of what a command leaves as it was -/
def ab_fC (σ τ : q_S) : Prop := ∀ c, c < 2 ∨ 27 ≤ c → τ c = σ c
def ab_fR (σ τ : q_S) : Prop := ab_eq σ τ ∧ τ 294 = σ 294 ∧ (∀ c, c < 292 → τ c = σ c) ∧ τ 292 4 = σ 292 4 ∧ τ 300 = σ 300 ∧ τ 301 = σ 301 ∧ ∀ k, 23 ≤ k → k < 28 → τ 292 k = σ 292 k
def ab_fM (σ τ : q_S) : Prop := (∀ c, c ≠ 292 → c ≠ 293 → τ c = σ c) ∧ ∀ k, (¬ ab_sf k ∨ k = 4 ∨ k = 25) → τ 292 k = σ 292 k
theorem ab_fR.rf {σ : q_S} : ab_fR σ σ := ⟨ab_eq.rf, rfl, fun _ _ => rfl, rfl, rfl, rfl, fun _ _ _ => rfl⟩
theorem ab_fM.up {σ : q_S} {k : Nat} {v : Int32} : ab_fM σ (q_up σ 293 k v) := ⟨fun c _ h => ab_up_ne h, fun k _ => by rw [ab_up_ne (by decide)]⟩
theorem ab_fM.trans {σ τ υ : q_S} (h : ab_fM σ τ) (g : ab_fM τ υ) : ab_fM σ υ := ⟨fun c a b => (g.1 c a b).trans (h.1 c a b), fun k a => (g.2 k a).trans (h.2 k a)⟩
def ab_sim (B : Int) (σ σ' : q_S) (rc : Option (Int32 × q_S)) (bad : Nat → Prop) (isr : Option (Int32 × q_S)) (carry : q_S → Option (Int32 × q_S)) : Prop :=
  (bad 1 ∧ rc = some (-1, σ)) ∨ (bad 2 ∧ rc = some (-2, σ)) ∨
  (bad 0 ∧ ∃ (w n : Int32) (υ : q_S), w ≠ 0 ∧ rc = some (f_X7_refuse σ w n) ∧ isr = some (1, υ) ∧ ab_fR σ' υ ∧ υ 292 6 = w ∧ υ 292 7 = n) ∨
  (bad 0 ∧ ∃ (v : Int) (D2 : Nat → Int) (τ υ υ2 : q_S), 0 ≤ v ∧ v ≤ 1000000 ∧ rc = some (ab_I v, τ) ∧ isr = some (0, υ) ∧ ab_fR σ' υ ∧ carry υ = some (ab_I v, υ2) ∧ ab_MR υ2 293 0 D2 ∧ ab_CR τ 2 D2 ∧ ab_WD (B + 20) D2 ∧ ab_fC σ τ ∧ ab_fM υ υ2)
theorem ab_isBad {σ : q_S} {w n : Int32} : ∃ υ, f_X10_isBad σ w n = (1, υ) ∧ ab_fR σ υ ∧ υ 292 6 = w ∧ υ 292 7 = n := by
  refine ⟨_, rfl, ⟨(ab_eq.up (.inr ⟨rfl, .inr (.inl rfl)⟩)).trans (ab_eq.up (.inr ⟨rfl, .inr (.inr (.inl rfl))⟩)), rfl, fun c hc => ?_, rfl, rfl, rfl, fun k h1 h2 => by rw [ab_up_nk (by omega), ab_up_nk (by omega)]⟩, rfl, rfl⟩
  rw [ab_up_ne (by omega), ab_up_ne (by omega)]
