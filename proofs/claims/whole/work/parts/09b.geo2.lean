section
variable {X Y : Int} {n : Nat} {d l : Nat → Int}
theorem ab_left_all (hW : ab_W X Y n d l True) : ∀ j, j < n → ∀ a : Nat, a < (l j).toNat → ab_wd X Y d l n (ab_lx (ab_cx X d l j a) (d j)) (ab_ly (ab_cy Y d l j a) (d j)) = ab_wd X Y d l n (ab_lx (ab_cx X d l 0 0) (d 0)) (ab_ly (ab_cy Y d l 0 0) (d 0)) := by
  have inner : ∀ j, j < n → ∀ a : Nat, a < (l j).toNat → ab_wd X Y d l n (ab_lx (ab_cx X d l j a) (d j)) (ab_ly (ab_cy Y d l j a) (d j)) = ab_wd X Y d l n (ab_lx (ab_cx X d l j 0) (d j)) (ab_ly (ab_cy Y d l j 0) (d j)) := by
    intro j hj a
    induction a with
    | zero => intro _; rfl
    | succ a ih =>
      intro ha
      have h1 := ab_left_next hW (j := j) (a := a) (i := j) (b := a + 1) hj (by omega) hj ha (Or.inl ⟨rfl, rfl⟩) (by rw [Int.natCast_add, Int.natCast_one, ab_cx_s]) (by rw [Int.natCast_add, Int.natCast_one, ab_cy_s])
      rw [← h1]
      exact ih (by omega)
  intro j
  induction j with
  | zero => exact fun h0 a ha => inner 0 h0 a ha
  | succ j ih =>
    intro hj a ha
    have w1 := hW.1 j (by omega)
    have w2 := hW.1 (j + 1) hj
    have h1 := ab_left_next hW (j := j) (a := (l j).toNat - 1) (i := j + 1) (b := 0) (by omega) (by omega) hj (by omega) (Or.inr ⟨rfl, rfl, by omega⟩)
      (by rw [← ab_cx_s, show ((((l j).toNat - 1 : Nat) : Int) + 1) = l j by omega, ab_cx_e, Int.natCast_zero, ab_cx_0])
      (by rw [← ab_cy_s, show ((((l j).toNat - 1 : Nat) : Int) + 1) = l j by omega, ab_cy_e, Int.natCast_zero, ab_cy_0])
    rw [inner (j + 1) hj a ha]
    rw [← ih (by omega) ((l j).toNat - 1) (by omega), h1]
    rfl
theorem ab_c_map {hend : Prop} (hW : ab_W X Y n d l hend) {j : Nat} {a : Int} (hj : j < n) (h0 : 0 ≤ a) (h1 : a ≤ l j) : 0 ≤ ab_cx X d l j a ∧ ab_cx X d l j a ≤ 12 ∧ 0 ≤ ab_cy Y d l j a ∧ ab_cy Y d l j a ≤ 8 := by
  have w1 := hW.1 j hj
  have w2 := hW.2.1 j (by omega)
  have w3 := hW.2.1 (j + 1) (by omega)
  rw [ab_px, ab_py] at w3
  unfold ab_cx ab_cy
  rcases ab_dir w1.1 w1.2.1 with h | h | h | h <;> rw [h] at w3 ⊢ <;> simp only [ab_sx, ab_sy] at * <;> simp at * <;> omega
theorem ab_wind (hW : ab_W X Y n d l True) (cy : Int) : ∀ k : Nat, ab_wd X Y d l n ((k : Int) - 1) cy = 0 ∨ ((ab_wd X Y d l n (ab_lx (ab_cx X d l 0 0) (d 0)) (ab_ly (ab_cy Y d l 0 0) (d 0)) = 0 ∨ ab_wd X Y d l n (ab_lx (ab_cx X d l 0 0) (d 0)) (ab_ly (ab_cy Y d l 0 0) (d 0)) = 1) ∧ (ab_wd X Y d l n ((k : Int) - 1) cy = ab_wd X Y d l n (ab_lx (ab_cx X d l 0 0) (d 0)) (ab_ly (ab_cy Y d l 0 0) (d 0)) ∨ ab_wd X Y d l n ((k : Int) - 1) cy = ab_wd X Y d l n (ab_lx (ab_cx X d l 0 0) (d 0)) (ab_ly (ab_cy Y d l 0 0) (d 0)) - 1)) := by
  have hall := ab_left_all hW
  generalize ab_wd X Y d l n (ab_lx (ab_cx X d l 0 0) (d 0)) (ab_ly (ab_cy Y d l 0 0) (d 0)) = A at hall ⊢
  intro k
  induction k with
  | zero =>
    refine Or.inl (ab_E_zero (fun j a hj ha => ?_))
    have := ab_c_map hW hj (a := a) (by omega) (by omega)
    unfold ab_vc
    rw [if_neg (by omega)]
  | succ k ih =>
    rw [show (((k + 1 : Nat) : Int) - 1) = (k : Int) by omega]
    by_cases h : ∃ j a : Nat, j < n ∧ a < (l j).toNat ∧ ab_dv (k : Int) cy (ab_cx X d l j a) (ab_cy Y d l j a) (d j) ≠ 0
    · obtain ⟨j, a, hj, ha, h2⟩ := h
      have h3 := ab_used_v hW hj ha h2
      have h4 := hall j hj a ha
      rcases ab_dv_ne h2 with ⟨p1, p2, p3, p4⟩ | ⟨p1, p2, p3, p4⟩
      · rw [p4] at h3
        rw [p1, p2, p3, show ab_lx (k : Int) 2 = k from rfl, show ab_ly cy 2 = cy from rfl] at h4
        omega
      · rw [p4] at h3
        rw [p1, p2, p3, show ab_lx (k : Int) 0 = k - 1 from rfl, show ab_ly (cy + 1) 0 = cy + 1 - 1 from rfl, show cy + 1 - 1 = cy by omega] at h4
        omega
    · have h3 := ab_wd_dv (X := X) (Y := Y) (d := d) (l := l) (n := n) (k : Int) cy
      rw [ab_E_zero (fun j a hj ha => Decidable.byContradiction (fun h4 => h ⟨j, a, hj, ha, h4⟩))] at h3
      rw [show ab_wd X Y d l n (k : Int) cy = ab_wd X Y d l n ((k : Int) - 1) cy by omega]
      exact ih
/-- a way that ends where it began, and is nowhere twice, winds about each cell of the map once or not at all, and all of them alike -/
theorem ab_jordan (hW : ab_W X Y n d l True) : (∀ cx cy : Nat, ab_wd X Y d l n cx cy = 0 ∨ ab_wd X Y d l n cx cy = 1) ∨ (∀ cx cy : Nat, ab_wd X Y d l n cx cy = 0 ∨ ab_wd X Y d l n cx cy = -1) := by
  have h := fun cy : Nat => ab_wind hW (cy : Int)
  generalize ab_wd X Y d l n (ab_lx (ab_cx X d l 0 0) (d 0)) (ab_ly (ab_cy Y d l 0 0) (d 0)) = A at h
  by_cases hA : A = 1
  · refine Or.inl (fun cx cy => ?_)
    have := h cy (cx + 1)
    rw [show (((cx + 1 : Nat) : Int) - 1) = (cx : Int) by omega] at this
    omega
  · refine Or.inr (fun cx cy => ?_)
    have := h cy (cx + 1)
    rw [show (((cx + 1 : Nat) : Int) - 1) = (cx : Int) by omega] at this
    omega
end
/-! by whole chains -/
/-- how a chain crosses the row cy -/
def ab_cov (Y : Int) (d l : Nat → Int) (cy : Int) (k : Nat) : Int := if d k = 2 ∧ ab_py Y d l k ≤ cy ∧ cy < ab_py Y d l k + l k then 1 else if d k = 0 ∧ ab_py Y d l k - l k ≤ cy ∧ cy < ab_py Y d l k then -1 else 0
def ab_wk (X Y : Int) (d l : Nat → Int) (cx cy : Int) (k : Nat) : Int := if ab_px X d l k ≤ cx then ab_cov Y d l cy k else 0
def ab_ek (X Y : Int) (d l : Nat → Int) (cx cy : Int) (k : Nat) : Int := if cx < ab_px X d l k then ab_cov Y d l cy k else 0
section
variable {X Y : Int} {n : Nat} {d l : Nat → Int}
theorem ab_wd_chain (hd : ∀ j, j < n → 0 ≤ d j ∧ d j ≤ 3 ∧ 1 ≤ l j) (cx cy : Int) : ab_wd X Y d l n cx cy = ab_S (ab_wk X Y d l cx cy) n := by
  unfold ab_wd ab_E
  refine ab_S_congr (fun j hj => ?_)
  have w1 := hd j hj
  unfold ab_wk ab_cov
  rcases ab_dir w1.1 w1.2.1 with h | h | h | h
  · by_cases hin : ab_px X d l j ≤ cx ∧ ab_py Y d l j - l j ≤ cy ∧ cy < ab_py Y d l j
    · rw [ab_S_one (k := (ab_py Y d l j - 1 - cy).toNat) (by omega) (fun a ha hne => ?_)]
      · simp only [ab_vc, ab_cx, ab_cy, h, ab_sx, ab_sy]
        simp
        (repeat' split) <;> omega
      · simp only [ab_vc, ab_cx, ab_cy, h, ab_sx, ab_sy]
        simp
        (repeat' split) <;> omega
    · rw [ab_S_zero (fun a ha => ?_)]
      · simp only [h]
        simp
        (repeat' split) <;> omega
      · simp only [ab_vc, ab_cx, ab_cy, h, ab_sx, ab_sy]
        simp
        (repeat' split) <;> omega
  · rw [ab_S_zero (fun a ha => ?_)]
    · simp [h]
    · simp [ab_vc, h]
  · by_cases hin : ab_px X d l j ≤ cx ∧ ab_py Y d l j ≤ cy ∧ cy < ab_py Y d l j + l j
    · rw [ab_S_one (k := (cy - ab_py Y d l j).toNat) (by omega) (fun a ha hne => ?_)]
      · simp only [ab_vc, ab_cx, ab_cy, h, ab_sx, ab_sy]
        simp
        (repeat' split) <;> omega
      · simp only [ab_vc, ab_cx, ab_cy, h, ab_sx, ab_sy]
        simp
        (repeat' split) <;> omega
    · rw [ab_S_zero (fun a ha => ?_)]
      · simp only [h]
        simp
        (repeat' split) <;> omega
      · simp only [ab_vc, ab_cx, ab_cy, h, ab_sx, ab_sy]
        simp
        (repeat' split) <;> omega
  · rw [ab_S_zero (fun a ha => ?_)]
    · simp [h]
    · simp [ab_vc, h]
theorem ab_cov_sum (hW : ab_W X Y n d l True) (cy : Int) : ab_S (ab_cov Y d l cy) n = 0 := by
  have h1 : ab_S (ab_cov Y d l cy) n = ab_S (fun k => - ((if ab_py Y d l (k + 1) ≤ cy then 1 else 0) - (if ab_py Y d l k ≤ cy then 1 else 0))) n := by
    refine ab_S_congr (fun k hk => ?_)
    have w1 := hW.1 k hk
    unfold ab_cov
    rw [ab_py]
    rcases ab_dir w1.1 w1.2.1 with h | h | h | h <;> simp only [h, ab_sy] <;> simp <;> (repeat' split) <;> omega
  rw [h1, ab_S_neg, ab_S_tele (f := fun k => if ab_py Y d l k ≤ cy then (1 : Int) else 0)]
  have h2 := (hW.2.2.2.2 trivial).2.2
  simp only [h2, ab_py]
  omega
/-- to the east as often as to the west, up and down taken against each other -/
theorem ab_east (hW : ab_W X Y n d l True) (cx cy : Int) : ab_S (ab_ek X Y d l cx cy) n = - ab_S (ab_wk X Y d l cx cy) n := by
  have h1 := ab_cov_sum hW cy
  rw [ab_S_congr (g := fun k => ab_ek X Y d l cx cy k + ab_wk X Y d l cx cy k) (fun k _ => ?_), ab_S_add] at h1
  · omega
  · unfold ab_ek ab_wk
    (repeat' split) <;> omega
/-- a cell inside -/
def ab_in (X Y : Int) (d l : Nat → Int) (n : Nat) (cx cy : Int) : Int := if ab_S (ab_wk X Y d l cx cy) n % 2 = 0 then 0 else 1
def ab_cells (f : Int → Int → Int) : Int := ab_S (fun y => ab_S (fun x => f x y) 12) 8
theorem ab_count {a b N : Nat} (h : a ≤ b) (hb : b ≤ N) : ab_S (fun c => if (a : Int) ≤ (c : Int) ∧ (c : Int) < (b : Int) then (1 : Int) else 0) N = (b : Int) - a := by
  induction N with
  | zero =>
    have : a = 0 := by omega
    have : b = 0 := by omega
    subst_vars
    rfl
  | succ N ih =>
    rw [ab_S]
    by_cases hbN : b ≤ N
    · rw [ih hbN, if_neg (by omega)]; omega
    · have hb2 : b = N + 1 := by omega
      subst hb2
      by_cases haN : a ≤ N
      · rw [if_pos (by omega)]
        have : ab_S (fun c => if (a : Int) ≤ (c : Int) ∧ (c : Int) < ((N + 1 : Nat) : Int) then (1 : Int) else 0) N = ab_S (fun c => if (a : Int) ≤ (c : Int) ∧ (c : Int) < (N : Int) then (1 : Int) else 0) N := ab_S_congr (fun c hc => by (repeat' split) <;> omega)
        rw [this]
        clear this ih
        have h3 : ∀ M : Nat, a ≤ M → ab_S (fun c => if (a : Int) ≤ (c : Int) ∧ (c : Int) < (M : Int) then (1 : Int) else 0) M = (M : Int) - a := by
          intro M hM
          induction M with
          | zero => have : a = 0 := by omega
                    subst this; rfl
          | succ M ihM =>
            rw [ab_S]
            by_cases h9 : a ≤ M
            · rw [ab_S_congr (g := fun c => if (a : Int) ≤ (c : Int) ∧ (c : Int) < (M : Int) then (1 : Int) else 0) (fun c hc => by (repeat' split) <;> omega), ihM h9, if_pos (by omega)]; omega
            · rw [ab_S_zero (fun c hc => by rw [if_neg (by omega)]), if_neg (by omega)]; omega
        rw [h3 N haN]; omega
      · rw [ab_S_zero (fun c hc => by rw [if_neg (by omega)]), if_neg (by omega)]; omega
/-- the area by the chains is the sum of the windings -/
theorem ab_area_sum (hW : ab_W X Y n d l True) : ab_cells (fun x y => ab_S (ab_wk X Y d l x y) n) = ab_S (fun k => ab_sx (d k) * l k * ab_py Y d l k) n := by
  have h1 : ab_cells (fun x y => ab_S (ab_wk X Y d l x y) n) = ab_S (fun k => (12 - ab_px X d l k) * (ab_sy (d k) * l k)) n := by
    unfold ab_cells
    rw [ab_S_congr (fun y _ => ab_S_swap), ab_S_swap]
    refine ab_S_congr (fun k hk => ?_)
    have w1 := hW.1 k hk
    have w2 := hW.2.1 k (by omega)
    have w3 := hW.2.1 (k + 1) (by omega)
    rw [ab_px, ab_py] at w3
    -- over x first: a factor, then over y
    have hx : ab_S (fun x => if ab_px X d l k ≤ (x : Int) then (1 : Int) else 0) 12 = 12 - ab_px X d l k := by
      rw [ab_S_congr (g := fun c => if ((ab_px X d l k).toNat : Int) ≤ (c : Int) ∧ (c : Int) < ((12 : Nat) : Int) then (1 : Int) else 0) (fun c hc => by (repeat' split) <;> omega), ab_count (by omega) (by omega)]
      omega
    have hy : ab_S (fun y => ab_cov Y d l (y : Int) k) 8 = ab_sy (d k) * l k := by
      unfold ab_cov
      rcases ab_dir w1.1 w1.2.1 with h | h | h | h
      · simp only [h, ab_sy] at w3 ⊢
        simp at w3 ⊢
        rw [ab_S_congr (g := fun c => - (if (((ab_py Y d l k - l k).toNat : Nat) : Int) ≤ (c : Int) ∧ (c : Int) < (((ab_py Y d l k).toNat : Nat) : Int) then (1 : Int) else 0)) (fun c hc => by (repeat' split) <;> omega), ab_S_neg, ab_count (by omega) (by omega)]
        omega
      · rw [ab_S_zero (fun c _ => by simp [h])]
        simp [h, ab_sy]
      · simp only [h, ab_sy] at w3 ⊢
        simp at w3 ⊢
        rw [ab_S_congr (g := fun c => (if (((ab_py Y d l k).toNat : Nat) : Int) ≤ (c : Int) ∧ (c : Int) < (((ab_py Y d l k + l k).toNat : Nat) : Int) then (1 : Int) else 0)) (fun c hc => by (repeat' split) <;> omega), ab_count (by omega) (by omega)]
        omega
      · rw [ab_S_zero (fun c _ => by simp [h])]
        simp [h, ab_sy]
    rw [← hx, ← hy]
    rw [Int.mul_comm, ← ab_S_mul]
    rw [ab_S_swap]
    refine ab_S_congr (fun y _ => ?_)
    rw [Int.mul_comm, ← ab_S_mul]
    refine ab_S_congr (fun x _ => ?_)
    unfold ab_wk
    split <;> simp
  rw [h1]
  have h2 : ab_S (fun k => ab_px X d l (k + 1) * ab_py Y d l (k + 1) - ab_px X d l k * ab_py Y d l k) n = 0 := by
    rw [ab_S_tele (f := fun k => ab_px X d l k * ab_py Y d l k), (hW.2.2.2.2 trivial).2.1, (hW.2.2.2.2 trivial).2.2]
    simp [ab_px, ab_py]
  have h3 : ab_S (fun k => ab_py Y d l (k + 1) - ab_py Y d l k) n = 0 := by
    rw [ab_S_tele (f := fun k => ab_py Y d l k), (hW.2.2.2.2 trivial).2.2]
    simp [ab_py]
  have h4 : ab_S (fun k => (12 - ab_px X d l k) * (ab_sy (d k) * l k)) n = ab_S (fun k => (12 * (ab_py Y d l (k + 1) - ab_py Y d l k) - (ab_px X d l (k + 1) * ab_py Y d l (k + 1) - ab_px X d l k * ab_py Y d l k)) + ab_sx (d k) * l k * ab_py Y d l k) n := by
    refine ab_S_congr (fun k hk => ?_)
    have w1 := hW.1 k hk
    rw [ab_px, ab_py]
    rcases ab_dir w1.1 w1.2.1 with h | h | h | h <;> simp only [h, ab_sx, ab_sy] <;> simp <;> grind
  rw [h4, ab_S_add, ab_S_sub, ab_S_mul, h3, h2]
  omega
theorem ab_area (hW : ab_W X Y n d l True) : (if 0 ≤ ab_S (fun k => ab_sx (d k) * l k * ab_py Y d l k) n then ab_S (fun k => ab_sx (d k) * l k * ab_py Y d l k) n else - ab_S (fun k => ab_sx (d k) * l k * ab_py Y d l k) n) = ab_cells (fun x y => ab_in X Y d l n x y) := by
  rw [← ab_area_sum hW]
  have hd : ∀ j, j < n → 0 ≤ d j ∧ d j ≤ 3 ∧ 1 ≤ l j := fun j hj => ⟨(hW.1 j hj).1, (hW.1 j hj).2.1, (hW.1 j hj).2.2.1⟩
  have hnn : 0 ≤ ab_cells (fun x y => ab_in X Y d l n x y) := ab_S_nonneg (fun y _ => ab_S_nonneg (fun x _ => by unfold ab_in; dsimp only; split <;> omega))
  rcases ab_jordan hW with h | h
  · have e : ab_cells (fun x y => ab_S (ab_wk X Y d l x y) n) = ab_cells (fun x y => ab_in X Y d l n x y) := by
      refine ab_S_congr (fun y _ => ab_S_congr (fun x _ => ?_))
      have h1 := h x y
      rw [ab_wd_chain hd] at h1
      unfold ab_in
      dsimp only
      split <;> omega
    rw [e, if_pos hnn]
  · have e : ab_cells (fun x y => ab_S (ab_wk X Y d l x y) n) = - ab_cells (fun x y => ab_in X Y d l n x y) := by
      unfold ab_cells
      rw [← ab_S_neg]
      refine ab_S_congr (fun y _ => ?_)
      rw [← ab_S_neg]
      refine ab_S_congr (fun x _ => ?_)
      have h1 := h x y
      rw [ab_wd_chain hd] at h1
      unfold ab_in
      dsimp only
      split <;> omega
    rw [e]
    split <;> omega
end
