/-! sums, walks of unit steps, winding: what has no machine in it -/
def ab_S (f : Nat → Int) : Nat → Int
  | 0 => 0
  | n + 1 => ab_S f n + f n
theorem ab_S_congr {f g : Nat → Int} {n : Nat} (h : ∀ j, j < n → f j = g j) : ab_S f n = ab_S g n := by
  induction n with
  | zero => rfl
  | succ n ih => rw [ab_S, ab_S, ih (fun j hj => h j (by omega)), h n (by omega)]
theorem ab_S_zero {f : Nat → Int} {n : Nat} (h : ∀ j, j < n → f j = 0) : ab_S f n = 0 := by
  induction n with
  | zero => rfl
  | succ n ih => rw [ab_S, ih (fun j hj => h j (by omega)), h n (by omega)]; rfl
theorem ab_S_add {f g : Nat → Int} {n : Nat} : ab_S (fun j => f j + g j) n = ab_S f n + ab_S g n := by
  induction n with
  | zero => rfl
  | succ n ih => rw [ab_S, ab_S, ab_S, ih]; omega
theorem ab_S_sub {f g : Nat → Int} {n : Nat} : ab_S (fun j => f j - g j) n = ab_S f n - ab_S g n := by
  induction n with
  | zero => rfl
  | succ n ih => rw [ab_S, ab_S, ab_S, ih]; omega
theorem ab_S_neg {f : Nat → Int} {n : Nat} : ab_S (fun j => - f j) n = - ab_S f n := by
  induction n with
  | zero => rfl
  | succ n ih => rw [ab_S, ab_S, ih]; omega
theorem ab_S_mul {f : Nat → Int} {n : Nat} {c : Int} : ab_S (fun j => c * f j) n = c * ab_S f n := by
  induction n with
  | zero => simp [ab_S]
  | succ n ih => rw [ab_S, ab_S, ih, Int.mul_add]
theorem ab_S_const {n : Nat} {c : Int} : ab_S (fun _ => c) n = n * c := by
  induction n with
  | zero => simp [ab_S]
  | succ n ih => rw [ab_S, ih, Int.natCast_add, Int.add_mul]; simp
theorem ab_S_one {f : Nat → Int} {n k : Nat} (hk : k < n) (h : ∀ j, j < n → j ≠ k → f j = 0) : ab_S f n = f k := by
  induction n with
  | zero => omega
  | succ n ih =>
    rw [ab_S]
    by_cases hkn : k = n
    · subst hkn
      rw [ab_S_zero (fun j hj => h j (by omega) (by omega))]; omega
    · rw [ih (by omega) (fun j hj hne => h j (by omega) hne), h n (by omega) (fun z => hkn z.symm)]; omega
theorem ab_S_tele {f : Nat → Int} {n : Nat} : ab_S (fun j => f (j + 1) - f j) n = f n - f 0 := by
  induction n with
  | zero => simp [ab_S]
  | succ n ih => rw [ab_S, ih]; omega
theorem ab_S_swap {f : Nat → Nat → Int} {n m : Nat} : ab_S (fun j => ab_S (fun i => f j i) m) n = ab_S (fun i => ab_S (fun j => f j i) n) m := by
  induction n with
  | zero => exact (ab_S_zero (fun i _ => rfl)).symm
  | succ n ih => simp only [ab_S]; rw [ih, ← ab_S_add]
theorem ab_S_nonneg {f : Nat → Int} {n : Nat} (h : ∀ j, j < n → 0 ≤ f j) : 0 ≤ ab_S f n := by
  induction n with
  | zero => exact Int.le_refl _
  | succ n ih =>
    rw [ab_S]
    have := ih (fun j hj => h j (by omega))
    have := h n (by omega)
    omega
theorem ab_S_le {f : Nat → Int} {n : Nat} {c : Int} (h : ∀ j, j < n → f j ≤ c) : ab_S f n ≤ n * c := by
  induction n with
  | zero => simp [ab_S]
  | succ n ih =>
    rw [ab_S, Int.natCast_add, Int.add_mul]
    have := ih (fun j hj => h j (by omega))
    have := h n (by omega)
    simp only [Int.natCast_one, Int.one_mul]
    omega
theorem ab_S_split {f : Nat → Int} {n m : Nat} : ab_S f (n + m) = ab_S f n + ab_S (fun j => f (n + j)) m := by
  induction m with
  | zero => simp [ab_S]
  | succ m ih => rw [← Nat.add_assoc, ab_S, ab_S, ih]; omega
/-! directions: 0 north, 1 east, 2 south, 3 west -/
def ab_sx (d : Int) : Int := if d = 1 then 1 else if d = 3 then -1 else 0
def ab_sy (d : Int) : Int := if d = 2 then 1 else if d = 0 then -1 else 0
def ab_px (X : Int) (d l : Nat → Int) : Nat → Int
  | 0 => X
  | k + 1 => ab_px X d l k + ab_sx (d k) * l k
def ab_py (Y : Int) (d l : Nat → Int) : Nat → Int
  | 0 => Y
  | k + 1 => ab_py Y d l k + ab_sy (d k) * l k
/-- the corner a steps along the chain j -/
def ab_cx (X : Int) (d l : Nat → Int) (j : Nat) (a : Int) : Int := ab_px X d l j + ab_sx (d j) * a
def ab_cy (Y : Int) (d l : Nat → Int) (j : Nat) (a : Int) : Int := ab_py Y d l j + ab_sy (d j) * a
theorem ab_px_congr {X : Int} {d l d2 l2 : Nat → Int} {k : Nat} (hd : ∀ j, j < k → d j = d2 j) (hl : ∀ j, j < k → l j = l2 j) : ab_px X d l k = ab_px X d2 l2 k := by
  induction k with
  | zero => rfl
  | succ k ih => rw [ab_px, ab_px, ih (fun j hj => hd j (by omega)) (fun j hj => hl j (by omega)), hd k (by omega), hl k (by omega)]
theorem ab_py_congr {Y : Int} {d l d2 l2 : Nat → Int} {k : Nat} (hd : ∀ j, j < k → d j = d2 j) (hl : ∀ j, j < k → l j = l2 j) : ab_py Y d l k = ab_py Y d2 l2 k := by
  induction k with
  | zero => rfl
  | succ k ih => rw [ab_py, ab_py, ih (fun j hj => hd j (by omega)) (fun j hj => hl j (by omega)), hd k (by omega), hl k (by omega)]
/-- what holds of a plot's chains: n of them, from X, Y; ended: it is where it began -/
def ab_W (X Y : Int) (n : Nat) (d l : Nat → Int) (ended : Prop) : Prop :=
  (∀ j, j < n → 0 ≤ d j ∧ d j ≤ 3 ∧ 1 ≤ l j ∧ l j ≤ 9) ∧
  (∀ j, j ≤ n → 0 ≤ ab_px X d l j ∧ ab_px X d l j ≤ 12 ∧ 0 ≤ ab_py Y d l j ∧ ab_py Y d l j ≤ 8) ∧
  (∀ i j a b, i < n → j < n → 1 ≤ a → a ≤ l i → 1 ≤ b → b ≤ l j → ab_cx X d l i a = ab_cx X d l j b → ab_cy Y d l i a = ab_cy Y d l j b → i = j ∧ a = b) ∧
  (∀ i a, i < n → 1 ≤ a → a ≤ l i → ab_cx X d l i a = X → ab_cy Y d l i a = Y → ended ∧ i + 1 = n ∧ a = l i) ∧
  (ended → 3 ≤ n ∧ ab_px X d l n = X ∧ ab_py Y d l n = Y)
theorem ab_dir {d : Int} (h0 : 0 ≤ d) (h3 : d ≤ 3) : d = 0 ∨ d = 1 ∨ d = 2 ∨ d = 3 := by omega
/-- the sum over all unit steps -/
def ab_E (X Y : Int) (d l : Nat → Int) (g : Int → Int → Int → Int) (n : Nat) : Int := ab_S (fun j => ab_S (fun a => g (ab_cx X d l j a) (ab_cy Y d l j a) (d j)) (l j).toNat) n
theorem ab_E_congr {X Y : Int} {d l : Nat → Int} {g h : Int → Int → Int → Int} {n : Nat} (hh : ∀ j a, j < n → a < (l j).toNat → g (ab_cx X d l j a) (ab_cy Y d l j a) (d j) = h (ab_cx X d l j a) (ab_cy Y d l j a) (d j)) : ab_E X Y d l g n = ab_E X Y d l h n :=
  ab_S_congr (fun j hj => ab_S_congr (fun a ha => hh j a hj ha))
theorem ab_E_zero {X Y : Int} {d l : Nat → Int} {g : Int → Int → Int → Int} {n : Nat} (hh : ∀ (j a : Nat), j < n → a < (l j).toNat → g (ab_cx X d l j a) (ab_cy Y d l j a) (d j) = 0) : ab_E X Y d l g n = 0 :=
  ab_S_zero (fun j hj => ab_S_zero (fun a ha => hh j a hj ha))
theorem ab_E_one {X Y : Int} {d l : Nat → Int} {g : Int → Int → Int → Int} {n j0 a0 : Nat} (hj0 : j0 < n) (ha0 : a0 < (l j0).toNat) (hh : ∀ (j a : Nat), j < n → a < (l j).toNat → (j ≠ j0 ∨ a ≠ a0) → g (ab_cx X d l j a) (ab_cy Y d l j a) (d j) = 0) : ab_E X Y d l g n = g (ab_cx X d l j0 a0) (ab_cy Y d l j0 a0) (d j0) := by
  unfold ab_E
  rw [ab_S_one (k := j0) hj0 (fun j hj hne => ab_S_zero (fun a ha => hh j a hj ha (Or.inl hne)))]
  exact ab_S_one (k := a0) (f := fun a => g (ab_cx X d l j0 a) (ab_cy Y d l j0 a) (d j0)) ha0 (fun a ha hne => hh j0 a hj0 ha (Or.inr hne))
theorem ab_E_sub {X Y : Int} {d l : Nat → Int} {g h : Int → Int → Int → Int} {n : Nat} : ab_E X Y d l (fun x y e => g x y e - h x y e) n = ab_E X Y d l g n - ab_E X Y d l h n := by
  unfold ab_E
  rw [← ab_S_sub]
  exact ab_S_congr (fun j _ => ab_S_sub)
theorem ab_E_add {X Y : Int} {d l : Nat → Int} {g h : Int → Int → Int → Int} {n : Nat} : ab_E X Y d l (fun x y e => g x y e + h x y e) n = ab_E X Y d l g n + ab_E X Y d l h n := by
  unfold ab_E
  rw [← ab_S_add]
  exact ab_S_congr (fun j _ => ab_S_add)
theorem ab_cx_s {X : Int} {d l : Nat → Int} {j : Nat} {a : Int} : ab_cx X d l j (a + 1) = ab_cx X d l j a + ab_sx (d j) := by
  unfold ab_cx
  rw [Int.mul_add]
  omega
theorem ab_cy_s {Y : Int} {d l : Nat → Int} {j : Nat} {a : Int} : ab_cy Y d l j (a + 1) = ab_cy Y d l j a + ab_sy (d j) := by
  unfold ab_cy
  rw [Int.mul_add]
  omega
theorem ab_cx_0 {X : Int} {d l : Nat → Int} {j : Nat} : ab_cx X d l j 0 = ab_px X d l j := by unfold ab_cx; simp
theorem ab_cy_0 {Y : Int} {d l : Nat → Int} {j : Nat} : ab_cy Y d l j 0 = ab_py Y d l j := by unfold ab_cy; simp
theorem ab_cx_e {X : Int} {d l : Nat → Int} {j : Nat} : ab_cx X d l j (l j) = ab_px X d l (j + 1) := rfl
theorem ab_cy_e {Y : Int} {d l : Nat → Int} {j : Nat} : ab_cy Y d l j (l j) = ab_py Y d l (j + 1) := rfl
/-- what a function of the corner gains along all of the way -/
theorem ab_E_tele {X Y : Int} {d l : Nat → Int} {n : Nat} (hl : ∀ j, j < n → 0 ≤ l j) (f : Int → Int → Int) : ab_E X Y d l (fun x y e => f (x + ab_sx e) (y + ab_sy e) - f x y) n = f (ab_px X d l n) (ab_py Y d l n) - f X Y := by
  unfold ab_E
  rw [ab_S_congr (g := fun j => f (ab_px X d l (j + 1)) (ab_py Y d l (j + 1)) - f (ab_px X d l j) (ab_py Y d l j)) (fun j hj => ?_)]
  · exact ab_S_tele (f := fun j => f (ab_px X d l j) (ab_py Y d l j))
  · have h0 := hl j hj
    rw [ab_S_congr (g := fun a : Nat => f (ab_cx X d l j ((a + 1 : Nat) : Int)) (ab_cy Y d l j ((a + 1 : Nat) : Int)) - f (ab_cx X d l j (a : Int)) (ab_cy Y d l j (a : Int))) (fun a _ => ?_)]
    · rw [ab_S_tele (f := fun a : Nat => f (ab_cx X d l j (a : Int)) (ab_cy Y d l j (a : Int)))]
      rw [Int.toNat_of_nonneg h0, ab_cx_e, ab_cy_e]
      show _ - f (ab_cx X d l j ((0 : Nat) : Int)) (ab_cy Y d l j ((0 : Nat) : Int)) = _
      rw [Int.natCast_zero, ab_cx_0, ab_cy_0]
    · rw [Int.natCast_add, Int.natCast_one, ab_cx_s, ab_cy_s]
/-! winding about a cell: by the steps up and down to its west, and by the steps across above it -/
def ab_vc (cx cy : Int) (x y e : Int) : Int := if x ≤ cx then (if e = 2 ∧ y = cy then 1 else if e = 0 ∧ y = cy + 1 then -1 else 0) else 0
def ab_hc (cx cy : Int) (x y e : Int) : Int := if y ≤ cy then (if e = 1 ∧ x = cx then -1 else if e = 3 ∧ x = cx + 1 then 1 else 0) else 0
def ab_wd (X Y : Int) (d l : Nat → Int) (n : Nat) (cx cy : Int) : Int := ab_E X Y d l (ab_vc cx cy) n
def ab_wh (X Y : Int) (d l : Nat → Int) (n : Nat) (cx cy : Int) : Int := ab_E X Y d l (ab_hc cx cy) n
def ab_q (cx cy x y : Int) : Int := if x ≤ cx ∧ y ≤ cy then 1 else 0
theorem ab_q_step {cx cy x y e : Int} (h0 : 0 ≤ e) (h3 : e ≤ 3) : ab_q cx cy (x + ab_sx e) (y + ab_sy e) - ab_q cx cy x y = ab_hc cx cy x y e - ab_vc cx cy x y e := by
  unfold ab_q ab_hc ab_vc ab_sx ab_sy
  rcases ab_dir h0 h3 with rfl | rfl | rfl | rfl <;> simp <;> (repeat' split) <;> omega
section
variable {X Y : Int} {n : Nat} {d l : Nat → Int}
theorem ab_wd_wh (hW : ab_W X Y n d l True) (cx cy : Int) : ab_wd X Y d l n cx cy = ab_wh X Y d l n cx cy := by
  have h1 := ab_E_tele (X := X) (Y := Y) (d := d) (l := l) (n := n) (fun j hj => by have := (hW.1 j hj).2.2.1; omega) (ab_q cx cy)
  rw [(hW.2.2.2.2 trivial).2.1, (hW.2.2.2.2 trivial).2.2, ab_E_congr (h := fun x y e => ab_hc cx cy x y e - ab_vc cx cy x y e) (fun j a hj _ => ab_q_step (hW.1 j hj).1 (hW.1 j hj).2.1), ab_E_sub] at h1
  unfold ab_wd ab_wh
  omega
/-- over a vertical side, from x, y to x, y + 1 -/
def ab_dv (x0 y0 : Int) (x y e : Int) : Int := if e = 2 ∧ x = x0 ∧ y = y0 then 1 else if e = 0 ∧ x = x0 ∧ y = y0 + 1 then -1 else 0
def ab_dh (x0 y0 : Int) (x y e : Int) : Int := if e = 1 ∧ x = x0 ∧ y = y0 then -1 else if e = 3 ∧ x = x0 + 1 ∧ y = y0 then 1 else 0
theorem ab_wd_dv (x y : Int) : ab_wd X Y d l n x y - ab_wd X Y d l n (x - 1) y = ab_E X Y d l (ab_dv x y) n := by
  unfold ab_wd
  rw [← ab_E_sub]
  refine ab_E_congr (fun j a _ _ => ?_)
  unfold ab_vc ab_dv
  (repeat' split) <;> omega
theorem ab_wh_dh (x y : Int) : ab_wh X Y d l n x y - ab_wh X Y d l n x (y - 1) = ab_E X Y d l (ab_dh x y) n := by
  unfold ab_wh
  rw [← ab_E_sub]
  refine ab_E_congr (fun j a _ _ => ?_)
  unfold ab_hc ab_dh
  (repeat' split) <;> omega
/-- two unit steps that begin at one corner are one -/
theorem ab_inj (hW : ab_W X Y n d l True) {i j a b : Nat} (hi : i < n) (hj : j < n) (ha : a < (l i).toNat) (hb : b < (l j).toNat) (hx : ab_cx X d l i a = ab_cx X d l j b) (hy : ab_cy Y d l i a = ab_cy Y d l j b) : i = j ∧ a = b := by
  obtain ⟨w1, w2, w3, w4, w5⟩ := hW
  obtain ⟨n1, e1, e2⟩ := w5 trivial
  -- each beginning is the end of a step
  have key : ∀ (i a : Nat), i < n → a < (l i).toNat → ∃ (k : Nat) (c : Int), k < n ∧ 1 ≤ c ∧ c ≤ l k ∧ ab_cx X d l k c = ab_cx X d l i a ∧ ab_cy Y d l k c = ab_cy Y d l i a ∧ ((1 ≤ a ∧ k = i ∧ c = a) ∨ (a = 0 ∧ 1 ≤ i ∧ k + 1 = i ∧ c = l k) ∨ (a = 0 ∧ i = 0 ∧ k + 1 = n ∧ c = l k)) := by
    intro i a hi ha
    by_cases ha0 : a = 0
    · subst ha0
      rw [Int.natCast_zero, ab_cx_0, ab_cy_0]
      by_cases hi0 : i = 0
      · subst hi0
        obtain ⟨m, rfl⟩ : ∃ m, n = m + 1 := ⟨n - 1, by omega⟩
        have := w1 m (by omega)
        exact ⟨m, l m, by omega, by omega, Int.le_refl _, e1, e2, Or.inr (Or.inr ⟨rfl, rfl, rfl, rfl⟩)⟩
      · obtain ⟨m, rfl⟩ : ∃ m, i = m + 1 := ⟨i - 1, by omega⟩
        have := w1 m (by omega)
        exact ⟨m, l m, by omega, by omega, Int.le_refl _, rfl, rfl, Or.inr (Or.inl ⟨rfl, by omega, rfl, rfl⟩)⟩
    · exact ⟨i, a, hi, by omega, by omega, rfl, rfl, Or.inl ⟨by omega, rfl, rfl⟩⟩
  obtain ⟨k1, c1, p1, p2, p3, p4, p5, p6⟩ := key i a hi ha
  obtain ⟨k2, c2, r1, r2, r3, r4, r5, r6⟩ := key j b hj hb
  obtain ⟨rfl, rfl⟩ := w3 k1 k2 c1 c2 p1 r1 p2 p3 r2 r3 (by rw [p4, r4, hx]) (by rw [p5, r5, hy])
  have l1 := w1 k1 p1
  rcases p6 with ⟨u1, u2, u3⟩ | ⟨u1, u2, u3, u4⟩ | ⟨u1, u2, u3, u4⟩ <;> rcases r6 with ⟨v1, v2, v3⟩ | ⟨v1, v2, v3, v4⟩ | ⟨v1, v2, v3, v4⟩ <;> (try subst u2) <;> (try subst v2) <;> (first | omega | skip)
/-- what begins where a step ends is the next one -/
theorem ab_next (hW : ab_W X Y n d l True) {i j a b : Nat} (hi : i < n) (hj : j < n) (ha : a < (l i).toNat) (hb : b < (l j).toNat) (hx : ab_cx X d l j b + ab_sx (d j) = ab_cx X d l i a) (hy : ab_cy Y d l j b + ab_sy (d j) = ab_cy Y d l i a) : (i = j ∧ a = b + 1) ∨ (i = j + 1 ∧ a = 0 ∧ b + 1 = (l j).toNat) ∨ (j + 1 = n ∧ i = 0 ∧ a = 0 ∧ b + 1 = (l j).toNat) := by
  have w1 := hW.1
  obtain ⟨n1, e1, e2⟩ := hW.2.2.2.2 trivial
  rw [← ab_cx_s] at hx
  rw [← ab_cy_s] at hy
  by_cases h : b + 1 < (l j).toNat
  · have h2 := ab_inj hW hi hj ha h (by rw [← hx, Int.natCast_add, Int.natCast_one]) (by rw [← hy, Int.natCast_add, Int.natCast_one])
    exact Or.inl h2
  · have h3 : (b : Int) + 1 = l j := by omega
    rw [h3, ab_cx_e] at hx
    rw [h3, ab_cy_e] at hy
    by_cases hjn : j + 1 < n
    · have := w1 (j + 1) hjn
      have h2 := ab_inj (b := 0) hW hi hjn ha (by omega) (by rw [← hx, Int.natCast_zero, ab_cx_0]) (by rw [← hy, Int.natCast_zero, ab_cy_0])
      exact Or.inr (Or.inl ⟨h2.1, h2.2, by omega⟩)
    · have hjn2 : j + 1 = n := by omega
      rw [hjn2, e1] at hx
      rw [hjn2, e2] at hy
      have := w1 0 (by omega)
      have h2 := ab_inj (b := 0) hW hi (show 0 < n by omega) ha (by omega) (by rw [← hx, Int.natCast_zero, ab_cx_0]; rfl) (by rw [← hy, Int.natCast_zero, ab_cy_0]; rfl)
      exact Or.inr (Or.inr ⟨hjn2, h2.1, h2.2, by omega⟩)
/-- no step goes back over the one before -/
theorem ab_noback (hW : ab_W X Y n d l True) {i j a b : Nat} (hi : i < n) (hj : j < n) (ha : a < (l i).toNat) (hb : b < (l j).toNat) (hd : d i ≠ d j) (hx : ab_cx X d l j b + ab_sx (d j) = ab_cx X d l i a) (hy : ab_cy Y d l j b + ab_sy (d j) = ab_cy Y d l i a) (hx2 : ab_cx X d l i a + ab_sx (d i) = ab_cx X d l j b) (hy2 : ab_cy Y d l i a + ab_sy (d i) = ab_cy Y d l j b) : False := by
  obtain ⟨n1, -⟩ := hW.2.2.2.2 trivial
  rcases ab_next hW hi hj ha hb hx hy with ⟨rfl, h1⟩ | ⟨h1, h2, h3⟩ | ⟨h1, h2, h3, h4⟩
  · exact hd rfl
  · rcases ab_next hW hj hi hb ha hx2 hy2 with ⟨rfl, g1⟩ | ⟨g1, g2, g3⟩ | ⟨g1, g2, g3, g4⟩
    · exact hd rfl
    · omega
    · omega
  · rcases ab_next hW hj hi hb ha hx2 hy2 with ⟨rfl, g1⟩ | ⟨g1, g2, g3⟩ | ⟨g1, g2, g3, g4⟩
    · exact hd rfl
    · omega
    · omega
theorem ab_dv_ne {x y cx cy e : Int} (h : ab_dv x y cx cy e ≠ 0) : (e = 2 ∧ cx = x ∧ cy = y ∧ ab_dv x y cx cy e = 1) ∨ (e = 0 ∧ cx = x ∧ cy = y + 1 ∧ ab_dv x y cx cy e = -1) := by
  unfold ab_dv at h ⊢
  (repeat' split at h) <;> (repeat' split) <;> omega
theorem ab_dh_ne {x y cx cy e : Int} (h : ab_dh x y cx cy e ≠ 0) : (e = 1 ∧ cx = x ∧ cy = y ∧ ab_dh x y cx cy e = -1) ∨ (e = 3 ∧ cx = x + 1 ∧ cy = y ∧ ab_dh x y cx cy e = 1) := by
  unfold ab_dh at h ⊢
  (repeat' split at h) <;> (repeat' split) <;> omega
/-- a side that a step takes is taken by no other -/
theorem ab_used_v (hW : ab_W X Y n d l True) {j a : Nat} (hj : j < n) (ha : a < (l j).toNat) {x y : Int} (h : ab_dv x y (ab_cx X d l j a) (ab_cy Y d l j a) (d j) ≠ 0) : ab_wd X Y d l n x y - ab_wd X Y d l n (x - 1) y = ab_dv x y (ab_cx X d l j a) (ab_cy Y d l j a) (d j) := by
  rw [ab_wd_dv]
  refine ab_E_one hj ha (fun i b hi hb hne => Decidable.byContradiction (fun h2 => ?_))
  rcases ab_dv_ne h with ⟨p1, p2, p3, -⟩ | ⟨p1, p2, p3, -⟩ <;> rcases ab_dv_ne h2 with ⟨q1, q2, q3, -⟩ | ⟨q1, q2, q3, -⟩
  · have := ab_inj hW hi hj hb ha (by omega) (by omega); omega
  · exact ab_noback hW hi hj hb ha (by omega) (by rw [p1, show ab_sx 2 = 0 from rfl]; omega) (by rw [p1, show ab_sy 2 = 1 from rfl]; omega) (by rw [q1, show ab_sx 0 = 0 from rfl]; omega) (by rw [q1, show ab_sy 0 = -1 from rfl]; omega)
  · exact ab_noback hW hi hj hb ha (by omega) (by rw [p1, show ab_sx 0 = 0 from rfl]; omega) (by rw [p1, show ab_sy 0 = -1 from rfl]; omega) (by rw [q1, show ab_sx 2 = 0 from rfl]; omega) (by rw [q1, show ab_sy 2 = 1 from rfl]; omega)
  · have := ab_inj hW hi hj hb ha (by omega) (by omega); omega
theorem ab_used_h (hW : ab_W X Y n d l True) {j a : Nat} (hj : j < n) (ha : a < (l j).toNat) {x y : Int} (h : ab_dh x y (ab_cx X d l j a) (ab_cy Y d l j a) (d j) ≠ 0) : ab_wd X Y d l n x y - ab_wd X Y d l n x (y - 1) = ab_dh x y (ab_cx X d l j a) (ab_cy Y d l j a) (d j) := by
  rw [ab_wd_wh hW, ab_wd_wh hW, ab_wh_dh]
  refine ab_E_one hj ha (fun i b hi hb hne => Decidable.byContradiction (fun h2 => ?_))
  rcases ab_dh_ne h with ⟨p1, p2, p3, -⟩ | ⟨p1, p2, p3, -⟩ <;> rcases ab_dh_ne h2 with ⟨q1, q2, q3, -⟩ | ⟨q1, q2, q3, -⟩
  · have := ab_inj hW hi hj hb ha (by omega) (by omega); omega
  · exact ab_noback hW hi hj hb ha (by omega) (by rw [p1, show ab_sx 1 = 1 from rfl]; omega) (by rw [p1, show ab_sy 1 = 0 from rfl]; omega) (by rw [q1, show ab_sx 3 = -1 from rfl]; omega) (by rw [q1, show ab_sy 3 = 0 from rfl]; omega)
  · exact ab_noback hW hi hj hb ha (by omega) (by rw [p1, show ab_sx 3 = -1 from rfl]; omega) (by rw [p1, show ab_sy 3 = 0 from rfl]; omega) (by rw [q1, show ab_sx 1 = 1 from rfl]; omega) (by rw [q1, show ab_sy 1 = 0 from rfl]; omega)
  · have := ab_inj hW hi hj hb ha (by omega) (by omega); omega
/-- the cell to the left of a step, and the one to its right -/
def ab_lx (x e : Int) : Int := if e = 0 ∨ e = 3 then x - 1 else x
def ab_ly (y e : Int) : Int := if e = 0 ∨ e = 1 then y - 1 else y
def ab_rx (x e : Int) : Int := if e = 2 ∨ e = 3 then x - 1 else x
def ab_ry (y e : Int) : Int := if e = 0 ∨ e = 3 then y - 1 else y
theorem ab_left_right (hW : ab_W X Y n d l True) {j a : Nat} (hj : j < n) (ha : a < (l j).toNat) : ab_wd X Y d l n (ab_lx (ab_cx X d l j a) (d j)) (ab_ly (ab_cy Y d l j a) (d j)) = ab_wd X Y d l n (ab_rx (ab_cx X d l j a) (d j)) (ab_ry (ab_cy Y d l j a) (d j)) + 1 := by
  have w1 := hW.1 j hj
  generalize hcx : ab_cx X d l j a = cx
  generalize hcy : ab_cy Y d l j a = cy
  rcases ab_dir w1.1 w1.2.1 with h | h | h | h
  · have h1 := ab_used_v hW hj ha (x := cx) (y := cy - 1) (by rw [h, hcx, hcy]; simp [ab_dv])
    rw [h, hcx, hcy] at h1
    rw [h]
    simp only [ab_dv, ab_lx, ab_ly, ab_rx, ab_ry] at h1 ⊢
    simp at h1 ⊢
    omega
  · have h1 := ab_used_h hW hj ha (x := cx) (y := cy) (by rw [h, hcx, hcy]; simp [ab_dh])
    rw [h, hcx, hcy] at h1
    rw [h]
    simp only [ab_dh, ab_lx, ab_ly, ab_rx, ab_ry] at h1 ⊢
    simp at h1 ⊢
    omega
  · have h1 := ab_used_v hW hj ha (x := cx) (y := cy) (by rw [h, hcx, hcy]; simp [ab_dv])
    rw [h, hcx, hcy] at h1
    rw [h]
    simp only [ab_dv, ab_lx, ab_ly, ab_rx, ab_ry] at h1 ⊢
    simp at h1 ⊢
    omega
  · have h1 := ab_used_h hW hj ha (x := cx - 1) (y := cy) (by rw [h, hcx, hcy]; simp [ab_dh])
    rw [h, hcx, hcy] at h1
    rw [h]
    simp only [ab_dh, ab_lx, ab_ly, ab_rx, ab_ry] at h1 ⊢
    simp at h1 ⊢
    omega
theorem ab_inN {ux uy e : Int} (h : e ≠ 2) : ab_dv (ux + ab_sx e) (uy + ab_sy e - 1) ux uy e = 0 := by
  unfold ab_dv ab_sx ab_sy
  (repeat' split) <;> omega
theorem ab_inS {ux uy e : Int} (h : e ≠ 0) : ab_dv (ux + ab_sx e) (uy + ab_sy e) ux uy e = 0 := by
  unfold ab_dv ab_sx ab_sy
  (repeat' split) <;> omega
theorem ab_inE {ux uy e : Int} (h : e ≠ 3) : ab_dh (ux + ab_sx e) (uy + ab_sy e) ux uy e = 0 := by
  unfold ab_dh ab_sx ab_sy
  (repeat' split) <;> omega
theorem ab_inW {ux uy e : Int} (h : e ≠ 1) : ab_dh (ux + ab_sx e - 1) (uy + ab_sy e) ux uy e = 0 := by
  unfold ab_dh ab_sx ab_sy
  (repeat' split) <;> omega
theorem ab_outN {vx vy e : Int} (h : e ≠ 0) : ab_dv vx (vy - 1) vx vy e = 0 := by
  unfold ab_dv
  (repeat' split) <;> omega
theorem ab_outS {vx vy e : Int} (h : e ≠ 2) : ab_dv vx vy vx vy e = 0 := by
  unfold ab_dv
  (repeat' split) <;> omega
theorem ab_outE {vx vy e : Int} (h : e ≠ 1) : ab_dh vx vy vx vy e = 0 := by
  unfold ab_dh
  (repeat' split) <;> omega
theorem ab_outW {vx vy e : Int} (h : e ≠ 3) : ab_dh (vx - 1) vy vx vy e = 0 := by
  unfold ab_dh
  (repeat' split) <;> omega
/-- from a step to the one behind it: the cells to the left are wound about alike -/
theorem ab_left_next (hW : ab_W X Y n d l True) {j a i b : Nat} (hj : j < n) (ha : a < (l j).toNat) (hi : i < n) (hb : b < (l i).toNat) (hn : (i = j ∧ b = a + 1) ∨ (i = j + 1 ∧ b = 0 ∧ a + 1 = (l j).toNat)) (hx : ab_cx X d l j a + ab_sx (d j) = ab_cx X d l i b) (hy : ab_cy Y d l j a + ab_sy (d j) = ab_cy Y d l i b) : ab_wd X Y d l n (ab_lx (ab_cx X d l j a) (d j)) (ab_ly (ab_cy Y d l j a) (d j)) = ab_wd X Y d l n (ab_lx (ab_cx X d l i b) (d i)) (ab_ly (ab_cy Y d l i b) (d i)) := by
  have w1 := hW.1 j hj
  have w2 := hW.1 i hi
  obtain ⟨n1, -⟩ := hW.2.2.2.2 trivial
  -- a step at this corner is one of the two
  have key : ∀ (k c : Nat), k < n → c < (l k).toNat → ((ab_cx X d l k c = ab_cx X d l i b ∧ ab_cy Y d l k c = ab_cy Y d l i b) ∨ (ab_cx X d l k c + ab_sx (d k) = ab_cx X d l i b ∧ ab_cy Y d l k c + ab_sy (d k) = ab_cy Y d l i b)) → (k = i ∧ c = b) ∨ (k = j ∧ c = a) := by
    intro k c hk hc h
    rcases h with ⟨h1, h2⟩ | ⟨h1, h2⟩
    · exact Or.inl (ab_inj hW hk hi hc hb h1 h2)
    · rcases hn with ⟨m1, m2⟩ | ⟨m1, m2, m3⟩ <;> rcases ab_next hW hi hk hb hc h1 h2 with ⟨p1, p2⟩ | ⟨p1, p2, p3⟩ | ⟨p1, p2, p3, p4⟩ <;> first | (exfalso; omega) | (have hkj : k = j := (by omega); subst hkj; exact Or.inr ⟨rfl, by omega⟩)
  have hnb : d i ≠ d j → ¬ (ab_cx X d l i b + ab_sx (d i) = ab_cx X d l j a ∧ ab_cy Y d l i b + ab_sy (d i) = ab_cy Y d l j a) := fun h1 h2 => ab_noback hW hi hj hb ha h1 hx hy h2.1 h2.2
  have sv : ∀ y : Int, (y = ab_cy Y d l i b ∨ y + 1 = ab_cy Y d l i b) → ab_dv (ab_cx X d l i b) y (ab_cx X d l j a) (ab_cy Y d l j a) (d j) = 0 → ab_dv (ab_cx X d l i b) y (ab_cx X d l i b) (ab_cy Y d l i b) (d i) = 0 → ab_wd X Y d l n (ab_cx X d l i b) y = ab_wd X Y d l n (ab_cx X d l i b - 1) y := by
    intro y hy0 h1 h2
    have h3 := ab_wd_dv (X := X) (Y := Y) (d := d) (l := l) (n := n) (ab_cx X d l i b) y
    rw [ab_E_zero (fun k c hk hc => Decidable.byContradiction (fun h4 => ?_))] at h3
    · omega
    · rcases ab_dv_ne h4 with ⟨p1, p2, p3, -⟩ | ⟨p1, p2, p3, -⟩
      · have h5 := key k c hk hc (by rw [p1, show ab_sx 2 = 0 from rfl, show ab_sy 2 = 1 from rfl]; omega)
        rcases h5 with ⟨rfl, rfl⟩ | ⟨rfl, rfl⟩
        · exact h4 h2
        · exact h4 h1
      · have h5 := key k c hk hc (by rw [p1, show ab_sx 0 = 0 from rfl, show ab_sy 0 = -1 from rfl]; omega)
        rcases h5 with ⟨rfl, rfl⟩ | ⟨rfl, rfl⟩
        · exact h4 h2
        · exact h4 h1
  have sh : ∀ x : Int, (x = ab_cx X d l i b ∨ x + 1 = ab_cx X d l i b) → ab_dh x (ab_cy Y d l i b) (ab_cx X d l j a) (ab_cy Y d l j a) (d j) = 0 → ab_dh x (ab_cy Y d l i b) (ab_cx X d l i b) (ab_cy Y d l i b) (d i) = 0 → ab_wd X Y d l n x (ab_cy Y d l i b) = ab_wd X Y d l n x (ab_cy Y d l i b - 1) := by
    intro x hx0 h1 h2
    have h3 := ab_wh_dh (X := X) (Y := Y) (d := d) (l := l) (n := n) x (ab_cy Y d l i b)
    rw [← ab_wd_wh hW, ← ab_wd_wh hW, ab_E_zero (fun k c hk hc => Decidable.byContradiction (fun h4 => ?_))] at h3
    · omega
    · rcases ab_dh_ne h4 with ⟨p1, p2, p3, -⟩ | ⟨p1, p2, p3, -⟩
      · have h5 := key k c hk hc (by rw [p1, show ab_sx 1 = 1 from rfl, show ab_sy 1 = 0 from rfl]; omega)
        rcases h5 with ⟨rfl, rfl⟩ | ⟨rfl, rfl⟩
        · exact h4 h2
        · exact h4 h1
      · have h5 := key k c hk hc (by rw [p1, show ab_sx 3 = -1 from rfl, show ab_sy 3 = 0 from rfl]; omega)
        rcases h5 with ⟨rfl, rfl⟩ | ⟨rfl, rfl⟩
        · exact h4 h2
        · exact h4 h1
  generalize ab_cx X d l i b = vx at *
  generalize ab_cy Y d l i b = vy at *
  generalize ab_cx X d l j a = ux at *
  generalize ab_cy Y d l j a = uy at *
  have hN : d j ≠ 2 → d i ≠ 0 → ab_wd X Y d l n vx (vy - 1) = ab_wd X Y d l n (vx - 1) (vy - 1) := fun a b => sv (vy - 1) (Or.inr (by omega)) (by rw [← hx, ← hy]; exact ab_inN a) (ab_outN b)
  have hS : d j ≠ 0 → d i ≠ 2 → ab_wd X Y d l n vx vy = ab_wd X Y d l n (vx - 1) vy := fun a b => sv vy (Or.inl rfl) (by rw [← hx, ← hy]; exact ab_inS a) (ab_outS b)
  have hE : d j ≠ 3 → d i ≠ 1 → ab_wd X Y d l n vx vy = ab_wd X Y d l n vx (vy - 1) := fun a b => sh vx (Or.inl rfl) (by rw [← hx, ← hy]; exact ab_inE a) (ab_outE b)
  have hWt : d j ≠ 1 → d i ≠ 3 → ab_wd X Y d l n (vx - 1) vy = ab_wd X Y d l n (vx - 1) (vy - 1) := fun a b => sh (vx - 1) (Or.inr (by omega)) (by rw [← hx, ← hy]; exact ab_inW a) (ab_outW b)
  clear sv sh key
  rcases ab_dir w1.1 w1.2.1 with h | h | h | h
  · have a1 : ab_lx ux (d j) = vx - 1 := by rw [h] at hx ⊢; simp [ab_lx, ab_sx] at *; omega
    have a2 : ab_ly uy (d j) = vy := by rw [h] at hy ⊢; simp [ab_ly, ab_sy] at *; omega
    rw [a1, a2]
    rcases ab_dir w2.1 w2.2.1 with g | g | g | g
    · rw [g]
      show ab_wd X Y d l n (vx - 1) vy = ab_wd X Y d l n (vx - 1) (vy - 1)
      exact (hWt (by omega) (by omega))
    · rw [g]
      show ab_wd X Y d l n (vx - 1) vy = ab_wd X Y d l n vx (vy - 1)
      exact ((hWt (by omega) (by omega))).trans (hN (by omega) (by omega)).symm
    · rw [g]
      refine (hnb (by omega) ?_).elim
      rw [h] at hx hy
      rw [g]
      simp [ab_sx, ab_sy] at *
      omega
    · rw [g]
      show ab_wd X Y d l n (vx - 1) vy = ab_wd X Y d l n (vx - 1) vy
      rfl
  · have a1 : ab_lx ux (d j) = vx - 1 := by rw [h] at hx ⊢; simp [ab_lx, ab_sx] at *; omega
    have a2 : ab_ly uy (d j) = vy - 1 := by rw [h] at hy ⊢; simp [ab_ly, ab_sy] at *; omega
    rw [a1, a2]
    rcases ab_dir w2.1 w2.2.1 with g | g | g | g
    · rw [g]
      show ab_wd X Y d l n (vx - 1) (vy - 1) = ab_wd X Y d l n (vx - 1) (vy - 1)
      rfl
    · rw [g]
      show ab_wd X Y d l n (vx - 1) (vy - 1) = ab_wd X Y d l n vx (vy - 1)
      exact (hN (by omega) (by omega)).symm
    · rw [g]
      show ab_wd X Y d l n (vx - 1) (vy - 1) = ab_wd X Y d l n vx vy
      exact ((hN (by omega) (by omega)).symm).trans (hE (by omega) (by omega)).symm
    · rw [g]
      refine (hnb (by omega) ?_).elim
      rw [h] at hx hy
      rw [g]
      simp [ab_sx, ab_sy] at *
      omega
  · have a1 : ab_lx ux (d j) = vx := by rw [h] at hx ⊢; simp [ab_lx, ab_sx] at *; omega
    have a2 : ab_ly uy (d j) = vy - 1 := by rw [h] at hy ⊢; simp [ab_ly, ab_sy] at *; omega
    rw [a1, a2]
    rcases ab_dir w2.1 w2.2.1 with g | g | g | g
    · rw [g]
      refine (hnb (by omega) ?_).elim
      rw [h] at hx hy
      rw [g]
      simp [ab_sx, ab_sy] at *
      omega
    · rw [g]
      show ab_wd X Y d l n vx (vy - 1) = ab_wd X Y d l n vx (vy - 1)
      rfl
    · rw [g]
      show ab_wd X Y d l n vx (vy - 1) = ab_wd X Y d l n vx vy
      exact (hE (by omega) (by omega)).symm
    · rw [g]
      show ab_wd X Y d l n vx (vy - 1) = ab_wd X Y d l n (vx - 1) vy
      exact ((hE (by omega) (by omega)).symm).trans (hS (by omega) (by omega))
  · have a1 : ab_lx ux (d j) = vx := by rw [h] at hx ⊢; simp [ab_lx, ab_sx] at *; omega
    have a2 : ab_ly uy (d j) = vy := by rw [h] at hy ⊢; simp [ab_ly, ab_sy] at *; omega
    rw [a1, a2]
    rcases ab_dir w2.1 w2.2.1 with g | g | g | g
    · rw [g]
      show ab_wd X Y d l n vx vy = ab_wd X Y d l n (vx - 1) (vy - 1)
      exact ((hS (by omega) (by omega))).trans (hWt (by omega) (by omega))
    · rw [g]
      refine (hnb (by omega) ?_).elim
      rw [h] at hx hy
      rw [g]
      simp [ab_sx, ab_sy] at *
      omega
    · rw [g]
      show ab_wd X Y d l n vx vy = ab_wd X Y d l n vx vy
      rfl
    · rw [g]
      show ab_wd X Y d l n vx vy = ab_wd X Y d l n (vx - 1) vy
      exact (hS (by omega) (by omega))
end
