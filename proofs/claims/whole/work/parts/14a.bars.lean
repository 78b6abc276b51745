/-! corners that bar a way -/
section
variable {σ : q_S} {D : Nat → Int} {B : Int}
/-- the reason for which a corner bars a way, with its detail; 0: it doesn't -/
def ab_br (D : Nat → Int) (x y : Int) (tk : Bool) (g : Int) : Int × Int :=
  if (0 ≤ x ∧ x ≤ 12) ∧ (0 ≤ y ∧ y ≤ 8) then (if tk = true then (8, g) else if 0 ≤ ab_find D x y ∧ ab_lt D (ab_find D x y).toNat = 0 then (9, ab_find D x y) else (0, 0)) else (7, g)
theorem ab_br0 {x y : Int} {tk : Bool} {g : Int} (h : (ab_br D x y tk g).1 = 0) : (0 ≤ x ∧ x ≤ 12) ∧ (0 ≤ y ∧ y ≤ 8) ∧ tk = false := by
  unfold ab_br at h
  by_cases q : (0 ≤ x ∧ x ≤ 12) ∧ (0 ≤ y ∧ y ≤ 8)
  · rw [if_pos q] at h
    refine ⟨q.1, q.2, ?_⟩
    cases tk
    · rfl
    · rw [if_pos rfl] at h
      exact absurd h (show ¬ (8 : Int) = 0 by decide)
  · rw [if_neg q] at h
    exact absurd h (show ¬ (7 : Int) = 0 by decide)
theorem ab_isCornerI {x y : Int} (hx0 : -1000 ≤ x) (hx1 : x ≤ 1000) (hy0 : -1000 ≤ y) (hy1 : y ≤ 1000) : f_X9_isCorner (ab_I x) (ab_I y) = if (0 ≤ x ∧ x ≤ 12) ∧ (0 ≤ y ∧ y ≤ 8) then 1 else 0 := by
  unfold f_X9_isCorner
  rw [show f_X9_isFrom (ab_I x) 0 12 = _ from ab_isFrom (a := x) (b := 0) (c := 12) (by omega) (by omega) (by omega) (by omega) (by omega) (by omega), show f_X9_isFrom (ab_I y) 0 8 = _ from ab_isFrom (a := y) (b := 0) (c := 8) (by omega) (by omega) (by omega) (by omega) (by omega) (by omega)]
  by_cases q : 0 ≤ x ∧ x ≤ 12
  · by_cases q2 : 0 ≤ y ∧ y ≤ 8
    · rw [if_pos q, if_pos q2, if_neg (show ¬ ab_I 1 = 0 by decide), if_neg (show ¬ ab_I 1 = 0 by decide), if_pos (show (0 ≤ x ∧ x ≤ 12) ∧ (0 ≤ y ∧ y ≤ 8) from ⟨q, q2⟩)]
    · rw [if_pos q, if_neg q2, if_neg (show ¬ ab_I 1 = 0 by decide), if_pos (show ab_I 0 = 0 from rfl), if_neg (fun z : (0 ≤ x ∧ x ≤ 12) ∧ (0 ≤ y ∧ y ≤ 8) => q2 z.2)]
  · rw [if_neg q, if_pos (show ab_I 0 = 0 from rfl), if_neg (fun z : (0 ≤ x ∧ x ≤ 12) ∧ (0 ≤ y ∧ y ≤ 8) => q z.1)]
theorem ab_barC (hC : ab_CR σ 2 D) (hW : ab_WD B D) (hB : B ≤ 1000000000) {x y : Int} (hx0 : -1000 ≤ x) (hx1 : x ≤ 1000) (hy0 : -1000 ≤ y) (hy1 : y ≤ 1000) (tk : Bool) (g : Int) : f_X8_isBarred σ (ab_I x) (ab_I y) (ab_I g) (ab_I (ab_b tk)) = some (if (ab_br D x y tk g).1 = 0 then (0, σ) else (1, (f_X7_refuse σ (ab_I (ab_br D x y tk g).1) (ab_I (ab_br D x y tk g).2)).2)) := by
  unfold f_X8_isBarred ab_br
  rw [ab_isCornerI hx0 hx1 hy0 hy1]
  by_cases q : (0 ≤ x ∧ x ≤ 12) ∧ (0 ≤ y ∧ y ≤ 8)
  · rw [if_pos q, if_pos q, if_neg (show ¬ (1 : Int32) = 0 by decide)]
    cases tk
    · rw [if_pos (show ab_I (ab_b false) = 0 from rfl), show f_X5_findAt σ 8 (ab_I x) (ab_I y) = _ from ab_findAt hC hW hx0 hx1 hy0 hy1, Option.bind_some, if_neg (show ¬ false = true by decide)]
      rcases ab_find_b hW x y with hf | ⟨p, hp, hp8, hf⟩
      · rw [hf, if_pos (show ab_I (-1) = -1 from rfl), if_neg (fun h : 0 ≤ (-1 : Int) ∧ _ => absurd h.1 (by decide))]
        rfl
      · have b := ab_lt_b hW hp
        rw [hf, if_neg (by rw [show (-1 : Int32) = ab_I (-1) from rfl, ab_Ieq (by omega) (by omega) (by omega) (by omega)]; omega), show σ 2 5 = _ from hC.2.2.1, show f_X5_hoursUntilLit σ 8 (ab_I p) (ab_I (D 2)) = _ from ab_until hC hW hB hp hp8, Option.bind_some, Int.toNat_natCast]
        by_cases z : ab_lt D p = 0
        · rw [if_pos (show ab_I (ab_lt D p) = 0 by rw [z]; rfl), if_pos (show 0 ≤ (p : Int) ∧ ab_lt D p = 0 from ⟨by omega, z⟩)]
          rfl
        · rw [if_neg (by rw [show (0 : Int32) = ab_I 0 from rfl, ab_Ieq (by omega) (by omega) (by omega) (by omega)]; exact z), if_neg (fun h : 0 ≤ (p : Int) ∧ ab_lt D p = 0 => z h.2)]
          rfl
    · rw [if_neg (show ¬ ab_I (ab_b true) = 0 by decide), if_pos (show true = true from rfl)]
      rfl
  · rw [if_neg q, if_neg q, if_pos (show (0 : Int32) = 0 from rfl)]
    rfl
theorem ab_bar48 (hM : ab_MR σ 293 0 D) (hW : ab_WD B D) (hB : B ≤ 1000000000) {x y : Int} (hx0 : -1000 ≤ x) (hx1 : x ≤ 1000) (hy0 : -1000 ≤ y) (hy1 : y ≤ 1000) : f_X10_isBarred_48 (ab_I x) (ab_I y) σ = some (if 0 ≤ ab_find D x y ∧ ab_lt D (ab_find D x y).toNat = 0 then (1, (f_X10_isBad σ 9 (ab_I (ab_find D x y))).2) else (0, σ)) := by
  unfold f_X10_isBarred_48
  rw [ab_pegAt hM hW hx0 hx1 hy0 hy1, Option.bind_some]
  rcases ab_find_b hW x y with hf | ⟨p, hp, hp8, hf⟩
  · rw [hf, if_pos (show ab_I (-1) < 0 by decide), if_neg (fun h : 0 ≤ (-1 : Int) ∧ _ => absurd h.1 (by decide))]
  · rw [hf, if_neg (by rw [show (0 : Int32) = ab_I 0 from rfl, ab_Ilt (by omega) (by omega) (by omega) (by omega)]; omega), ab_isLit hM hW hB hp hp8, Option.bind_some, Int.toNat_natCast]
    by_cases z : ab_lt D p = 0
    · rw [if_pos z, if_neg (show ¬ ab_I 1 = 0 by decide), if_pos (show 0 ≤ (p : Int) ∧ ab_lt D p = 0 from ⟨by omega, z⟩), if_neg (show ¬ (f_X10_isBad σ 9 (ab_I p)).1 = 0 from (show ¬ (1 : Int32) = 0 by decide))]
    · rw [if_neg z, if_pos (show ab_I 0 = 0 from rfl), if_neg (fun h : 0 ≤ (p : Int) ∧ ab_lt D p = 0 => z h.2)]
/-- the flags tell what M says -/
def ab_fl (σ : q_S) (M : Int → Int → Prop) : Prop := ∀ x y : Nat, x < 13 → y < 9 → (σ 297 (13 * y + x) = 1 ∧ M x y) ∨ (σ 297 (13 * y + x) = 0 ∧ ¬ M x y)
theorem ab_barR {M : Int → Int → Prop} (hF : ab_fl σ M) (hM : ab_MR σ 293 0 D) (hW : ab_WD B D) (hB : B ≤ 1000000000) {x y : Int} (hx0 : -1000 ≤ x) (hx1 : x ≤ 1000) (hy0 : -1000 ≤ y) (hy1 : y ≤ 1000) (tk : Bool) {g : Int} (h17 : σ 292 17 = ab_I g) {a : Int32} (ht : (0 ≤ x ∧ x ≤ 12) ∧ (0 ≤ y ∧ y ≤ 8) → (tk = true ↔ M x y ∧ a = 0)) : f_X10_isBarred σ (ab_I x) (ab_I y) a = some (if (ab_br D x y tk g).1 = 0 then (0, σ) else (1, (f_X10_isBad σ (ab_I (ab_br D x y tk g).1) (ab_I (ab_br D x y tk g).2)).2)) := by
  unfold f_X10_isBarred ab_br
  rw [ab_corner_eq, ab_isCornerI hx0 hx1 hy0 hy1]
  by_cases q : (0 ≤ x ∧ x ≤ 12) ∧ (0 ≤ y ∧ y ≤ 8)
  · have ht := ht q
    obtain ⟨u, hu⟩ : ∃ u : Nat, x = u := ⟨x.toNat, by omega⟩
    obtain ⟨v, hv⟩ : ∃ v : Nat, y = v := ⟨y.toNat, by omega⟩
    subst hu hv
    have e : (13 : Int32) * ab_I v + ab_I u = ab_I ((13 * v + u : Nat) : Int) := by
      rw [show (13 : Int32) = ab_I 13 from rfl, ab_Imul, ab_Iadd]
      exact congrArg ab_I (by omega)
    have b48 := ab_bar48 hM hW hB hx0 hx1 hy0 hy1
    rw [if_pos q, if_pos q, if_neg (show ¬ (1 : Int32) = 0 by decide), e, ab_Icl (by omega) (by omega), Int.toNat_natCast, if_neg (by rw [ab_Iltc (by omega) (by omega)]; exact fun h => h.elim id (fun h => by omega))]
    have free : ¬ tk = true → f_X10_isBarred_48 (ab_I u) (ab_I v) σ = some (if (if tk = true then ((8 : Int), g) else if 0 ≤ ab_find D u v ∧ ab_lt D (ab_find D u v).toNat = 0 then (9, ab_find D u v) else (0, 0)).1 = 0 then (0, σ) else (1, (f_X10_isBad σ (ab_I (if tk = true then ((8 : Int), g) else if 0 ≤ ab_find D u v ∧ ab_lt D (ab_find D u v).toNat = 0 then (9, ab_find D u v) else (0, 0)).1) (ab_I (if tk = true then ((8 : Int), g) else if 0 ≤ ab_find D u v ∧ ab_lt D (ab_find D u v).toNat = 0 then (9, ab_find D u v) else (0, 0)).2)).2)) := fun nt => by
      rw [b48, if_neg nt]
      by_cases z : 0 ≤ ab_find D u v ∧ ab_lt D (ab_find D u v).toNat = 0
      · rw [if_pos z, if_pos z]
        rfl
      · rw [if_neg z, if_neg z]
        rfl
    rcases hF u v (by omega) (by omega) with ⟨f1, f2⟩ | ⟨f1, f2⟩
    · rw [f1, if_neg (show ¬ (1 : Int32) = 0 by decide)]
      by_cases z : a = 0
      · rw [if_pos z, if_pos (ht.mpr ⟨f2, z⟩), h17, if_pos (show (f_X10_isBad σ 8 (ab_I g)).1 = 0 ∨ (f_X10_isBad σ 8 (ab_I g)).1 = 1 from .inr rfl)]
        rfl
      · rw [if_neg z]
        exact free (fun h => z (ht.mp h).2)
    · rw [f1, if_pos (show (0 : Int32) = 0 from rfl)]
      exact free (fun h => f2 (ht.mp h).1)
  · rw [if_neg q, if_neg q, if_pos (show (0 : Int32) = 0 from rfl), h17, if_pos (show (f_X10_isBad σ 7 (ab_I g)).1 = 0 ∨ (f_X10_isBad σ 7 (ab_I g)).1 = 1 from .inr rfl)]
    rfl
/-- two walks that look at the same corners -/
theorem ab_walk {σ ρ : q_S} {N : Nat} {x y : Nat → Int} {tk : Nat → Bool} {fc fr : Nat → Nat → Option (Int32 × q_S)}
    (hc0 : ∀ f, fc (f + 1) N = some (0, σ)) (hcs : ∀ f g : Nat, g < N → fc (f + 1) g = if (ab_br D (x g) (y g) (tk g) g).1 = 0 then fc f (g + 1) else some (1, (f_X7_refuse σ (ab_I (ab_br D (x g) (y g) (tk g) g).1) (ab_I (ab_br D (x g) (y g) (tk g) g).2)).2))
    (hr0 : ∀ f, fr (f + 1) N = some (0, q_up ρ 292 17 (ab_I N))) (hrs : ∀ f g : Nat, g < N → fr (f + 1) g = if (ab_br D (x g) (y g) (tk g) g).1 = 0 then fr f (g + 1) else some (1, (f_X10_isBad (q_up ρ 292 17 (ab_I g)) (ab_I (ab_br D (x g) (y g) (tk g) g).1) (ab_I (ab_br D (x g) (y g) (tk g) g).2)).2)) :
    ∀ r k : Nat, k + r = N → ∀ f f2, r < f → r < f2 → (∃ (w m : Int) (g : Nat), (w = 7 ∨ w = 8 ∨ w = 9) ∧ fc f k = some (1, (f_X7_refuse σ (ab_I w) (ab_I m)).2) ∧ fr f2 k = some (1, (f_X10_isBad (q_up ρ 292 17 (ab_I g)) (ab_I w) (ab_I m)).2)) ∨
      (fc f k = some (0, σ) ∧ fr f2 k = some (0, q_up ρ 292 17 (ab_I N)) ∧ ∀ g, k ≤ g → g < N → (ab_br D (x g) (y g) (tk g) g).1 = 0) := by
  intro r
  induction r with
  | zero =>
    intro k hk f f2 hf hf2
    obtain ⟨f, rfl⟩ : ∃ g, f = g + 1 := ⟨f - 1, by omega⟩
    obtain ⟨f2, rfl⟩ : ∃ g, f2 = g + 1 := ⟨f2 - 1, by omega⟩
    rw [show k = N by omega]
    exact .inr ⟨hc0 f, hr0 f2, fun g h1 h2 => absurd h1 (by omega)⟩
  | succ r ih =>
    intro k hk f f2 hf hf2
    obtain ⟨f, rfl⟩ : ∃ g, f = g + 1 := ⟨f - 1, by omega⟩
    obtain ⟨f2, rfl⟩ : ∃ g, f2 = g + 1 := ⟨f2 - 1, by omega⟩
    rw [hcs f k (by omega), hrs f2 k (by omega)]
    by_cases q : (ab_br D (x k) (y k) (tk k) k).1 = 0
    · rw [if_pos q, if_pos q]
      rcases ih (k + 1) (by omega) f f2 (by omega) (by omega) with h | ⟨h1, h2, h3⟩
      · exact .inl h
      · refine .inr ⟨h1, h2, fun g g1 g2 => ?_⟩
        by_cases e : g = k
        · rw [e]; exact q
        · exact h3 g (by omega) g2
    · rw [if_neg q, if_neg q]
      refine .inl ⟨_, _, k, ?_, rfl, rfl⟩
      unfold ab_br at q ⊢
      (repeat' split) <;> simp_all
end
