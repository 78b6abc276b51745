/-! bending: what is written -/
theorem ab_u_eq {D : Nat → Int} {k j : Nat} {v : Int} (h : j = k) : ab_u D k v j = v := by subst h; exact ab_u_at
theorem ab_iw {k : Nat} : (5 : Int32) + 2 * ab_I k = ab_I ((5 + 2 * k : Nat) : Int) := by
  rw [show (5 : Int32) = ab_I 5 from rfl, show (2 : Int32) = ab_I 2 from rfl, ab_Imul, ab_Iadd]
  exact congrArg ab_I (by omega)
theorem ab_ip {x c : Nat} : ab_I (x : Int) + ab_I (c : Int) = ab_I ((x + c : Nat) : Int) := by
  rw [ab_Iadd]
  exact congrArg ab_I (by omega)
theorem ab_setChain {σ : q_S} {c i : Nat} {a b : Int32} (hi : i < 16) : f_X6_setChain σ c (ab_I i) a b = q_up (q_up σ (c + 1) i a) (c + 2) i b := by
  unfold f_X6_setChain
  rw [ab_put hi (by decide), ab_put hi (by decide)]
/-- the first program's rows of a plot whose chain k was replaced by three -/
def ab_Rp (σ υ : q_S) (c n k : Nat) (E F A Z O : Int32) : Prop :=
  (∀ j, j < k → υ (c + 1) j = σ (c + 1) j ∧ υ (c + 2) j = σ (c + 2) j) ∧ (υ (c + 1) k = E ∧ υ (c + 2) k = F) ∧ (υ (c + 1) (k + 1) = A ∧ υ (c + 2) (k + 1) = Z) ∧ (υ (c + 1) (k + 2) = O ∧ υ (c + 2) (k + 2) = F) ∧
  (∀ j, k < j → j < n → υ (c + 1) (j + 2) = σ (c + 1) j ∧ υ (c + 2) (j + 2) = σ (c + 2) j) ∧ (∀ j, j ≠ 6 → υ c j = σ c j) ∧ υ c 6 = σ c 6 + 2 ∧ ∀ c', (c' < c ∨ c + 3 ≤ c') → υ c' = σ c'
theorem ab_repl_lp {σ : q_S} {c n k : Nat} (hn : n ≤ 14) (hk : k < n) {e : Int} {F A Z : Int32} (he0 : 0 ≤ e) (he3 : e ≤ 3) : ∀ r m : Nat, m = k + r → m < n → ∀ fu, r < fu → ∀ τ : q_S, (∀ j, j ≤ m → τ (c + 1) j = σ (c + 1) j ∧ τ (c + 2) j = σ (c + 2) j) → (∀ j, m < j → j < n → τ (c + 1) (j + 2) = σ (c + 1) j ∧ τ (c + 2) (j + 2) = σ (c + 2) j) → (∀ c', c' ≠ c + 1 → c' ≠ c + 2 → τ c' = σ c') →
    ∃ υ, f_X6_replaceByThree_22 c fu (ab_I k) (ab_I e) F A Z (ab_I m) τ = some υ ∧ ab_Rp σ υ c n k (ab_I e) F A Z (ab_I (ab_op e)) := by
  intro r
  induction r with
  | zero =>
    intro m hm hmn fu hf τ t1 t2 t3
    obtain ⟨fu, rfl⟩ : ∃ g, fu = g + 1 := ⟨fu - 1, by omega⟩
    have hm : m = k := by omega
    rw [hm] at t1 t2 ⊢
    rw [f_X6_replaceByThree_22, if_pos (by rw [ab_Ile (by omega) (by omega) (by omega) (by omega)]; omega), ab_setChain (by omega), show ab_I (k : Int) + 1 = _ from ab_ip (c := 1), ab_setChain (by omega), show ab_I (k : Int) + 2 = _ from ab_ip (c := 2), ab_setChain (by omega), ab_opC he0 he3]
    refine ⟨_, rfl, ?_⟩
    have v0 : (q_up (q_up (q_up (q_up (q_up (q_up τ (c + 1) k (ab_I e)) (c + 2) k F) (c + 1) (k + 1) A) (c + 2) (k + 1) Z) (c + 1) (k + 2) (ab_I (ab_op e))) (c + 2) (k + 2) F) c = σ c := by
      rw [ab_up_ne (by omega), ab_up_ne (by omega), ab_up_ne (by omega), ab_up_ne (by omega), ab_up_ne (by omega), ab_up_ne (by omega), t3 c (by omega) (by omega)]
    have v1 : ∀ j, (q_up (q_up (q_up (q_up (q_up (q_up τ (c + 1) k (ab_I e)) (c + 2) k F) (c + 1) (k + 1) A) (c + 2) (k + 1) Z) (c + 1) (k + 2) (ab_I (ab_op e))) (c + 2) (k + 2) F) (c + 1) j = if j = k + 2 then ab_I (ab_op e) else if j = k + 1 then A else if j = k then ab_I e else τ (c + 1) j := fun j => by
      rw [ab_up_ne (by omega), ab_up, if_pos rfl, ab_up_ne (by omega), ab_up, if_pos rfl, ab_up_ne (by omega), ab_up, if_pos rfl]
    have v2 : ∀ j, (q_up (q_up (q_up (q_up (q_up (q_up τ (c + 1) k (ab_I e)) (c + 2) k F) (c + 1) (k + 1) A) (c + 2) (k + 1) Z) (c + 1) (k + 2) (ab_I (ab_op e))) (c + 2) (k + 2) F) (c + 2) j = if j = k + 2 then F else if j = k + 1 then Z else if j = k then F else τ (c + 2) j := fun j => by
      rw [ab_up, if_pos rfl, ab_up_ne (by omega), ab_up, if_pos rfl, ab_up_ne (by omega), ab_up, if_pos rfl, ab_up_ne (by omega)]
    have v3 : ∀ c', c' ≠ c + 1 → c' ≠ c + 2 → (q_up (q_up (q_up (q_up (q_up (q_up τ (c + 1) k (ab_I e)) (c + 2) k F) (c + 1) (k + 1) A) (c + 2) (k + 1) Z) (c + 1) (k + 2) (ab_I (ab_op e))) (c + 2) (k + 2) F) c' = σ c' := fun c' h1 h2 => by
      rw [ab_up_ne h2, ab_up_ne h1, ab_up_ne h2, ab_up_ne h1, ab_up_ne h2, ab_up_ne h1, t3 c' h1 h2]
    generalize q_up (q_up (q_up (q_up (q_up (q_up τ (c + 1) k (ab_I e)) (c + 2) k F) (c + 1) (k + 1) A) (c + 2) (k + 1) Z) (c + 1) (k + 2) (ab_I (ab_op e))) (c + 2) (k + 2) F = S at *
    refine ⟨fun j hj => ?_, ?_, ?_, ?_, fun j h1 h2 => ?_, fun j hj => ?_, ?_, fun c' hc => ?_⟩
    · rw [ab_up_ne (by omega), ab_up_ne (by omega), v1, v2, if_neg (by omega), if_neg (by omega), if_neg (by omega), if_neg (by omega), if_neg (by omega), if_neg (by omega)]
      exact t1 j (by omega)
    · rw [ab_up_ne (by omega), ab_up_ne (by omega), v1, v2, if_neg (by omega), if_neg (by omega), if_pos rfl, if_neg (by omega), if_neg (by omega), if_pos rfl]
      exact ⟨rfl, rfl⟩
    · rw [ab_up_ne (by omega), ab_up_ne (by omega), v1, v2, if_neg (by omega), if_pos rfl, if_neg (by omega), if_pos rfl]
      exact ⟨rfl, rfl⟩
    · rw [ab_up_ne (by omega), ab_up_ne (by omega), v1, v2, if_pos rfl, if_pos rfl]
      exact ⟨rfl, rfl⟩
    · rw [ab_up_ne (by omega), ab_up_ne (by omega), v1, v2, if_neg (by omega), if_neg (by omega), if_neg (by omega), if_neg (by omega), if_neg (by omega), if_neg (by omega)]
      exact t2 j h1 h2
    · rw [ab_up_nk hj, v0]
    · rw [ab_up_at, v0]
    · rw [ab_up_ne (by omega), v3 c' (by omega) (by omega)]
  | succ r ih =>
    intro m hm hmn fu hf τ t1 t2 t3
    obtain ⟨fu, rfl⟩ : ∃ g, fu = g + 1 := ⟨fu - 1, by omega⟩
    obtain ⟨m', hm'⟩ : ∃ m', m = m' + 1 := ⟨m - 1, by omega⟩
    have e1 : ab_I (m : Int) + -1 = ab_I (m' : Int) := by
      rw [show (-1 : Int32) = ab_I (-1) from rfl, ab_Iadd]
      exact congrArg ab_I (by omega)
    have g1 : f_X6_directionOf τ c (ab_I m) = σ (c + 1) m := by
      unfold f_X6_directionOf
      rw [ab_at (by omega) (by decide)]
      exact (t1 m (Nat.le_refl _)).1
    have g2 : f_X6_lengthOf τ c (ab_I m) = σ (c + 2) m := by
      unfold f_X6_lengthOf
      rw [ab_at (by omega) (by decide)]
      exact (t1 m (Nat.le_refl _)).2
    rw [f_X6_replaceByThree_22, if_neg (by rw [ab_Ile (by omega) (by omega) (by omega) (by omega)]; omega), g1, g2, show ab_I (m : Int) + 2 = _ from ab_ip (c := 2), ab_setChain (by omega), e1]
    refine ih m' (by omega) (by omega) fu (by omega) _ (fun j hj => ?_) (fun j h1 h2 => ?_) (fun c' h1 h2 => ?_)
    · rw [ab_up_ne (show c + 1 ≠ c + 2 by omega), ab_up_nk (show j ≠ m + 2 by omega), ab_up_nk (show j ≠ m + 2 by omega), ab_up_ne (show c + 2 ≠ c + 1 by omega)]
      exact t1 j (by omega)
    · by_cases q : j = m
      · rw [q, ab_up_ne (show c + 1 ≠ c + 2 by omega), ab_up_at, ab_up_at]
        exact ⟨rfl, rfl⟩
      · rw [ab_up_ne (show c + 1 ≠ c + 2 by omega), ab_up_nk (show j + 2 ≠ m + 2 by omega), ab_up_nk (show j + 2 ≠ m + 2 by omega), ab_up_ne (show c + 2 ≠ c + 1 by omega)]
        exact t2 j (by omega) h2
    · rw [ab_up_ne h2, ab_up_ne h1, t3 c' h1 h2]
theorem ab_repl {σ : q_S} {c n k : Nat} (hn : n ≤ 14) (hk : k < n) (h6 : σ c 6 = ab_I n) {e : Int} {F : Int32} (he0 : 0 ≤ e) (he3 : e ≤ 3) : ∃ υ, f_X6_replaceByThree σ c (ab_I k) (ab_I e) F = some υ ∧ ab_Rp σ υ c n k (ab_I e) F (σ (c + 1) k) (σ (c + 2) k) (ab_I (ab_op e)) := by
  have g1 : f_X6_directionOf σ c (ab_I k) = σ (c + 1) k := by
    unfold f_X6_directionOf
    rw [ab_at (by omega) (by decide)]
  have g2 : f_X6_lengthOf σ c (ab_I k) = σ (c + 2) k := by
    unfold f_X6_lengthOf
    rw [ab_at (by omega) (by decide)]
  have e1 : ab_I (n : Int) - 1 = ab_I ((n - 1 : Nat) : Int) := by
    rw [show ab_I (n : Int) - 1 = _ from ab_Isub (b := 1)]
    exact congrArg ab_I (by omega)
  unfold f_X6_replaceByThree
  rw [g1, g2, h6, e1]
  exact ab_repl_lp hn hk he0 he3 (n - 1 - k) (n - 1) (by omega) (by omega) q_fu (by unfold q_fu; omega) σ (fun _ _ => ⟨rfl, rfl⟩) (fun j h1 h2 => absurd h1 (by omega)) (fun _ _ _ => rfl)
/-- the numbers of a sleeper whose chain k was replaced by three -/
def ab_Rr (D D2 : Nat → Int) (s n k : Nat) (e f a z : Int) : Prop :=
  (∀ j, j < k → ab_ds (ab_sl D2 s) j = ab_ds (ab_sl D s) j ∧ ab_ls (ab_sl D2 s) j = ab_ls (ab_sl D s) j) ∧ (ab_ds (ab_sl D2 s) k = e ∧ ab_ls (ab_sl D2 s) k = f) ∧ (ab_ds (ab_sl D2 s) (k + 1) = a ∧ ab_ls (ab_sl D2 s) (k + 1) = z) ∧ (ab_ds (ab_sl D2 s) (k + 2) = ab_op e ∧ ab_ls (ab_sl D2 s) (k + 2) = f) ∧
  (∀ j, k < j → j < n → ab_ds (ab_sl D2 s) (j + 2) = ab_ds (ab_sl D s) j ∧ ab_ls (ab_sl D2 s) (j + 2) = ab_ls (ab_sl D s) j) ∧ ab_sl D2 s 4 = n + 2 ∧ D2 3 = D 3 + 1 ∧ ∀ i, i ≠ 3 → i ≠ 34 + 37 * s → (i < 35 + 37 * s ∨ 67 + 37 * s ≤ i) → D2 i = D i
section
variable {σ : q_S} {D : Nat → Int} {B : Int}
theorem ab_bends_lp {s n k : Nat} (hs : s < 5) (hn : n ≤ 14) (hk : k < n) {v f e a z : Int} (hv0 : -9 ≤ v) (hv9 : v ≤ 9) (hvf : ab_av v = f) (he0 : 0 ≤ e) (he3 : e ≤ 3) : ∀ r m : Nat, m = k + r → m < n → ∀ fu, r < fu → ∀ (τ : q_S) (D' : Nat → Int), ab_MR τ 293 0 D' → (∀ j, j ≤ m → ab_ds (ab_sl D' s) j = ab_ds (ab_sl D s) j ∧ ab_ls (ab_sl D' s) j = ab_ls (ab_sl D s) j) → (∀ j, m < j → j < n → ab_ds (ab_sl D' s) (j + 2) = ab_ds (ab_sl D s) j ∧ ab_ls (ab_sl D' s) (j + 2) = ab_ls (ab_sl D s) j) → (∀ i, (i < 35 + 37 * s ∨ 67 + 37 * s ≤ i) → D' i = D i) →
    ∃ (D2 : Nat → Int) (ω : q_S), f_X10_bends_38 fu (ab_I s) (ab_I k) (ab_I v) (ab_I a) (ab_I z) (ab_I e) (ab_I n) (ab_I m) τ = Option.bind (f_X10_areaOf ω (ab_I s)) (fun q12 => some (q12, ω)) ∧ ab_MR ω 293 0 D2 ∧ ab_Rr D D2 s n k e f a z ∧ ab_fM τ ω := by
  intro r
  induction r with
  | zero =>
    intro m hm hmn fu hf τ D' hM t1 t2 t3
    obtain ⟨fu, rfl⟩ : ∃ g, fu = g + 1 := ⟨fu - 1, by omega⟩
    have hm : m = k := by omega
    rw [hm] at t1 t2 ⊢
    have u2 := ((((((((hM.up (30 + 37 * s + (5 + 2 * k)) e).up (30 + 37 * s + (5 + 2 * k + 1)) f).up (30 + 37 * s + (5 + 2 * k + 2)) a).up (30 + 37 * s + (5 + 2 * k + 3)) z).up (30 + 37 * s + (5 + 2 * k + 4)) (ab_op e)).up (30 + 37 * s + (5 + 2 * k + 5)) f).up (30 + 37 * s + 4) ((n + 2 : Nat) : Int)).up 3 (D 3 + 1))
    generalize hD2 : ab_u (ab_u (ab_u (ab_u (ab_u (ab_u (ab_u (ab_u D' (30 + 37 * s + (5 + 2 * k)) e) (30 + 37 * s + (5 + 2 * k + 1)) f) (30 + 37 * s + (5 + 2 * k + 2)) a) (30 + 37 * s + (5 + 2 * k + 3)) z) (30 + 37 * s + (5 + 2 * k + 4)) (ab_op e)) (30 + 37 * s + (5 + 2 * k + 5)) f) (30 + 37 * s + 4) ((n + 2 : Nat) : Int)) 3 (D 3 + 1) = D2 at u2
    have zo : ∀ i, i ≠ 3 → i ≠ 34 + 37 * s → (i < 35 + 37 * s + 2 * k ∨ 41 + 37 * s + 2 * k ≤ i) → D2 i = D' i := fun i h1 h2 h3 => by
      rw [← hD2, ab_u_ne (by omega), ab_u_ne (by omega), ab_u_ne (by omega), ab_u_ne (by omega), ab_u_ne (by omega), ab_u_ne (by omega), ab_u_ne (by omega), ab_u_ne (by omega)]
    have hR : ab_Rr D D2 s n k e f a z := by
      refine ⟨fun j hj => ?_, ⟨?_, ?_⟩, ⟨?_, ?_⟩, ⟨?_, ?_⟩, fun j h1 h2 => ?_, ?_, ?_, fun i h1 h2 h3 => ?_⟩
      · have g1 : ab_ds (ab_sl D2 s) j = ab_ds (ab_sl D' s) j := zo _ (by omega) (by omega) (by omega)
        have g2 : ab_ls (ab_sl D2 s) j = ab_ls (ab_sl D' s) j := zo _ (by omega) (by omega) (by omega)
        rw [g1, g2]
        exact t1 j (by omega)
      · unfold ab_ds ab_sl
        rw [← hD2, ab_u_ne (by omega), ab_u_ne (by omega), ab_u_ne (by omega), ab_u_ne (by omega), ab_u_ne (by omega), ab_u_ne (by omega), ab_u_ne (by omega), ab_u_eq (by omega)]
      · unfold ab_ls ab_sl
        rw [← hD2, ab_u_ne (by omega), ab_u_ne (by omega), ab_u_ne (by omega), ab_u_ne (by omega), ab_u_ne (by omega), ab_u_ne (by omega), ab_u_eq (by omega)]
      · unfold ab_ds ab_sl
        rw [← hD2, ab_u_ne (by omega), ab_u_ne (by omega), ab_u_ne (by omega), ab_u_ne (by omega), ab_u_ne (by omega), ab_u_eq (by omega)]
      · unfold ab_ls ab_sl
        rw [← hD2, ab_u_ne (by omega), ab_u_ne (by omega), ab_u_ne (by omega), ab_u_ne (by omega), ab_u_eq (by omega)]
      · unfold ab_ds ab_sl
        rw [← hD2, ab_u_ne (by omega), ab_u_ne (by omega), ab_u_ne (by omega), ab_u_eq (by omega)]
      · unfold ab_ls ab_sl
        rw [← hD2, ab_u_ne (by omega), ab_u_ne (by omega), ab_u_eq (by omega)]
      · have g1 : ab_ds (ab_sl D2 s) (j + 2) = ab_ds (ab_sl D' s) (j + 2) := zo _ (by omega) (by omega) (by omega)
        have g2 : ab_ls (ab_sl D2 s) (j + 2) = ab_ls (ab_sl D' s) (j + 2) := zo _ (by omega) (by omega) (by omega)
        rw [g1, g2]
        exact t2 j h1 h2
      · unfold ab_sl
        rw [← hD2, ab_u_ne (by omega), ab_u_eq (by omega)]
        omega
      · rw [← hD2, ab_u_at]
      · rw [zo i h1 h2 (by omega), t3 i h3]
    refine ⟨D2, _, ?_, u2, hR, ((ab_fM.up.trans ab_fM.up).trans (ab_fM.up.trans ab_fM.up)).trans ((ab_fM.up.trans ab_fM.up).trans (ab_fM.up.trans ab_fM.up))⟩
    have e3 : τ 293 3 = ab_I (D 3) := by
      rw [← t3 3 (by omega)]
      exact hM 3 (by decide)
    rw [f_X10_bends_38, if_pos (by rw [ab_Ile (by omega) (by omega) (by omega) (by omega)]; omega), ab_Isize (by omega) (by omega), hvf, ab_opR he0 he3, ab_iw, show ab_I ((5 + 2 * k : Nat) : Int) + 1 = _ from ab_ip (c := 1), show ab_I ((5 + 2 * k : Nat) : Int) + 2 = _ from ab_ip (c := 2), show ab_I ((5 + 2 * k : Nat) : Int) + 3 = _ from ab_ip (c := 3), show ab_I ((5 + 2 * k : Nat) : Int) + 4 = _ from ab_ip (c := 4), show ab_I ((5 + 2 * k : Nat) : Int) + 5 = _ from ab_ip (c := 5), show ab_I (n : Int) + 2 = _ from ab_ip (c := 2)]
    rw [ab_ls_put hs (by omega), Option.bind_some, ab_ls_put hs (by omega), Option.bind_some, ab_ls_put hs (by omega), Option.bind_some, ab_ls_put hs (by omega), Option.bind_some, ab_ls_put hs (by omega), Option.bind_some, ab_ls_put hs (by omega), Option.bind_some, show f_X10_ls _ (ab_I s) 4 (ab_I ((n + 2 : Nat) : Int)) = _ from ab_ls_put (w := 4) hs (by decide), Option.bind_some]
    rw [ab_up_nk (show 3 ≠ 30 + 37 * s + 4 by omega), ab_up_nk (by omega), ab_up_nk (by omega), ab_up_nk (by omega), ab_up_nk (by omega), ab_up_nk (by omega), ab_up_nk (by omega), e3, show ab_I (D 3) + 1 = ab_I (D 3 + 1) from ab_Iadd (b := 1)]
  | succ r ih =>
    intro m hm hmn fu hf τ D' hM t1 t2 t3
    obtain ⟨fu, rfl⟩ : ∃ g, fu = g + 1 := ⟨fu - 1, by omega⟩
    obtain ⟨m', hm'⟩ : ∃ m', m = m' + 1 := ⟨m - 1, by omega⟩
    have e1 : ab_I (m : Int) + -1 = ab_I (m' : Int) := by
      rw [show (-1 : Int32) = ab_I (-1) from rfl, ab_Iadd]
      exact congrArg ab_I (by omega)
    have u1 := hM.up (30 + 37 * s + (5 + 2 * m + 4)) (ab_ds (ab_sl D' s) m)
    have u2 := u1.up (30 + 37 * s + (5 + 2 * m + 5)) (ab_ls (ab_sl D' s) m)
    have el : ab_ls (ab_sl (ab_u D' (30 + 37 * s + (5 + 2 * m + 4)) (ab_ds (ab_sl D' s) m)) s) m = ab_ls (ab_sl D' s) m := by
      unfold ab_ls ab_sl
      rw [ab_u_ne (by omega)]
    generalize hD2 : ab_u (ab_u D' (30 + 37 * s + (5 + 2 * m + 4)) (ab_ds (ab_sl D' s) m)) (30 + 37 * s + (5 + 2 * m + 5)) (ab_ls (ab_sl D' s) m) = D2 at u2
    have zo : ∀ i, i ≠ 39 + 37 * s + 2 * m → i ≠ 40 + 37 * s + 2 * m → D2 i = D' i := fun i h1 h2 => by
      rw [← hD2, ab_u_ne (by omega), ab_u_ne (by omega)]
    have i1 : ∀ j, j ≤ m' → ab_ds (ab_sl D2 s) j = ab_ds (ab_sl D s) j ∧ ab_ls (ab_sl D2 s) j = ab_ls (ab_sl D s) j := by
      intro j hj
      have g1 : ab_ds (ab_sl D2 s) j = ab_ds (ab_sl D' s) j := zo _ (by omega) (by omega)
      have g2 : ab_ls (ab_sl D2 s) j = ab_ls (ab_sl D' s) j := zo _ (by omega) (by omega)
      rw [g1, g2]
      exact t1 j (by omega)
    have i2 : ∀ j, m' < j → j < n → ab_ds (ab_sl D2 s) (j + 2) = ab_ds (ab_sl D s) j ∧ ab_ls (ab_sl D2 s) (j + 2) = ab_ls (ab_sl D s) j := by
      intro j h1 h2
      by_cases q : j = m
      · rw [q]
        refine ⟨?_, ?_⟩
        · rw [← (t1 m (Nat.le_refl _)).1]
          show D2 (30 + 37 * s + (5 + 2 * (m + 2))) = _
          rw [← hD2, ab_u_ne (by omega), ab_u_eq (by omega)]
        · rw [← (t1 m (Nat.le_refl _)).2]
          show D2 (30 + 37 * s + (6 + 2 * (m + 2))) = _
          rw [← hD2, ab_u_eq (by omega)]
      · have g1 : ab_ds (ab_sl D2 s) (j + 2) = ab_ds (ab_sl D' s) (j + 2) := zo _ (by omega) (by omega)
        have g2 : ab_ls (ab_sl D2 s) (j + 2) = ab_ls (ab_sl D' s) (j + 2) := zo _ (by omega) (by omega)
        rw [g1, g2]
        exact t2 j (by omega) h2
    have i3 : ∀ i, (i < 35 + 37 * s ∨ 67 + 37 * s ≤ i) → D2 i = D i := by
      intro i hi
      rw [zo i (by omega) (by omega)]
      exact t3 i hi
    obtain ⟨D3, ω, o1, o2, o3, o4⟩ := ih m' (by omega) (by omega) fu (by omega) _ D2 u2 i1 i2 i3
    refine ⟨D3, ω, ?_, o2, o3, (ab_fM.up.trans ab_fM.up).trans o4⟩
    rw [f_X10_bends_38, if_neg (by rw [ab_Ile (by omega) (by omega) (by omega) (by omega)]; omega), ab_way hM hs (by omega), Option.bind_some, ab_iw, show ab_I ((5 + 2 * m : Nat) : Int) + 4 = _ from ab_ip (c := 4), ab_ls_put hs (by omega), Option.bind_some, ab_len u1 hs (by omega), Option.bind_some, el, show ab_I ((5 + 2 * m : Nat) : Int) + 5 = _ from ab_ip (c := 5), ab_ls_put hs (by omega), Option.bind_some, e1]
    exact o1
end
