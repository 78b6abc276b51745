/-! laying a chain, said alike -/
def ab_av (v : Int) : Int := if 0 ≤ v then v else - v
theorem ab_Iab {v : Int} (h0 : -1000 ≤ v) (h1 : v ≤ 1000) : (if (0 : Int32) ≤ ab_I v then ab_I v else 0 - ab_I v) = ab_I (ab_av v) := by
  unfold ab_av
  rw [show (0 : Int32) = ab_I 0 from rfl, ab_Isub]
  simp only [ab_Ile (a := 0) (b := v) (by omega) (by omega) (by omega) (by omega)]
  split
  · rfl
  · exact congrArg ab_I (by omega)
theorem ab_Isize {v : Int} (h0 : -1000 ≤ v) (h1 : v ≤ 1000) : f_X10_size (ab_I v) = ab_I (ab_av v) := by
  unfold ab_av f_X10_size
  rw [show (0 : Int32) = ab_I 0 from rfl, ab_Ineg]
  simp only [ab_Ile (a := 0) (b := v) (by omega) (by omega) (by omega) (by omega)]
  split <;> rfl
theorem ab_dirOf (d : Int32) : (f_X9_directionFor d = -1 ∧ f_X10_directionOf d = -1) ∨ ∃ e : Int, 0 ≤ e ∧ e ≤ 3 ∧ f_X9_directionFor d = ab_I e ∧ f_X10_directionOf d = ab_I e := by
  by_cases h0 : d = 110
  · subst h0; exact .inr ⟨0, by decide, by decide, by decide, by decide⟩
  by_cases h1 : d = 101
  · subst h1; exact .inr ⟨1, by decide, by decide, by decide, by decide⟩
  by_cases h2 : d = 115
  · subst h2; exact .inr ⟨2, by decide, by decide, by decide, by decide⟩
  by_cases h3 : d = 119
  · subst h3; exact .inr ⟨3, by decide, by decide, by decide, by decide⟩
  left
  unfold f_X9_directionFor f_X10_directionOf
  refine ⟨?_, ?_⟩
  · rw [if_neg h1, if_neg h0, if_neg h2, if_neg h3]
  · rw [if_neg h0, if_neg h1, if_neg h2, if_neg h3]
theorem ab_g_up {ρ : q_S} {a b v : Int32} {k : Nat} : q_up (ab_g ρ a b) 293 k v = ab_g (q_up ρ 293 k v) a b := by
  funext c2 k2
  by_cases h : c2 = 293
  · subst h
    by_cases h2 : k2 = k
    · subst h2
      rw [ab_up_at]
      show v = q_up ρ 293 k2 v 293 k2
      rw [ab_up_at]
    · rw [ab_up_nk h2]
      show ρ 293 k2 = q_up ρ 293 k v 293 k2
      rw [ab_up_nk h2]
  · rw [ab_up_ne h]
    unfold ab_g
    rw [ab_up_ne h, ab_up_ne (show (292 : Nat) ≠ 293 by decide)]
section
variable {σ σ' : q_S} {D : Nat → Int} {B : Int}
theorem ab_sim_chain (hC : ab_CR σ 2 D) (hM : ab_MR σ' 293 0 D) (hW : ab_WD B D) (hB : B ≤ 1000000000) (a d c : Int32) : ab_sim B σ σ' (f_X8_layChain σ a d c) (fun e => (e = 1 ∧ f_X10_isSleeper σ' a = some 0) ∨ (e = 2 ∧ f_X10_isSleeper σ' a = some 1 ∧ (f_X10_directionOf d < 0 ∨ (¬ f_X10_directionOf d < 0 ∧ f_X10_isLength c = some 0))) ∨ (e = 0 ∧ f_X10_isSleeper σ' a = some 1 ∧ ¬ f_X10_directionOf d < 0 ∧ f_X10_isLength c = some 1)) (f_X10_isRefusedChain σ' a (f_X10_directionOf d) c) (fun υ => f_X10_lays υ a (f_X10_directionOf d) c) := by
  have hM0 : σ' 293 0 = ab_I (D 0) := hM 0 (by decide)
  unfold ab_sim f_X8_layChain
  rcases ab_hasS (a := a) hC.1 hM0 hW.1 hW.2.1 with ⟨h1, h2⟩ | ⟨h1, h2, s, hs, rfl⟩
  · left
    rw [h1, if_pos rfl]
    exact ⟨.inl ⟨rfl, h2⟩, rfl⟩
  right
  have h05 := hW.2.1
  rcases ab_dirOf d with ⟨e1, e2⟩ | ⟨e, he0, he3, e1, e2⟩
  · left
    rw [h1, if_neg (by decide), e1, if_pos rfl, e2]
    exact ⟨.inr (.inl ⟨rfl, h2, .inl (by decide)⟩), rfl⟩
  have nd : ¬ ab_I e < 0 := by rw [ab_Iltc (by omega) (by omega)]; exact id
  have nd1 : ¬ ab_I e = -1 := by rw [show (-1 : Int32) = ab_I (-1) from rfl, ab_Ieq (by omega) (by omega) (by omega) (by omega)]; omega
  rcases ab_from (a := c) 1 9 (by decide) (by decide) (by decide) (by decide) with g | ⟨g, zi, hz0, hz9, rfl⟩
  · left
    have g : f_X9_isFrom c 1 9 = 0 := g
    rw [h1, if_neg (by decide), e1, if_neg nd1, g, if_pos rfl, e2, ab_isLength, g]
    exact ⟨.inr (.inl ⟨rfl, h2, .inr ⟨nd, rfl⟩⟩), rfl⟩
  right
  have g : f_X9_isFrom (ab_I zi) 1 9 = 1 := g
  obtain ⟨z, rfl⟩ : ∃ z : Nat, zi = z := ⟨zi.toNat, by omega⟩
  have w := hW.2.2.2.2.2.2.2.2.1 s hs
  have hcp := (hC.2.2.2.2.1 s hs).2
  have e1' := ab_svn (σ := σ') hM (s := s) (by omega)
  rw [h1, if_neg (by decide), e1, if_neg nd1, g, if_neg (by decide), ab_plotOf (by omega), e2, ab_isLength, g]
  have hgood : (0 = 1 ∧ f_X10_isSleeper σ' (ab_I s) = some 0) ∨ (0 = 2 ∧ f_X10_isSleeper σ' (ab_I s) = some 1 ∧ (ab_I e < 0 ∨ (¬ ab_I e < 0 ∧ some (1 : Int32) = some 0))) ∨ (0 = 0 ∧ f_X10_isSleeper σ' (ab_I s) = some 1 ∧ ¬ ab_I e < 0 ∧ some (1 : Int32) = some 1) := .inr (.inr ⟨rfl, h2, nd, rfl⟩)
  rw [hcp.1, hcp.2.1, hcp.2.2.1]
  obtain ⟨n, hn⟩ : ∃ n : Nat, ab_sl D s 4 = n := ⟨(ab_sl D s 4).toNat, by have := w.2.2.2.2.1; omega⟩
  have hn16 : n ≤ 16 := by have := w.2.2.2.2.2.1; omega
  by_cases q0 : ab_sl D s 1 = 0
  · left
    obtain ⟨υ, u1, u2, u3, u4⟩ := ab_isBad (σ := σ') (w := 4) (n := ab_I s)
    refine ⟨hgood, 4, ab_I s, υ, by decide, ?_, ?_, u2, u3, u4⟩
    · rw [q0, if_neg (show ¬ 1 ≤ (0 : Int) by decide), if_pos (show ab_I 0 = 0 from rfl)]
    · unfold f_X10_isRefusedChain
      rw [e1'.2.1, Option.bind_some, q0, if_pos (show ab_I 0 = 0 from rfl), u1]
      rfl
  have hq1 : 1 ≤ ab_sl D s 1 := by have := w.2.2.1; omega
  have nq0 : ¬ ab_I (ab_sl D s 1) = 0 := by
    have := w.2.2.2.1
    rw [show (0 : Int32) = ab_I 0 from rfl, ab_Ieq (by omega) (by omega) (by omega) (by omega)]
    exact q0
  by_cases q2 : ab_sl D s 1 = 2
  · left
    obtain ⟨υ, u1, u2, u3, u4⟩ := ab_isBad (σ := σ') (w := 5) (n := ab_I (ab_sl D s 4))
    refine ⟨hgood, 5, ab_I (ab_sl D s 4), υ, by decide, ?_, ?_, u2, u3, u4⟩
    · rw [if_pos hq1, if_neg (show ¬ ab_I 1 = 0 by decide), if_pos q2, if_neg (show ¬ ab_I 1 = 0 by decide)]
    · unfold f_X10_isRefusedChain
      rw [e1'.2.1, Option.bind_some, if_neg nq0, Option.bind_some, if_pos (show ab_I (ab_sl D s 1) = 2 by rw [q2]; rfl), e1'.2.2.2.2, Option.bind_some, u1]
      rfl
  have hq : ab_sl D s 1 = 1 := by have := w.2.2.2.1; omega
  by_cases qn : n = 16
  · left
    subst qn
    obtain ⟨υ, u1, u2, u3, u4⟩ := ab_isBad (σ := σ') (w := 1) (n := 16)
    refine ⟨hgood, 1, 16, υ, by decide, ?_, ?_, u2, u3, u4⟩
    · rw [if_pos hq1, if_neg (show ¬ ab_I 1 = 0 by decide), if_neg q2, if_pos (show ab_I 0 = 0 from rfl), hn, if_neg (show ¬ ab_I ((16 : Nat) : Int) < 16 by decide)]
    · unfold f_X10_isRefusedChain
      rw [e1'.2.1, Option.bind_some, if_neg nq0, Option.bind_some, if_neg (show ¬ ab_I (ab_sl D s 1) = 2 by rw [hq]; decide), e1'.2.2.2.2, Option.bind_some, hn, if_pos (show ab_I ((16 : Nat) : Int) = 16 from rfl), u1]
      rfl
  have hlay := ab_lay hC hM hW hB hs hq hn (by omega) he0 he3 (z := z) (by omega) (by omega)
  rcases hlay with ⟨w0, m0, υ, hw0, k1, k2, k3, k4, k5⟩ | ⟨k1, υ, k2, k3, hon, hok⟩
  · left
    refine ⟨hgood, w0, m0, υ, hw0, ?_, k2, k3, k4, k5⟩
    rw [if_pos hq1, if_neg (show ¬ ab_I 1 = 0 by decide), if_neg q2, if_pos (show ab_I 0 = 0 from rfl), hn, if_pos (show ab_I (n : Int) < 16 by rw [show (16 : Int32) = ab_I 16 from rfl, ab_Ilt (by omega) (by omega) (by omega) (by omega)]; omega), k1, Option.bind_some, if_neg (show ¬ (1 : Int32) = 0 by decide)]
    rfl
  right
  have hcl := hcp.2.2.2.1 hq1
  rw [hn, Int.toNat_natCast] at hcl
  have hMυ := k3.M hM
  have p0 : 0 ≤ ab_sl D s 2 ∧ ab_sl D s 2 ≤ 12 ∧ 0 ≤ ab_sl D s 3 ∧ ab_sl D s 3 ≤ 8 := w.pos hq1 (k := 0) (by omega)
  have hz := hon z (by omega) (by omega)
  have hWW : ab_W (ab_sl D s 2) (ab_sl D s 3) n (ab_ds (ab_sl D s)) (ab_ls (ab_sl D s)) False := by
    have h := w.2.2.2.2.2.2.2 hq1
    rw [hn, Int.toNat_natCast, eq_false q2] at h
    exact h
  -- the numbers then
  have u2 := ((hMυ.up (30 + 37 * s + (5 + 2 * n)) e).up (30 + 37 * s + (6 + 2 * n)) z).up (30 + 37 * s + 4) ((n + 1 : Nat) : Int)
  generalize hD3 : ab_u (ab_u (ab_u D (30 + 37 * s + (5 + 2 * n)) e) (30 + 37 * s + (6 + 2 * n)) z) (30 + 37 * s + 4) ((n + 1 : Nat) : Int) = D3 at u2
  have zo3 : ∀ k, k ≠ 30 + 37 * s + (5 + 2 * n) → k ≠ 30 + 37 * s + (6 + 2 * n) → k ≠ 30 + 37 * s + 4 → D3 k = D k := fun k h1 h2 h3 => by rw [← hD3, ab_u_ne h3, ab_u_ne h2, ab_u_ne h1]
  have t4 : ab_sl D3 s 4 = ((n + 1 : Nat) : Int) := by unfold ab_sl; rw [← hD3, ab_u_at]
  have tdn : ab_ds (ab_sl D3 s) n = e := by unfold ab_ds ab_sl; rw [← hD3, ab_u_ne (by omega), ab_u_ne (by omega), ab_u_at]
  have tln : ab_ls (ab_sl D3 s) n = z := by unfold ab_ls ab_sl; rw [← hD3, ab_u_ne (by omega), ab_u_at]
  have td : ∀ j, j < n → ab_ds (ab_sl D3 s) j = ab_ds (ab_sl D s) j := fun j hj => zo3 _ (by omega) (by omega) (by omega)
  have tl : ∀ j, j < n → ab_ls (ab_sl D3 s) j = ab_ls (ab_sl D s) j := fun j hj => zo3 _ (by omega) (by omega) (by omega)
  have t2 : ab_sl D3 s 2 = ab_sl D s 2 := zo3 _ (by omega) (by omega) (by omega)
  have t3 : ab_sl D3 s 3 = ab_sl D s 3 := zo3 _ (by omega) (by omega) (by omega)
  have ex : ab_px (ab_sl D s 2) (ab_ds (ab_sl D3 s)) (ab_ls (ab_sl D3 s)) (n + 1) = ab_px (ab_sl D s 2) (ab_ds (ab_sl D s)) (ab_ls (ab_sl D s)) n + ab_sx e * z := by rw [ab_px, tdn, tln, ab_px_congr td tl]
  have ey : ab_py (ab_sl D s 3) (ab_ds (ab_sl D3 s)) (ab_ls (ab_sl D3 s)) (n + 1) = ab_py (ab_sl D s 3) (ab_ds (ab_sl D s)) (ab_ls (ab_sl D s)) n + ab_sy e * z := by rw [ab_py, tdn, tln, ab_py_congr td tl]
  have hWn := hWW.lay he0 he3 (by omega) (by omega) td tl tdn tln hon hok (hend := ab_px (ab_sl D s 2) (ab_ds (ab_sl D s)) (ab_ls (ab_sl D s)) n + ab_sx e * z = ab_sl D s 2 ∧ ab_py (ab_sl D s 3) (ab_ds (ab_sl D s)) (ab_ls (ab_sl D s)) n + ab_sy e * z = ab_sl D s 3) Iff.rfl
  have hadd := ab_add (σ := σ) (c := 2 + (10 + 3 * s)) (n := n) (e := e) (z := z) (by omega) hcl.1 hcl.2.1 hcl.2.2.1 hcl.2.2.2 (by rw [hcp.2.2.1, hn]) he0 he3 (by omega) (by omega) (by omega) (by omega) (by omega) (by omega) (by omega) (by omega)
  generalize hx' : ab_px (ab_sl D s 2) (ab_ds (ab_sl D s)) (ab_ls (ab_sl D s)) n + ab_sx e * z = x' at *
  generalize hy' : ab_py (ab_sl D s 3) (ab_ds (ab_sl D s)) (ab_ls (ab_sl D s)) n + ab_sy e * z = y' at *
  have u5 : ab_MR (if x' = ab_sl D s 2 ∧ y' = ab_sl D s 3 then q_up (q_up (q_up (q_up υ 293 (30 + 37 * s + (5 + 2 * n)) (ab_I e)) 293 (30 + 37 * s + (6 + 2 * n)) (ab_I z)) 293 (30 + 37 * s + 4) (ab_I ((n + 1 : Nat) : Int))) 293 (30 + 37 * s + 1) (ab_I 2) else q_up (q_up (q_up υ 293 (30 + 37 * s + (5 + 2 * n)) (ab_I e)) 293 (30 + 37 * s + (6 + 2 * n)) (ab_I z)) 293 (30 + 37 * s + 4) (ab_I ((n + 1 : Nat) : Int))) 293 0 (ab_u D3 (30 + 37 * s + 1) (if x' = ab_sl D s 2 ∧ y' = ab_sl D s 3 then 2 else 1)) := by
    by_cases q : x' = ab_sl D s 2 ∧ y' = ab_sl D s 3
    · rw [if_pos q, if_pos q]
      exact u2.up _ 2
    · rw [if_neg q, if_neg q]
      have : ab_u D3 (30 + 37 * s + 1) 1 = D3 := by
        funext k
        unfold ab_u
        split
        · rename_i hk
          rw [hk, zo3 _ (by omega) (by omega) (by omega)]
          exact hq.symm
        · rfl
      rw [this]
      exact u2
  generalize hcl2 : (if x' = ab_sl D s 2 ∧ y' = ab_sl D s 3 then (2 : Int) else 1) = st at u5
  have hst : (st = 2 ↔ x' = ab_sl D s 2 ∧ y' = ab_sl D s 3) ∧ 1 ≤ st ∧ st ≤ 2 := by
    rw [← hcl2]
    split
    · exact ⟨⟨fun _ => by assumption, fun _ => rfl⟩, by decide, by decide⟩
    · exact ⟨⟨fun h => absurd h (by decide), fun h => absurd h (by assumption)⟩, by decide, by decide⟩
  generalize hD2 : ab_u D3 (30 + 37 * s + 1) st = D2 at u5
  have zo : ∀ k, k ≠ 30 + 37 * s + 1 → D2 k = D3 k := fun k h => by rw [← hD2, ab_u_ne h]
  have zoo : ∀ k, (k < 30 + 37 * s ∨ 67 + 37 * s ≤ k) → D2 k = D k := fun k h => by rw [zo k (by omega), zo3 k (by omega) (by omega) (by omega)]
  have s0 : D2 (30 + 37 * s) = D (30 + 37 * s) := by rw [zo _ (by omega), zo3 _ (by omega) (by omega) (by omega)]
  have s1 : ab_sl D2 s 1 = st := by unfold ab_sl; rw [← hD2, ab_u_at]
  have s2 : ab_sl D2 s 2 = ab_sl D s 2 := (zo _ (by omega)).trans t2
  have s3 : ab_sl D2 s 3 = ab_sl D s 3 := (zo _ (by omega)).trans t3
  have s4 : ab_sl D2 s 4 = ((n + 1 : Nat) : Int) := (zo _ (by omega)).trans t4
  have sd : ∀ j, ab_ds (ab_sl D2 s) j = ab_ds (ab_sl D3 s) j := fun j => zo _ (by omega)
  have sll : ∀ j, ab_ls (ab_sl D2 s) j = ab_ls (ab_sl D3 s) j := fun j => zo _ (by omega)
  have z0 := zoo 0 (by omega)
  have z1 := zoo 1 (by omega)
  have z2 := zoo 2 (by omega)
  have z3 := zoo 3 (by omega)
  have ex2 : ab_px (ab_sl D2 s 2) (ab_ds (ab_sl D2 s)) (ab_ls (ab_sl D2 s)) (n + 1) = x' := by rw [s2, ab_px_congr (fun j _ => sd j) (fun j _ => sll j)]; exact ex
  have ey2 : ab_py (ab_sl D2 s 3) (ab_ds (ab_sl D2 s)) (ab_ls (ab_sl D2 s)) (n + 1) = y' := by rw [s3, ab_py_congr (fun j _ => sd j) (fun j _ => sll j)]; exact ey
  -- the first program's memory then
  generalize hτ : f_X6_add σ (2 + (10 + 3 * s)) (ab_I e) (ab_I z) = τ at *
  have nm : ∀ c, (c < 2 + (10 + 3 * s) ∨ 2 + (10 + 3 * s) + 3 ≤ c) → τ c = σ c := fun c hc => by
    rw [hadd, ab_up_ne (by omega), ab_up_ne (by omega), ab_up_ne (by omega), ab_up_ne (by omega), ab_up_ne (by omega), ab_up_ne (by omega)]
  have f0 : ∀ k, k ≠ 1 → k ≠ 4 → k ≠ 5 → k ≠ 6 → τ (2 + (10 + 3 * s)) k = σ (2 + (10 + 3 * s)) k := fun k a1 a2 a3 a4 => by
    rw [hadd, ab_up_nk a1, ab_up_nk a3, ab_up_nk a2, ab_up_nk a4, ab_up_ne (by omega), ab_up_ne (by omega)]
  have f1 : τ (2 + (10 + 3 * s)) 1 = ab_I (if st = 2 then 1 else 0) := by
    rw [hadd, ab_up_at]
    by_cases q : x' = ab_sl D s 2 ∧ y' = ab_sl D s 3
    · rw [if_pos q, if_pos (hst.1.mpr q)]; rfl
    · rw [if_neg q, if_neg (fun h => q (hst.1.mp h))]; rfl
  have f4 : τ (2 + (10 + 3 * s)) 4 = ab_I x' := by rw [hadd, ab_up_nk (by decide), ab_up_nk (by decide), ab_up_at]
  have f5 : τ (2 + (10 + 3 * s)) 5 = ab_I y' := by rw [hadd, ab_up_nk (by decide), ab_up_at]
  have f6 : τ (2 + (10 + 3 * s)) 6 = ab_I ((n + 1 : Nat) : Int) := by rw [hadd, ab_up_nk (by decide), ab_up_nk (by decide), ab_up_nk (by decide), ab_up_at]
  have fd : ∀ k, τ (2 + (10 + 3 * s) + 1) k = if k = n then ab_I e else σ (2 + (10 + 3 * s) + 1) k := fun k => by
    rw [hadd, ab_up_ne (by omega), ab_up_ne (by omega), ab_up_ne (by omega), ab_up_ne (by omega), ab_up_ne (by omega), ab_up, if_pos rfl]
  have fl : ∀ k, τ (2 + (10 + 3 * s) + 2) k = if k = n then ab_I z else σ (2 + (10 + 3 * s) + 2) k := fun k => by
    rw [hadd, ab_up_ne (by omega), ab_up_ne (by omega), ab_up_ne (by omega), ab_up_ne (by omega), ab_up, if_pos rfl]
    split
    · rfl
    · rw [ab_up_ne (by omega)]
  have g0 : τ (2 + (10 + 3 * s)) 0 = ab_I 1 := by rw [f0 0 (by decide) (by decide) (by decide) (by decide), hcp.1, if_pos hq1]
  have hCR : ab_CR τ 2 D2 := by
    refine hC.sl (s := s) hW (by omega) (.inl z0) ?_ ?_ ?_ (fun k _ _ _ h => zoo k h) ?_ (fun s2 h => by rw [nm 3 (by omega)]) (fun c h1 h2 h3 => nm c (by omega)) ⟨?_, ?_, ?_, fun q => ⟨?_, ?_, ?_, ?_⟩, fun k hk => ?_⟩ ?_ ?_
    · rw [nm 2 (by omega), z0]; exact hC.1
    · rw [nm 2 (by omega), z2]; exact hC.2.2.1
    · rw [nm 2 (by omega), z3]; exact hC.2.2.2.1
    · rw [nm 3 (by omega), s0]; exact (hC.2.2.2.2.1 s hs).1
    · rw [g0, s1, if_pos hst.2.1]
    · rw [f1, s1]
    · rw [f6, s4]
    · rw [f0 2 (by decide) (by decide) (by decide) (by decide), s2]; exact hcl.1
    · rw [f0 3 (by decide) (by decide) (by decide) (by decide), s3]; exact hcl.2.1
    · rw [f4, s4, Int.toNat_natCast, ex2]
    · rw [f5, s4, Int.toNat_natCast, ey2]
    · rw [s4] at hk
      rw [fd, fl]
      have a1 : ab_sl D2 s (5 + 2 * k) = ab_ds (ab_sl D3 s) k := sd k
      have a2 : ab_sl D2 s (6 + 2 * k) = ab_ls (ab_sl D3 s) k := sll k
      rw [a1, a2]
      by_cases ek : k = n
      · rw [if_pos ek, if_pos ek, ek, tdn, tln]
        exact ⟨rfl, rfl⟩
      · rw [if_neg ek, if_neg ek, td k (by omega), tl k (by omega)]
        exact hcp.2.2.2.2 k (by omega)
    · rw [g0]; exact .inr rfl
    · rw [f1]
      split
      · exact .inr rfl
      · exact .inl rfl
  have w2' := hW.2.2.2.2
  have hWn2 : ab_W (ab_sl D2 s 2) (ab_sl D2 s 3) (n + 1) (ab_ds (ab_sl D2 s)) (ab_ls (ab_sl D2 s)) (st = 2) := by
    rw [s2, s3, show (st = 2) = (x' = ab_sl D s 2 ∧ y' = ab_sl D s 3) from propext hst.1]
    exact hWn.congr rfl rfl (fun j _ => sd j) (fun j _ => sll j)
  have hWD : ab_WD (B + 20) D2 := by
    refine hW.sl (s := s) (by omega) (.inl z0) (by omega) (by omega) (by omega) (by omega) (fun k _ _ _ h => zoo k h) ⟨?_, ?_, by omega, by omega, by omega, by omega, fun q => by omega, fun q => ?_⟩
    · show 0 ≤ D2 (30 + 37 * s)
      rw [s0]; exact w.1
    · show D2 (30 + 37 * s) ≤ 9
      rw [s0]; exact w.2.1
    · rw [s4, Int.toNat_natCast, s1]
      exact hWn2
  have bv1 : -12 ≤ x' - ab_sl D s 2 ∧ x' - ab_sl D s 2 ≤ 12 := by omega
  have bv2 : -8 ≤ y' - ab_sl D s 3 ∧ y' - ab_sl D s 3 ≤ 8 := by omega
  have hab1 : 0 ≤ ab_av (x' - ab_sl D s 2) ∧ ab_av (x' - ab_sl D s 2) ≤ 12 ∧ (ab_av (x' - ab_sl D s 2) = 0 ↔ x' = ab_sl D s 2) := by unfold ab_av; split <;> omega
  have hab2 : 0 ≤ ab_av (y' - ab_sl D s 3) ∧ ab_av (y' - ab_sl D s 3) ≤ 12 ∧ (ab_av (y' - ab_sl D s 3) = 0 ↔ y' = ab_sl D s 3) := by unfold ab_av; split <;> omega
  refine ⟨hgood, ab_av (x' - ab_sl D s 2) + ab_av (y' - ab_sl D s 3), D2, τ, υ, ab_g (if x' = ab_sl D s 2 ∧ y' = ab_sl D s 3 then q_up (q_up (q_up (q_up υ 293 (30 + 37 * s + (5 + 2 * n)) (ab_I e)) 293 (30 + 37 * s + (6 + 2 * n)) (ab_I z)) 293 (30 + 37 * s + 4) (ab_I ((n + 1 : Nat) : Int))) 293 (30 + 37 * s + 1) (ab_I 2) else q_up (q_up (q_up υ 293 (30 + 37 * s + (5 + 2 * n)) (ab_I e)) 293 (30 + 37 * s + (6 + 2 * n)) (ab_I z)) 293 (30 + 37 * s + 4) (ab_I ((n + 1 : Nat) : Int))) (ab_I x') (ab_I y'), by omega, by omega, ?_, k2, k3, ?_, ab_g_MR u5, hCR, hWD, fun c hc => nm c (by omega), ?_⟩
  · rw [if_pos hq1, if_neg (show ¬ ab_I 1 = 0 by decide), if_neg q2, if_pos (show ab_I 0 = 0 from rfl), hn, if_pos (show ab_I (n : Int) < 16 by rw [show (16 : Int32) = ab_I 16 from rfl, ab_Ilt (by omega) (by omega) (by omega) (by omega)]; omega), k1, Option.bind_some]
    dsimp only
    rw [if_pos (show (0 : Int32) = 0 from rfl), hτ, f4, f5, f0 2 (by decide) (by decide) (by decide) (by decide), f0 3 (by decide) (by decide) (by decide) (by decide), hcl.1, hcl.2.1, ab_Isub, ab_Isub, ab_Iab (by omega) (by omega), ab_Iab (by omega) (by omega), ab_Iadd]
  · show f_X10_lays υ (ab_I s) (ab_I e) (ab_I z) = _
    obtain ⟨_, _, _, _, v4⟩ := ab_svn hMυ (s := s) (by omega)
    have i1 : (5 : Int32) + 2 * ab_I n = ab_I ((5 + 2 * n : Nat) : Int) := by
      rw [show (5 : Int32) = ab_I 5 from rfl, show (2 : Int32) = ab_I 2 from rfl, ab_Imul, ab_Iadd]
      exact congrArg ab_I (by omega)
    have i2 : ab_I ((5 + 2 * n : Nat) : Int) + 1 = ab_I ((6 + 2 * n : Nat) : Int) := by
      rw [show (1 : Int32) = ab_I 1 from rfl, ab_Iadd]
      exact congrArg ab_I (by omega)
    unfold f_X10_lays
    rw [v4, Option.bind_some, hn, i1, ab_ls_put (by omega) (by omega), Option.bind_some, i2, ab_ls_put (by omega) (by omega), Option.bind_some, ab_I1, show f_X10_ls _ (ab_I s) 4 (ab_I ((n + 1 : Nat) : Int)) = _ from ab_ls_put (w := 4) (by omega) (by decide), Option.bind_some]
    have gt := ab_goesTo2 u2 (s := s) (m := n + 1) (by omega) (by omega) (fun k hk => by have := hWn.1 k hk; exact ⟨this.1, this.2.1⟩)
    rw [t2, t3, ex, ey] at gt
    obtain ⟨_, _, r2, r3, _⟩ := ab_svn (ab_g_MR (a := ab_I x') (b := ab_I y') u2) (s := s) (by omega)
    rw [gt, Option.bind_some, r2, Option.bind_some, r3, Option.bind_some, ab_g_14, ab_g_15, t2, t3, ab_Isub, ab_Isub, ab_Isize (by omega) (by omega), ab_Isize (by omega) (by omega), ab_Iadd]
    by_cases q : x' = ab_sl D s 2 ∧ y' = ab_sl D s 3
    · rw [if_pos q, if_pos (show ab_I (ab_av (x' - ab_sl D s 2) + ab_av (y' - ab_sl D s 3)) = 0 by rw [show ab_av (x' - ab_sl D s 2) + ab_av (y' - ab_sl D s 3) = 0 by omega]; rfl), show f_X10_ls _ (ab_I s) 1 2 = _ from ab_ls_put (w := 1) (by omega) (by decide), Option.bind_some]
      rw [ab_g_up]
      rfl
    · rw [if_neg q, if_neg (show ¬ ab_I (ab_av (x' - ab_sl D s 2) + ab_av (y' - ab_sl D s 3)) = 0 by rw [show (0 : Int32) = ab_I 0 from rfl, ab_Ieq (by omega) (by omega) (by omega) (by omega)]; omega)]
  · have fg : ∀ ρ : q_S, ab_fM ρ (ab_g ρ (ab_I x') (ab_I y')) := fun ρ => ⟨fun c h _ => by unfold ab_g; funext k; rw [if_neg h], fun k hk => by
      unfold ab_g
      unfold ab_sf at hk
      rw [if_pos rfl, if_neg (by omega), if_neg (by omega)]⟩
    refine ab_fM.trans ?_ (fg _)
    split
    · exact (ab_fM.up.trans ab_fM.up).trans (ab_fM.up.trans ab_fM.up)
    · exact (ab_fM.up.trans ab_fM.up).trans ab_fM.up
end
