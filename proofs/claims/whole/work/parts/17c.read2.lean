/-! read as a call -/
theorem rd_O {B B2 : Int} {σ υ : q_S} (h : ab_O B σ) (hB : B ≤ B2) (hH : ab_H B2 υ) (hR : ab_R υ) (g0 : υ 0 4 = σ 0 4) (g : ∀ c, ((28 ≤ c ∧ c < 53) ∨ c = 290 ∨ c = 291 ∨ c = 295 ∨ c = 302) → υ c = σ c) (k : ∀ k, (k = 13 ∨ k = 29) → υ 292 k = σ 292 k) (h12 : υ 0 10 = υ 292 12) (h8 : υ 0 8 = 0) (h22 : υ 292 22 = 0) : ab_O B2 υ := by
  obtain ⟨-, h2, -, -, -, h6⟩ := h
  exact ⟨hH, h2.same hB g0 (k _ (by decide)) (fun c a b => g c (by omega)) (g _ (by decide)), hR, h12, ⟨0, by decide, h8, h22, fun k hk => absurd hk (by omega)⟩, h6.same (g _ (by decide)) (k _ (by decide)) (g _ (by decide)) (g _ (by decide))⟩
theorem rd_text {σ : q_S} (h : ab_T σ) : ∃ (n : Nat) (ch : Nat → Int), rd_tx n ch ∧ σ 0 8 = ab_I n ∧ σ 292 22 = ab_I n ∧ rd_txC σ n ch ∧ ∀ p, p < n → σ 299 p = ab_I (ch p) := by
  obtain ⟨n, n60, h1, h2, h3⟩ := h
  refine ⟨n, fun p => if p < n then (σ 299 p).toInt else -1, ⟨n60, fun p hp => ?_, fun p hp => if_neg (by omega)⟩, h1, h2, fun p hp => ?_, fun p hp => ?_⟩
  · show 0 ≤ (if p < n then (σ 299 p).toInt else -1) ∧ (if p < n then (σ 299 p).toInt else -1) ≤ 65535
    rw [if_pos hp]
    exact (h3 p hp).2
  · show σ 283 p = ab_I (if p < n then (σ 299 p).toInt else -1)
    rw [if_pos hp, (h3 p hp).1]
    exact ab_Iof _
  · show σ 299 p = ab_I (if p < n then (σ 299 p).toInt else -1)
    rw [if_pos hp]
    exact ab_Iof _
theorem rd_both {t : Nat} {σ : q_S} (hI : ab_Inv t σ) (ht : t < 512) {ρ : q_S} (hρ : ∀ c, 292 ≤ c → ρ c = σ c) :
    ∃ (e : Nat) (v : Int32) (τ : q_S) (w : Int32) (υ : q_S), f_X9_read σ = some (e, v, τ) ∧ f_X10_read ρ = some (w, υ) ∧ (∀ c, 292 ≤ c → τ c = σ c) ∧ (e = 0 ∨ e = 2 ∨ e = 3) ∧ υ 292 4 = q_cd [2, 3] e ∧ (e = 0 → v = w) ∧ ((∀ c, c < 292 → ρ c = τ c) → ab_Inv (t + 1) υ) := by
  obtain ⟨D, ⟨hC, hM, hW⟩, hO⟩ := hI
  have hO2 := hO
  obtain ⟨⟨nx, ct, E, hHc, hHm, hHw⟩, hS, hR, hm, hT, hL⟩ := hO2
  obtain ⟨n, ch, hTx, c8, r22, hTC, hTR⟩ := rd_text hT
  have hMρ : ab_MR ρ 293 0 D := fun k hk => by rw [hρ 293 (by decide)]; exact hM k hk
  obtain ⟨υ0, b1, b2, b3, b4, b5, b6⟩ := ab_begins hMρ
  have u22 : υ0 292 22 = ab_I n := by rw [b5.2 22 (by unfold ab_sf; omega), hρ 292 (by decide)]; exact r22
  have uR : ∀ p, p < n → υ0 299 p = ab_I (ch p) := fun p hp => by rw [b5.1 299 (by unfold ab_sc; omega) (by decide), hρ 299 (by decide)]; exact hTR p hp
  obtain ⟨σ', ρ', p, hp, fc, fk, f8, rc, rk, r22', h⟩ := rd_parse hTx c8 hTC u22 uR
  -- what the second program's cells are behind the text
  have hi : ∀ c, 292 < c → ¬ ab_sc c → ρ' c = σ c := fun c h1 h2 => by
    rw [rc c (by omega) (fun z => h2 (by subst z; unfold ab_sc; omega)) (fun z => h2 (by subst z; unfold ab_sc; omega)), b5.1 c h2 (by omega), hρ c (by omega)]
  have lo : ∀ c, c < 292 → ρ' c = ρ c := fun c h1 => by rw [rc c (by omega) (by omega) (by omega), b6 c h1]
  have hk : ∀ k, ¬ ab_sf k → k ≠ 22 → ρ' 292 k = σ 292 k := fun k h1 h2 => by
    have h3 : k < 22 ∨ 27 ≤ k := by
      by_cases z : 23 ≤ k ∧ k < 28
      · exact absurd (by unfold ab_sf; omega) h1
      · omega
    rw [rk k h3, b5.2 k h1, hρ 292 (by decide)]
  have k4 : ρ' 292 4 = 0 := by rw [rk 4 (by omega), b4]
  unfold ab_sc at hi
  rcases h with ⟨h1, h2, h3, h4⟩ | ⟨h1, h2, h3, m, hm10, m1, m2, hcm⟩
  · -- the text is malformed
    have t0 : ∀ c, c ≠ 0 → (c < 284 ∨ 290 ≤ c) → q_up σ' 0 10 (ab_I p) c = σ c := fun c a b => by rw [ab_up_ne a, fc c a b]
    refine ⟨2, 0, q_up σ' 0 10 (ab_I p), 0, q_up (q_up ρ' 292 12 (ab_I p)) 292 4 1, ?_, ?_, fun c hc => t0 c (by omega) (by omega), .inr (.inl rfl), rfl, fun z => absurd z (by decide), fun hl => ?_⟩
    · unfold f_X9_read
      rw [h1, Option.bind_some, if_neg (by rw [ab_Iltc (by omega) (by have := hTx.1; omega)]; exact id)]
    · unfold f_X10_read
      rw [b1, Option.bind_some, h2, Option.bind_some, h3, if_neg (show ¬ (1 : Int32) = 0 by decide), h4]
      rfl
    · have l1 : ∀ c, c < 292 → q_up (q_up ρ' 292 12 (ab_I p)) 292 4 1 c = q_up σ' 0 10 (ab_I p) c := fun c hc => by
        rw [ab_up_ne (by omega), ab_up_ne (by omega), lo c hc, hl c hc]
      have l2 : ∀ c, c ≠ 0 → (c < 284 ∨ 290 ≤ c) → c < 292 → q_up (q_up ρ' 292 12 (ab_I p)) 292 4 1 c = σ c := fun c a b d => by rw [l1 c d, t0 c a b]
      have l3 : ∀ c, 292 < c → ¬ ab_sc c → q_up (q_up ρ' 292 12 (ab_I p)) 292 4 1 c = σ c := fun c a b => by rw [ab_up_ne (by omega), ab_up_ne (by omega), hi c a (by unfold ab_sc at b; exact b)]
      have l4 : ∀ k, ¬ ab_sf k → k ≠ 22 → k ≠ 12 → q_up (q_up ρ' 292 12 (ab_I p)) 292 4 1 292 k = σ 292 k := fun k a b d => by rw [ab_up_nk (fun z => a (by unfold ab_sf; omega)), ab_up_nk d, hk k a b]
      unfold ab_sc at l3
      unfold ab_sf at l4
      refine ⟨D, ⟨hC.same hW.2.1 (fun c a b => l2 c (by omega) (by omega) (by omega)), fun k hk => by rw [l3 293 (by decide) (by decide)]; exact hM k hk, hW.mono (by omega)⟩, rd_O hO (by omega) ?_ (hR.same (l2 27 (by omega) (by omega) (by omega)) (fun k a b => l4 k (by omega) (by omega) (by omega))) ?_ (fun c hc => ?_) (fun k h => l4 k (by omega) (by omega) (by omega)) ?_ ?_ ?_⟩
      · exact ⟨nx, ct, E, hHc.same hHw (l2 53 (by omega) (by omega) (by omega)) (fun c a b => l2 c (by omega) (by omega) (by omega)), hHm.same (l4 5 (by omega) (by omega) (by omega)) (l3 296 (by decide) (by decide)), hHw.mono (by omega)⟩
      · rw [l1 0 (by decide), ab_up_nk (by decide), fk 4 (by decide)]
      · by_cases c292 : c < 292
        · exact l2 c (by omega) (by omega) c292
        · exact l3 c (by omega) (by omega)
      · rw [l1 0 (by decide), ab_up_at, ab_up_nk (by decide), ab_up_at]
      · rw [l1 0 (by decide), ab_up_nk (by decide), f8]
      · rw [ab_up_nk (by decide), ab_up_nk (by decide), r22']
  · -- the commands are carried out
    have hC' : ab_CR σ' 2 D := hC.same hW.2.1 (fun c a b => fc c (by omega) (by omega))
    obtain ⟨τ0, n1, n2, n3⟩ := ab_note hC' hW
    have s0 : ∀ c, c ≠ 0 → (c < 55 ∨ (80 ≤ c ∧ c < 284) ∨ 290 ≤ c) → τ0 c = σ c := fun c a b => by rw [n3 c (by omega), fc c a (by omega)]
    have hcm' : ∀ k, k < m → rd_cm τ0 ρ' k := fun k hk => by
      obtain ⟨j, g1, g2⟩ := hcm k hk
      refine ⟨j, g1, ?_⟩
      rw [n3 285 (by omega), n3 286 (by omega), n3 287 (by omega), n3 288 (by omega)]
      exact g2
    have hb2 : ab_MR ρ' 294 0 D := fun k hk => by rw [rc 294 (by decide) (by decide) (by decide)]; exact b2 k hk
    have hMρ' : ab_MR ρ' 293 0 D := fun k hk => by rw [rc 293 (by decide) (by decide) (by decide)]; exact b3 k hk
    have hHc0 : ab_Hc τ0 nx ct E := hHc.same hHw (s0 53 (by omega) (by omega)) (fun c a b => s0 c (by omega) (by omega))
    have hHm0 : ab_Hm ρ' ct E := hHm.same (hk 5 (by unfold ab_sf; omega) (by decide)) (hi 296 (by decide) (by decide))
    have hdo := rd_do_lp (σ0 := τ0) (ρ0 := ρ') (D0 := D) (B := 200 * t) (nx := nx) (ct := ct) (m := m) (E := E) hm10 (by omega) (by rw [n3 284 (by omega)]; exact m1) m2 hcm' n2 hb2 hW hHc0 hHm0 hHw m 0 (by omega) q_fu q_fu (by unfold q_fu; omega) (by unfold q_fu; omega) τ0 ρ' D (fun _ _ => rfl) ⟨fun _ _ _ _ => rfl, fun _ _ => rfl⟩ (hC'.same hW.2.1 (fun c a b => n3 c (by omega))) hMρ' (hW.mono (by omega))
    have er : f_X9_read σ = f_X9_read_56 q_fu (ab_I ((0 : Nat) : Int)) τ0 := by
      unfold f_X9_read
      rw [h1, Option.bind_some, if_pos (show (-1 : Int32) < 0 by decide), n1, Option.bind_some]
      rfl
    have er2 : f_X10_read ρ = f_X10_read_31 q_fu (ab_I ((0 : Nat) : Int)) ρ' := by
      unfold f_X10_read
      rw [b1, Option.bind_some, h2, Option.bind_some, h3, if_pos rfl]
      rfl
    rw [er, er2]
    have z08 : τ0 0 8 = 0 := by rw [n3 0 (by omega)]; exact f8
    have z0k : ∀ k, k ≠ 8 → τ0 0 k = σ 0 k := fun k hk => by rw [n3 0 (by omega)]; exact fk k hk
    rcases hdo with ⟨τ, υ, d1, d2, d3, d4, d5, d6, d7, d8, d9, d10, d11, d12⟩ | ⟨D2, τ, υ, d1, d2, d3, d4, d5, d6, d7, d8, d9, d10, d11⟩
    · refine ⟨3, 0, τ, 0, υ, d1, d2, fun c hc => by rw [d4 c (by omega), s0 c (by omega) (by omega)], .inr (.inr rfl), d10, fun z => absurd z (by decide), fun hl => ?_⟩
      have l1 : ∀ c, c < 292 → υ c = τ c := fun c hc => by rw [d11 c (.inr hc) (by omega) (by omega), lo c hc, hl c hc]
      have l2 : ∀ c, c ≠ 0 → (c < 2 ∨ (28 ≤ c ∧ c < 55) ∨ (80 ≤ c ∧ c < 284) ∨ 290 ≤ c) → c < 292 → υ c = σ c := fun c a b d => by rw [l1 c d, d4 c (by omega), s0 c a (by omega)]
      have l3 : ∀ c, 293 < c → ¬ ab_sc c → υ c = σ c := fun c a b => by rw [d11 c (.inl b) (by omega) (by omega), hi c (by omega) (by unfold ab_sc at b; exact b)]
      have l4 : ∀ k, ¬ ab_sf k → k ≠ 22 → (k < 8 ∨ 12 ≤ k) → υ 292 k = σ 292 k := fun k a b d => by rw [d12 k a d, hk k a b]
      unfold ab_sc at l3
      unfold ab_sf at l4
      refine ⟨D, ⟨d3.same hW.2.1 (fun c a b => l1 c (by omega)), d9, hW.mono (by omega)⟩, rd_O hO (by omega) ?_ ⟨?_, ?_, ?_, fun z => ?_⟩ ?_ (fun c hc => ?_) (fun k h => l4 k (by omega) (by omega) (by omega)) ?_ ?_ ?_⟩
      · exact ⟨nx, ct, E, hHc.same hHw (l2 53 (by omega) (by omega) (by omega)) (fun c a b => l2 c (by omega) (by omega) (by omega)), hHm.same (l4 5 (by omega) (by omega) (by omega)) (l3 296 (by decide) (by decide)), hHw.mono (by omega)⟩
      · rw [l1 27 (by decide)]; exact d5
      · rw [l1 27 (by decide)]; exact d6
      · rw [l1 27 (by decide)]; exact d7
      · rw [l1 27 (by decide)] at z ⊢; exact d8 z
      · rw [l1 0 (by decide), d4 0 (by omega), z0k 4 (by decide)]
      · by_cases c292 : c < 292
        · exact l2 c (by omega) (by omega) c292
        · exact l3 c (by omega) (by omega)
      · rw [l1 0 (by decide), d4 0 (by omega), z0k 10 (by decide), l4 12 (by omega) (by omega) (by omega)]
        exact hm
      · rw [l1 0 (by decide), d4 0 (by omega), z08]
      · rw [d12 22 (by unfold ab_sf; omega) (by omega), r22']
    · refine ⟨0, ab_I m, τ, ab_I m, υ, d1, d2, fun c hc => by rw [d8 c (by omega), s0 c (by omega) (by omega)], .inl rfl, by rw [d9, k4]; rfl, fun _ => rfl, fun hl => ?_⟩
      have l1 : ∀ c, c < 292 → υ c = τ c := fun c hc => by rw [d10 c (.inr hc) (by omega) (by omega) (by omega), lo c hc, hl c hc]
      have l2 : ∀ c, c ≠ 0 → (c < 2 ∨ (27 ≤ c ∧ c < 53) ∨ (280 ≤ c ∧ c < 284) ∨ 290 ≤ c) → c < 292 → υ c = σ c := fun c a b d => by rw [l1 c d, d8 c (by omega), s0 c a (by omega)]
      have l3 : ∀ c, 293 < c → c ≠ 296 → ¬ ab_sc c → υ c = σ c := fun c a d b => by rw [d10 c (.inl b) (by omega) (by omega) d, hi c (by omega) (by unfold ab_sc at b; exact b)]
      have l4 : ∀ k, ¬ ab_sf k → k ≠ 22 → k ≠ 5 → υ 292 k = σ 292 k := fun k a b d => by rw [d11 k a d, hk k a b]
      unfold ab_sc at l3
      unfold ab_sf at l4
      refine ⟨D2, ⟨d3.same d5.2.1 (fun c a b => l1 c (by omega)), d4, d5.mono (by omega)⟩, rd_O hO (by omega) ?_ (hR.same (l2 27 (by omega) (by omega) (by omega)) (fun k a b => l4 k (by omega) (by omega) (by omega))) ?_ (fun c hc => ?_) (fun k h => l4 k (by omega) (by omega) (by omega)) ?_ ?_ ?_⟩
      · exact ⟨_, _, _, d6.same (ab_nHw hHw hW) (l1 53 (by decide)) (fun c a b => l1 c (by omega)), d7, (ab_nHw hHw hW).mono (by omega)⟩
      · rw [l1 0 (by decide), d8 0 (by omega), z0k 4 (by decide)]
      · by_cases c292 : c < 292
        · exact l2 c (by omega) (by omega) c292
        · exact l3 c (by omega) (by omega) (by omega)
      · rw [l1 0 (by decide), d8 0 (by omega), z0k 10 (by decide), l4 12 (by omega) (by omega) (by omega)]
        exact hm
      · rw [l1 0 (by decide), d8 0 (by omega), z08]
      · rw [d11 22 (by unfold ab_sf; omega) (by omega), r22']
theorem ab_ok_24 {t : Nat} {σ : q_S} (hI : ab_Inv t σ) (ht : t < 512) (a b c : Int32) : w_ok_24 σ a b c (ab_Inv (t + 1)) := by
  obtain ⟨e, v, τ, w, υ, h1, _, h3, _, _, _, _⟩ := rd_both hI ht (ρ := σ) (fun _ _ => rfl)
  obtain ⟨e', v', τ', w', υ', g1, g2, g3, g4, g5, g6, g7⟩ := rd_both hI ht (ρ := τ) h3
  rw [h1] at g1
  have e1 : (e, v, τ) = (e', v', τ') := Option.some.inj g1
  have e2 : e = e' := congrArg Prod.fst e1
  have e3 : v = v' := congrArg (fun x => x.2.1) e1
  have e4 : τ = τ' := congrArg (fun x => x.2.2) e1
  subst e2 e3 e4
  exact ⟨e, v, w', τ, υ', h1, g4, g2, g5, g6, g7 (fun _ _ => rfl)⟩
