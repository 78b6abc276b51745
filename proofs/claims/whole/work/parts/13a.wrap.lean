/-! a command as a call: noted, carried out or refused, kept -/
theorem ab_O.frames {B B2 : Int} {σ τ : q_S} (h : ab_O B σ) (hB : B ≤ B2) (hH : ab_H B2 τ) (hR : ab_R τ)
    (g : ∀ c, (c < 2 ∨ (28 ≤ c ∧ c < 53) ∨ c = 283 ∨ c = 290 ∨ c = 291 ∨ c = 295 ∨ c = 299 ∨ c = 302) → τ c = σ c) (k : ∀ k, (k = 12 ∨ k = 13 ∨ k = 22 ∨ k = 29) → τ 292 k = σ 292 k) : ab_O B2 τ := by
  obtain ⟨-, h2, -, h4, h5, h6⟩ := h
  refine ⟨hH, h2.same hB (by rw [g 0 (by decide)]) (k _ (by decide)) (fun c a b => g c (by omega)) (g _ (by decide)), hR, ?_, h5.same (by rw [g 0 (by decide)]) (k _ (by decide)) (g _ (by decide)) (g _ (by decide)), h6.same (g _ (by decide)) (k _ (by decide)) (g _ (by decide)) (g _ (by decide))⟩
  rw [g 0 (by decide), k 12 (by decide)]
  exact h4
theorem ab_neg {v : Int} (h0 : 0 ≤ v) (h1 : v ≤ 1000000) : ab_I v ≠ -1 ∧ ab_I v ≠ -2 ∧ ab_I v ≠ -3 := by
  refine ⟨?_, ?_, ?_⟩
  · rw [show (-1 : Int32) = ab_I (-1) from rfl, Ne, ab_Ieq (by omega) (by omega) (by omega) (by omega)]; omega
  · rw [show (-2 : Int32) = ab_I (-2) from rfl, Ne, ab_Ieq (by omega) (by omega) (by omega) (by omega)]; omega
  · rw [show (-3 : Int32) = ab_I (-3) from rfl, Ne, ab_Ieq (by omega) (by omega) (by omega) (by omega)]; omega
theorem ab_refuse {σ : q_S} {w n : Int32} : (f_X7_refuse σ w n).1 = -3 ∧ (f_X7_refuse σ w n).2 27 0 = w ∧ (f_X7_refuse σ w n).2 27 1 = n ∧ (f_X7_refuse σ w n).2 27 2 = 0 ∧ ∀ c, c ≠ 27 → (f_X7_refuse σ w n).2 c = σ c := by
  refine ⟨rfl, rfl, rfl, rfl, fun c hc => ?_⟩
  show q_up (q_up (q_up (q_up σ 27 0 w) 27 1 n) 27 2 0) 27 3 0 c = σ c
  rw [ab_up_ne hc, ab_up_ne hc, ab_up_ne hc, ab_up_ne hc]
/-- the four ways, each as the class tells it: what the second program must then say -/
theorem ab_sim1 {B : Int} {σ σ' : q_S} {rc : Option (Int32 × q_S)} {bad : Nat → Prop} {isr : Option (Int32 × q_S)} {carry : q_S → Option (Int32 × q_S)} (h : ab_sim B σ σ' rc bad isr carry) {τ : q_S} (hr : rc = some (-1, τ)) : bad 1 := by
  rcases h with ⟨h1, h2⟩ | ⟨h1, h2⟩ | ⟨h1, w, n, υ, h2, h3, -⟩ | ⟨h1, v, D2, τ2, υ, υ2, v0, v1, h2, -⟩
  · exact h1
  · rw [hr] at h2; exact absurd (congrArg Prod.fst (Option.some.inj h2)) (show ¬ ((-1 : Int32) = -2) by decide)
  · rw [hr] at h3; exact absurd ((congrArg Prod.fst (Option.some.inj h3)).trans ab_refuse.1) (show ¬ ((-1 : Int32) = -3) by decide)
  · rw [hr] at h2; exact absurd (congrArg Prod.fst (Option.some.inj h2)).symm (ab_neg v0 v1).1
theorem ab_sim2 {B : Int} {σ σ' : q_S} {rc : Option (Int32 × q_S)} {bad : Nat → Prop} {isr : Option (Int32 × q_S)} {carry : q_S → Option (Int32 × q_S)} (h : ab_sim B σ σ' rc bad isr carry) {τ : q_S} (hr : rc = some (-2, τ)) : bad 2 := by
  rcases h with ⟨h1, h2⟩ | ⟨h1, h2⟩ | ⟨h1, w, n, υ, h2, h3, -⟩ | ⟨h1, v, D2, τ2, υ, υ2, v0, v1, h2, -⟩
  · rw [hr] at h2; exact absurd (congrArg Prod.fst (Option.some.inj h2)) (show ¬ ((-2 : Int32) = -1) by decide)
  · exact h1
  · rw [hr] at h3; exact absurd ((congrArg Prod.fst (Option.some.inj h3)).trans ab_refuse.1) (show ¬ ((-2 : Int32) = -3) by decide)
  · rw [hr] at h2; exact absurd (congrArg Prod.fst (Option.some.inj h2)).symm (ab_neg v0 v1).2.1
theorem ab_sim3 {B : Int} {σ σ' : q_S} {rc : Option (Int32 × q_S)} {bad : Nat → Prop} {isr : Option (Int32 × q_S)} {carry : q_S → Option (Int32 × q_S)} (h : ab_sim B σ σ' rc bad isr carry) {w n : Int32} (hr : rc = some (f_X7_refuse σ w n)) : bad 0 ∧ ∃ υ, isr = some (1, υ) ∧ ab_fR σ' υ ∧ υ 292 6 = w ∧ υ 292 7 = n := by
  rcases h with ⟨h1, h2⟩ | ⟨h1, h2⟩ | ⟨h1, w2, n2, υ, h2, h3, h4, h5, h6, h7⟩ | ⟨h1, v, D2, τ2, υ, υ2, v0, v1, h2, -⟩
  · rw [hr] at h2; exact absurd (ab_refuse.1.symm.trans (congrArg Prod.fst (Option.some.inj h2))) (show ¬ ((-3 : Int32) = -1) by decide)
  · rw [hr] at h2; exact absurd (ab_refuse.1.symm.trans (congrArg Prod.fst (Option.some.inj h2))) (show ¬ ((-3 : Int32) = -2) by decide)
  · rw [hr] at h3
    have e := congrArg Prod.snd (Option.some.inj h3)
    have e0 : w = w2 := by rw [← (ab_refuse (σ := σ) (w := w) (n := n)).2.1, e]; exact ab_refuse.2.1
    have e1 : n = n2 := by rw [← (ab_refuse (σ := σ) (w := w) (n := n)).2.2.1, e]; exact ab_refuse.2.2.1
    exact ⟨h1, υ, h4, h5, h6.trans e0.symm, h7.trans e1.symm⟩
  · rw [hr] at h2; exact absurd ((congrArg Prod.fst (Option.some.inj h2)).symm.trans ab_refuse.1) (ab_neg v0 v1).2.2
theorem ab_sim4 {B : Int} {σ σ' : q_S} {rc : Option (Int32 × q_S)} {bad : Nat → Prop} {isr : Option (Int32 × q_S)} {carry : q_S → Option (Int32 × q_S)} (h : ab_sim B σ σ' rc bad isr carry) {v : Int} {τ : q_S} (v0 : 0 ≤ v) (v1 : v ≤ 1000000) (hr : rc = some (ab_I v, τ)) : bad 0 ∧ ∃ (D2 : Nat → Int) (υ υ2 : q_S), isr = some (0, υ) ∧ ab_fR σ' υ ∧ carry υ = some (ab_I v, υ2) ∧ ab_MR υ2 293 0 D2 ∧ ab_CR τ 2 D2 ∧ ab_WD (B + 20) D2 ∧ ab_fC σ τ ∧ ab_fM υ υ2 := by
  rcases h with ⟨h1, h2⟩ | ⟨h1, h2⟩ | ⟨h1, w2, n2, υ, h2, h3, -⟩ | ⟨h1, v2, D2, τ2, υ, υ2, q0, q1, h2, h3, h4, h5, h6, h7, h8, h9, h10⟩
  · rw [hr] at h2; exact absurd (congrArg Prod.fst (Option.some.inj h2)) (ab_neg v0 v1).1
  · rw [hr] at h2; exact absurd (congrArg Prod.fst (Option.some.inj h2)) (ab_neg v0 v1).2.1
  · rw [hr] at h3; exact absurd ((congrArg Prod.fst (Option.some.inj h3)).trans ab_refuse.1) (ab_neg v0 v1).2.2
  · rw [hr] at h2
    have e0 := congrArg Prod.fst (Option.some.inj h2)
    have e1 := congrArg Prod.snd (Option.some.inj h2)
    have e2 : ab_I v = ab_I v2 := e0
    have e3 : τ = τ2 := e1
    rw [e2, e3]
    exact ⟨h1, D2, υ, υ2, h3, h4, h5, h6, h7, h8, h9, h10⟩
theorem ab_wrap {t : Nat} {σ : q_S} (hI : ab_Inv t σ) (ht : t < 512) {rc : q_S → Option (Int32 × q_S)} {bad : q_S → Nat → Prop} {isr : q_S → Option (Int32 × q_S)} {carry : q_S → Option (Int32 × q_S)}
    (sim : ∀ (σ σ' : q_S) (D : Nat → Int) (B : Int), ab_CR σ 2 D → ab_MR σ' 293 0 D → ab_WD B D → B ≤ 1000000000 → ab_sim B σ σ' (rc σ) (bad σ') (isr σ') carry) :
    ∃ τ0, f_X3_note σ 2 = some τ0 ∧
    ((rc τ0 = some (-1, τ0) ∧ ∃ υ0, f_X10_begins τ0 = some υ0 ∧ bad υ0 1 ∧ ∀ w, ab_Inv (t + 1) (q_up υ0 292 4 w)) ∨
    (rc τ0 = some (-2, τ0) ∧ ∃ υ0, f_X10_begins τ0 = some υ0 ∧ bad υ0 2 ∧ ∀ w, ab_Inv (t + 1) (q_up υ0 292 4 w)) ∨
    (∃ (w n : Int32) (υ0 υ1 : q_S), rc τ0 = some (f_X7_refuse τ0 w n) ∧ f_X10_begins (f_X7_refuse τ0 w n).2 = some υ0 ∧ bad υ0 0 ∧ isr υ0 = some (1, υ1) ∧ ∀ z, ab_Inv (t + 1) (f_X10_refused υ1 z).2 ∧ (f_X10_refused υ1 z).2 292 4 = z) ∨
    (∃ (v : Int) (τ1 τ2 υ0 υ1 υ2 υ3 : q_S), 0 ≤ v ∧ v ≤ 1000000 ∧ rc τ0 = some (ab_I v, τ1) ∧ f_X3_keep τ1 = some τ2 ∧ f_X10_begins τ2 = some υ0 ∧ bad υ0 0 ∧ isr υ0 = some (0, υ1) ∧ carry υ1 = some (ab_I v, υ2) ∧ f_X10_keeps υ2 (ab_I v) = some (ab_I v, υ3) ∧ υ3 292 4 = 0 ∧ ab_Inv (t + 1) υ3)) := by
  obtain ⟨D, ⟨hC, hM, hW⟩, hO⟩ := hI
  have hO2 := hO
  obtain ⟨⟨nx, ct, E, hHc, hHm, hHw⟩, hS, hR, hm, hT, hL⟩ := hO2
  have hB : (200 * t : Int) ≤ 1000000000 := by omega
  obtain ⟨τ0, n1, n2, n3⟩ := ab_note hC hW
  refine ⟨τ0, n1, ?_⟩
  have c0 : ab_CR τ0 2 D := hC.same hW.2.1 (fun c a b => n3 c (by omega))
  have m0 : ab_MR τ0 293 0 D := fun k hk => by rw [n3 293 (by omega)]; exact hM k hk
  have e0 : ab_eq σ τ0 := ⟨fun c a b => n3 c (by unfold ab_sc at a; omega), fun k _ => by rw [n3 292 (by omega)]⟩
  -- the second program behind a call that has changed nothing
  have bad0 : ∃ υ0, f_X10_begins τ0 = some υ0 ∧ ab_MR υ0 293 0 D ∧ ∀ w, ab_Inv (t + 1) (q_up υ0 292 4 w) := by
    obtain ⟨υ0, b1, b2, b3, b4, b5, b6⟩ := ab_begins m0
    have hII : ab_Inv t σ := ⟨D, ⟨hC, hM, hW⟩, hO⟩
    exact ⟨υ0, b1, b3, fun w => hII.same ((e0.trans b5).trans (ab_eq.up (.inr ⟨rfl, .inl rfl⟩)))⟩
  rcases sim τ0 τ0 D (200 * t) c0 m0 hW hB with ⟨-, h2⟩ | ⟨-, h2⟩ | ⟨-, w, n, υ, hw0, h2, -⟩ | ⟨-, v, D2, τ1, υ, υ2, v0, v1, h2, -, -, -, -, hc2, hw2, hfc, -⟩
  · left
    obtain ⟨υ0, b1, b2, b3⟩ := bad0
    exact ⟨h2, υ0, b1, ab_sim1 (sim τ0 υ0 D (200 * t) c0 b2 hW hB) h2, b3⟩
  · right; left
    obtain ⟨υ0, b1, b2, b3⟩ := bad0
    exact ⟨h2, υ0, b1, ab_sim2 (sim τ0 υ0 D (200 * t) c0 b2 hW hB) h2, b3⟩
  · right; right; left
    obtain ⟨r1, r2, r3, r4, r5⟩ := ab_refuse (σ := τ0) (w := w) (n := n)
    generalize hτ1 : (f_X7_refuse τ0 w n).2 = τ1 at r2 r3 r4 r5
    have m1 : ab_MR τ1 293 0 D := fun k hk => by rw [r5 293 (by decide)]; exact m0 k hk
    obtain ⟨υ0, b1, b2, b3, b4, b5, b6⟩ := ab_begins m1
    obtain ⟨g1, υ1, g2, ⟨g3, g4, g5, -⟩, g6, g7⟩ := ab_sim3 (sim τ0 υ0 D (200 * t) c0 b3 hW hB) h2
    refine ⟨w, n, υ0, υ1, h2, by rw [hτ1]; exact b1, g1, g2, fun z => ?_⟩
    obtain ⟨υ2, f1, f2, f3, f4, f5, f6, f7⟩ := ab_refused (σ := υ1) (w := z)
    rw [f1]
    show ab_Inv (t + 1) υ2 ∧ υ2 292 4 = z
    have ee : ab_eq τ1 υ1 := b5.trans g3
    have lo : ∀ c, c < 292 → c ≠ 27 → ¬ (55 ≤ c ∧ c < 80) → υ2 c = σ c := fun c a b d => by rw [f6 c (by omega), g5 c a, b6 c a, r5 c b, n3 c (by omega)]
    have hi : ∀ c, 292 < c → ¬ ab_sc c → υ2 c = σ c := fun c a b => by rw [f6 c (by omega), ee.1 c b (by omega), r5 c (by omega), n3 c (by omega)]
    have hk : ∀ k, ¬ ab_sf k → (k < 8 ∨ 11 ≤ k) → υ2 292 k = σ 292 k := fun k a b => by
      have a4 : k ≠ 4 := fun z => a (by unfold ab_sf; omega)
      rw [f7 k a4 b, ee.2 k a, r5 292 (by decide), n3 292 (by omega)]
    have l27 : υ2 27 = τ1 27 := by rw [f6 27 (by decide), g5 27 (by decide), b6 27 (by decide)]
    unfold ab_sc at hi
    unfold ab_sf at hk
    refine ⟨⟨D, ⟨hC.same hW.2.1 (fun c a b => lo c (by omega) (by omega) (by omega)), fun k hk => by rw [hi 293 (by decide) (by decide)]; exact hM k hk, hW.mono (by omega)⟩, ?_⟩, f5⟩
    refine hO.frames (by omega) ?_ ⟨?_, ?_, ?_, fun z => ?_⟩ (fun c hc => ?_) (fun k h => hk k (by omega) (by omega))
    · exact ⟨nx, ct, E, hHc.same hHw (lo 53 (by decide) (by decide) (by decide)) (fun c a b => lo c (by omega) (by omega) (by omega)), hHm.same (hk 5 (by decide) (by decide)) (hi 296 (by decide) (by decide)), hHw.mono (by omega)⟩
    · rw [l27, r2, f2, g6]
    · rw [l27, r3, f3, g7]
    · rw [l27, r4, f4]
    · rw [l27, r4] at z; exact absurd rfl z
    · by_cases c292 : c < 292
      · exact lo c c292 (by omega) (by omega)
      · exact hi c (by omega) (by omega)
  · right; right; right
    have hHc1 : ab_Hc τ1 nx ct E := hHc.same hHw (by rw [hfc 53 (by omega), n3 53 (by omega)]) (fun c a b => by rw [hfc c (by omega), n3 c (by omega)])
    have c1 : ab_CR τ1 55 D := n2.same hW.2.1 (fun c a b => hfc c (by omega))
    obtain ⟨τ2, k1, k2, k3⟩ := ab_keep hHc1 hHw c1 hW
    have m2 : ab_MR τ2 293 0 D := fun k hk => by rw [k3 293 (by omega), hfc 293 (by omega)]; exact m0 k hk
    obtain ⟨υ0, b1, b2, b3, b4, b5, b6⟩ := ab_begins m2
    obtain ⟨g1, D3, υ1, υ2, g2, ⟨g3, g4, g5, gt, -⟩, g6, g7, g8, g9, g10, g11, g12⟩ := ab_sim4 (sim τ0 υ0 D (200 * t) c0 b3 hW hB) v0 v1 h2
    have ee : ab_eq τ2 υ1 := b5.trans g3
    have hm2 : ab_Hm υ2 ct E := hHm.same (by rw [g12 5 (by unfold ab_sf; omega), ee.2 5 (by unfold ab_sf; omega), k3 292 (by omega), hfc 292 (by omega), n3 292 (by omega)]) (by rw [g11 296 (by decide) (by decide), ee.1 296 (by unfold ab_sc; omega) (by decide), k3 296 (by omega), hfc 296 (by omega), n3 296 (by omega)])
    have b294 : ab_MR υ2 294 0 D := fun k hk => by rw [g11 294 (by decide) (by decide), g4]; exact b2 k hk
    obtain ⟨υ3, p1, p2, p3, p4⟩ := ab_keeps (v := ab_I v) hm2 hHw.2.1 b294
    have lo : ∀ c, c < 292 → υ3 c = τ2 c := fun c a => by rw [p3 c (by omega) (by omega), g11 c (by omega) (by omega), g5 c a, b6 c a]
    have lo2 : ∀ c, c < 292 → ¬ (2 ≤ c ∧ c < 27) → c ≠ 53 → ¬ (55 ≤ c ∧ c < 280) → υ3 c = σ c := fun c a b d e => by rw [lo c a, k3 c (by omega), hfc c (by omega), n3 c (by omega)]
    have hi : ∀ c, 293 < c → c ≠ 296 → ¬ ab_sc c → υ3 c = σ c := fun c a d b => by rw [p3 c (by omega) d, g11 c (by omega) (by omega), ee.1 c b (by omega), k3 c (by omega), hfc c (by omega), n3 c (by omega)]
    have hk : ∀ k, ¬ ab_sf k → k ≠ 5 → υ3 292 k = σ 292 k := fun k a b => by rw [p4 k b, g12 k (.inl a), ee.2 k a, k3 292 (by omega), hfc 292 (by omega), n3 292 (by omega)]
    unfold ab_sc at hi
    unfold ab_sf at hk
    refine ⟨v, τ1, τ2, υ0, υ1, υ2, υ3, v0, v1, h2, k1, b1, g1, g2, g6, p1, ?_, D3, ⟨?_, ?_, g9.mono (by omega)⟩, ?_⟩
    · rw [p4 4 (by decide), g12 4 (.inr (.inl rfl)), gt, b4]
    · exact g8.same g9.2.1 (fun c a b => by rw [lo c (by omega), k3 c (by omega)])
    · intro k hk
      rw [p3 293 (by decide) (by decide)]
      exact g7 k hk
    · refine hO.frames (by omega) ?_ (hR.same ?_ (fun k a b => hk k (by omega) (by omega))) (fun c hc => ?_) (fun k h => hk k (by omega) (by omega))
      · exact ⟨_, _, _, k2.same (B := 200 * t) (ab_nHw hHw hW) (lo 53 (by decide)) (fun c a b => lo c (by omega)), p2, (ab_nHw hHw hW).mono (by omega)⟩
      · exact lo2 27 (by decide) (by decide) (by decide) (by decide)
      · by_cases c292 : c < 292
        · exact lo2 c c292 (by omega) (by omega) (by omega)
        · exact hi c (by omega) (by omega) (by omega)
