theorem q_aldp {X : q_X} {G : q_G} {x : q_A} {nL d : Nat} {Q : State → Prop} {k n pc : Nat} {lv : List (Nat × Value)} {st : List Value} {σ : q_S} {own : String} {cc : ByteArray} (hx : q_Cx X G own cc nL d) {c : Nat} {i : Int32} (hd : decode cc pc = .ok (.aaload, 1)) (hc : q_kd c = 40000) (hi : vp_in i 5) (kk : q_Wq X G x nL Q k n (pc + 1) lv (.ref (G.2.1 + (c + (8 + 3 * i.toNatClampNeg))) :: st) σ) : q_Wq X G x nL Q k n pc lv (.int i :: .ref (G.2.1 + c) :: st) σ := by
  obtain ⟨p, l, e, R, s, m, args, below, meth, c0⟩ := X
  intro H locs ls hR hS hl
  obtain ⟨hexec, hb, hml, hown, hlk, hroom, hAw, hK, hT⟩ := hx
  have hg : (q_wl G σ x)[c]? = some (G.2.1 + c, .inl (G.2.2.1 3, 5, .inr (.inr (.inr (.inr (fun j => if j < 5 then some (G.2.1 + (c + (8 + 3 * j))) else none)))))) := by rw [q_wl_get (q_kd_lt hc (by decide)), q_ep hc]
  refine va_aldq hexec hb hK hR c 3 hg rfl hi hd ?_
  have hlt : i.toNatClampNeg < 5 := Nat.not_le.mp fun q => hi (Or.inr q)
  have e1 : va_rf ((fun j => if j < 5 then some (G.2.1 + (c + (8 + 3 * j))) else none) i.toNatClampNeg) = .ref (G.2.1 + (c + (8 + 3 * i.toNatClampNeg))) := by
    show va_rf (if i.toNatClampNeg < 5 then _ else _) = _
    rw [if_pos hlt]; rfl
  rw [e1]
  exact kk H locs ls hR hS hl
theorem q_aldd {X : q_X} {G : q_G} {x : q_A} {nL d : Nat} {Q : State → Prop} {k n pc : Nat} {lv : List (Nat × Value)} {st : List Value} {σ : q_S} {own : String} {cc : ByteArray} (hx : q_Cx X G own cc nL d) {c : Nat} {i : Int32} (hd : decode cc pc = .ok (.aaload, 1)) (hc : q_kd c = 50000) (hi : vp_in i 8) (kk : q_Wq X G x nL Q k n (pc + 1) lv (.ref (G.2.1 + (80 + 25 * i.toNatClampNeg)) :: st) σ) : q_Wq X G x nL Q k n pc lv (.int i :: .ref (G.2.1 + c) :: st) σ := by
  obtain ⟨p, l, e, R, s, m, args, below, meth, c0⟩ := X
  intro H locs ls hR hS hl
  obtain ⟨hexec, hb, hml, hown, hlk, hroom, hAw, hK, hT⟩ := hx
  have hg : (q_wl G σ x)[c]? = some (G.2.1 + c, .inl (G.2.2.1 4, 8, .inr (.inr (.inr (.inr (fun j => if j < 8 then some (G.2.1 + (80 + 25 * j)) else none)))))) := by rw [q_wl_get (q_kd_lt hc (by decide)), q_ed hc]
  refine va_aldq hexec hb hK hR c 4 hg rfl hi hd ?_
  have hlt : i.toNatClampNeg < 8 := Nat.not_le.mp fun q => hi (Or.inr q)
  have e1 : va_rf ((fun j => if j < 8 then some (G.2.1 + (80 + 25 * j)) else none) i.toNatClampNeg) = .ref (G.2.1 + (80 + 25 * i.toNatClampNeg)) := by
    show va_rf (if i.toNatClampNeg < 8 then _ else _) = _
    rw [if_pos hlt]; rfl
  rw [e1]
  exact kk H locs ls hR hS hl
theorem q_alenp {X : q_X} {G : q_G} {x : q_A} {nL d : Nat} {Q : State → Prop} {k n pc : Nat} {lv : List (Nat × Value)} {st : List Value} {σ : q_S} {own : String} {cc : ByteArray} (hx : q_Cx X G own cc nL d) {c : Nat} (hd : decode cc pc = .ok (.arraylength, 1)) (hc : q_kd c = 40000) (kk : q_Wq X G x nL Q k n (pc + 1) lv (.int 5 :: st) σ) : q_Wq X G x nL Q k n pc lv (.ref (G.2.1 + c) :: st) σ := by
  obtain ⟨p, l, e, R, s, m, args, below, meth, c0⟩ := X
  intro H locs ls hR hS hl
  obtain ⟨hexec, hb, hml, hown, hlk, hroom, hAw, hK, hT⟩ := hx
  have hg : (q_wl G σ x)[c]? = some (G.2.1 + c, .inl (G.2.2.1 3, 5, .inr (.inr (.inr (.inr (fun j => if j < 5 then some (G.2.1 + (c + (8 + 3 * j))) else none)))))) := by rw [q_wl_get (q_kd_lt hc (by decide)), q_ep hc]
  exact va_alen hexec hb hK hR c 3 hg (ty := .object "DreamPlots$Plot") rfl (v := 5) (show Int32.ofNat 5 = 5 by decide) hd (kk H locs ls hR hS hl)
theorem q_alend {X : q_X} {G : q_G} {x : q_A} {nL d : Nat} {Q : State → Prop} {k n pc : Nat} {lv : List (Nat × Value)} {st : List Value} {σ : q_S} {own : String} {cc : ByteArray} (hx : q_Cx X G own cc nL d) {c : Nat} (hd : decode cc pc = .ok (.arraylength, 1)) (hc : q_kd c = 50000) (kk : q_Wq X G x nL Q k n (pc + 1) lv (.int 8 :: st) σ) : q_Wq X G x nL Q k n pc lv (.ref (G.2.1 + c) :: st) σ := by
  obtain ⟨p, l, e, R, s, m, args, below, meth, c0⟩ := X
  intro H locs ls hR hS hl
  obtain ⟨hexec, hb, hml, hown, hlk, hroom, hAw, hK, hT⟩ := hx
  have hg : (q_wl G σ x)[c]? = some (G.2.1 + c, .inl (G.2.2.1 4, 8, .inr (.inr (.inr (.inr (fun j => if j < 8 then some (G.2.1 + (80 + 25 * j)) else none)))))) := by rw [q_wl_get (q_kd_lt hc (by decide)), q_ed hc]
  exact va_alen hexec hb hK hR c 4 hg (ty := .object "DreamPlots$Dream") rfl (v := 8) (show Int32.ofNat 8 = 8 by decide) hd (kk H locs ls hR hS hl)
theorem q_ifnull {X : q_X} {G : q_G} {x : q_A} {nL d : Nat} {Q : State → Prop} {k n pc : Nat} {lv : List (Nat × Value)} {st : List Value} {σ : q_S} {own : String} {cc : ByteArray} (hx : q_Cx X G own cc nL d) {c : Nat} {off : Int} (hd : decode cc pc = .ok (.ifnull off, 3)) (kk : q_Wq X G x nL Q k n (pc + 3) lv st σ) : q_Wq X G x nL Q k n pc lv (.ref c :: st) σ := by
  obtain ⟨p, l, e, R, s, m, args, below, meth, c0⟩ := X
  intro H locs ls hR hS hl
  exact lv_ifnull hx.1 hx.2.1 hd (kk H locs ls hR hS hl)
theorem q_copy {X : q_X} {G : q_G} {x : q_A} {nL d : Nat} {Q : State → Prop} {k n pc : Nat} {lv : List (Nat × Value)} {st : List Value} {σ : q_S} {own : String} {cc : ByteArray} {idx : Nat} (hx : q_Cx X G own cc nL d) (hd1 : 2 ≤ d) (hL : q_in (.methodLink own idx arraycopyName)) (h1 : q_in (.native arraycopyName)) (h2 : q_in (.static arraycopyName)) (h3 : q_in (.initialized "java/lang/System")) {c0 c1 N : Nat} (hN : N < 10000) (hc0 : q_kd c0 = 10000 + N) (hc1 : q_kd c1 = 10000 + N) (hW : (st.map fun v => v.category).sum ≤ 8) (hd : decode cc pc = .ok (.invokestatic idx, 3)) (kk : q_Wq X G x nL Q k n (pc + 3) lv st (f_X9_copyNumbers σ c0 N c1 N)) : q_Wq X G x nL Q k n pc lv (.int (Int32.ofNat N) :: .int 0 :: .ref (G.2.1 + c1) :: .int 0 :: .ref (G.2.1 + c0) :: st) σ := by
  obtain ⟨p, l, e, R, s, m, args, below, meth, c⟩ := X
  intro H locs ls hR hS hl
  obtain ⟨hexec, hb, hml, hown, hlk, ⟨hr1, hr2⟩, hAw, hK, hT⟩ := hx
  have hlt0 := q_kd_lt hc0 (by omega)
  have hlt1 := q_kd_lt hc1 (by omega)
  have hg0 : (q_wl G σ x)[c0]? = some (G.2.1 + c0, .inl (G.2.2.1 0, N, .inl (σ c0))) := by rw [q_wl_get hlt0, q_ea0 hc0 hN]
  have hg1 : (q_wl G σ x)[c1]? = some (G.2.1 + c1, .inl (G.2.2.1 0, N, .inl (σ c1))) := by rw [q_wl_get hlt1, q_ea0 hc1 hN]
  have hNc : (Int32.ofNat N).toNatClampNeg = N := nI_clamp (by omega)
  have hz : (0 : Int32).toNatClampNeg = 0 := sb_cl0
  have hwd : nativeFrameWords "java/lang/System" "arraycopy" 5 + 11 ≤ 60 := by decide +kernel
  have hlo : (st.map fun v => v.category).sum + (nativeFrameWords "java/lang/System" "arraycopy" 5 + 11) ≤ R.locals := by omega
  have h4 : (0 : Int32).toNatClampNeg + (Int32.ofNat N).toNatClampNeg ≤ N := by rw [hNc, hz]; omega
  have hn0 : ¬ Int32.ofNat N < 0 := nI_pos (by omega)
  refine va_copyi (sp := 0) (dp := 0) (n := Int32.ofNat N) hexec hb (hml.trans hl.1.symm) hown (hAw.use hL) (hAw.use h1) (hAw.use h2) (hAw.use h3) hK hR (q_wl_D G σ x) hS c0 c1 0 0 hg0 hg1 (ty := .int) rfl rfl rfl (by decide) (by decide) hn0 h4 h4 (fun _ _ => rfl) (by omega) hlo hd (fun H1 locs1 hP1 _ hS1 => ?_)
  have e1 : va_cpy (σ c0) (σ c1) (0 : Int32).toNatClampNeg (0 : Int32).toNatClampNeg (Int32.ofNat N).toNatClampNeg = (fun j => if j < N then σ c0 j else σ c1 j) := by
    rw [hNc, hz]
    funext j
    simp [va_cpy]
  rw [e1, q_wl_set hlt1 (q_ea0 hc1 hN).symm] at hP1
  exact kk H1 locs1 ls hP1 hS1 hl
set_option maxHeartbeats 4000000 in
set_option maxRecDepth 100000 in
theorem c_X9_numberAt (l : Launch) (G : q_G) (x : q_A) (σ : q_S) (c0 N : Nat) (i : Int32) (hc0 : q_kd c0 = 10000 + N) (hN : N < 10000 := by decide) : q_Met l yX9_numberAt cX9_numberAt 2 (some .int) 1 G [.ref (G.2.1 + c0), .int i] σ x (q_Qi G x (f_X9_numberAt σ c0 N i) σ) := by
  refine q_of (by decide) (Nat.le_of_ble_eq_true rfl) (fun X hl0 hx hr => ?_)
  subst hl0
  have hx : q_Cx X G RX9 cX9_numberAt 2 1 := hx
  show q_Wq X G x 2 (q_MQ X G (q_Qi G x (f_X9_numberAt σ c0 N i) σ)) 0 0 0 [(0, .ref (G.2.1 + c0)), (1, .int i)] [] σ
  generalize hres : f_X9_numberAt σ c0 N i = res
  unfold f_X9_numberAt at hres
  refine q_iload_n hx dX9_numberAt_0 1 rfl ?_
  refine q_if_lt hx 16 dX9_numberAt_1 (by decide) (fun h1 => ?_) (fun h1 => ?_)
  · replace hres := (if_pos h1).symm.trans hres
    refine q_iconst (v := 0) hx dX9_numberAt_16 (by decide) ?_
    subst hres
    exact q_iret hx hr dX9_numberAt_17
  · replace hres := (if_neg h1).symm.trans hres
    refine q_iload_n hx dX9_numberAt_4 1 rfl ?_
    refine q_aload_n hx dX9_numberAt_5 0 rfl ?_
    refine q_alen0 hx dX9_numberAt_6 hc0 hN rfl ?_
    refine q_icmp_ge hx 16 dX9_numberAt_7 (by decide) (fun h2 => ?_) (fun h2 => ?_)
    · replace hres := (if_pos h2).symm.trans hres
      refine q_iconst (v := 0) hx dX9_numberAt_16 (by decide) ?_
      subst hres
      exact q_iret hx hr dX9_numberAt_17
    · replace hres := (if_neg h2).symm.trans hres
      refine q_aload_n hx dX9_numberAt_10 0 rfl ?_
      refine q_iload_n hx dX9_numberAt_11 1 rfl ?_
      refine q_iald hx dX9_numberAt_12 hc0 hN (fun z => z.elim h1 (fun z => Nat.not_lt.mpr z (q_i5 (by omega) h1 h2))) ?_
      refine q_goto hx 17 dX9_numberAt_13 (by decide) ?_
      subst hres
      exact q_iret hx hr dX9_numberAt_17
set_option maxHeartbeats 4000000 in
set_option maxRecDepth 100000 in
theorem c_X9_setNumberAt (l : Launch) (G : q_G) (x : q_A) (σ : q_S) (c0 N : Nat) (i v : Int32) (hc0 : q_kd c0 = 10000 + N) (hN : N < 10000 := by decide) : q_Met l yX9_setNumberAt cX9_setNumberAt 3 none 1 G [.ref (G.2.1 + c0), .int i, .int v] σ x (q_Qv G x (f_X9_setNumberAt σ c0 N i v)) := by
  refine q_of (by decide) (Nat.le_of_ble_eq_true rfl) (fun X hl0 hx hr => ?_)
  subst hl0
  have hx : q_Cx X G RX9 cX9_setNumberAt 3 1 := hx
  show q_Wq X G x 3 (q_MQ X G (q_Qv G x (f_X9_setNumberAt σ c0 N i v))) 0 0 0 [(0, .ref (G.2.1 + c0)), (1, .int i), (2, .int v)] [] σ
  generalize hres : f_X9_setNumberAt σ c0 N i v = res
  unfold f_X9_setNumberAt at hres
  refine q_iload_n hx dX9_setNumberAt_0 1 rfl ?_
  refine q_if_lt hx 14 dX9_setNumberAt_1 (by decide) (fun h1 => ?_) (fun h1 => ?_)
  · replace hres := (if_pos h1).symm.trans hres
    subst hres
    exact q_vret hx hr dX9_setNumberAt_14
  · replace hres := (if_neg h1).symm.trans hres
    refine q_iload_n hx dX9_setNumberAt_4 1 rfl ?_
    refine q_aload_n hx dX9_setNumberAt_5 0 rfl ?_
    refine q_alen0 hx dX9_setNumberAt_6 hc0 hN rfl ?_
    refine q_icmp_ge hx 14 dX9_setNumberAt_7 (by decide) (fun h2 => ?_) (fun h2 => ?_)
    · replace hres := (if_pos h2).symm.trans hres
      subst hres
      exact q_vret hx hr dX9_setNumberAt_14
    · replace hres := (if_neg h2).symm.trans hres
      refine q_aload_n hx dX9_setNumberAt_10 0 rfl ?_
      refine q_iload_n hx dX9_setNumberAt_11 1 rfl ?_
      refine q_iload_n hx dX9_setNumberAt_12 2 rfl ?_
      refine q_iast hx dX9_setNumberAt_13 hc0 hN (fun z => z.elim h1 (fun z => Nat.not_lt.mpr z (q_i5 (by omega) h1 h2))) ?_
      subst hres
      exact q_vret hx hr dX9_setNumberAt_14
set_option maxHeartbeats 4000000 in
set_option maxRecDepth 100000 in
theorem c_X9_copyNumbers (l : Launch) (G : q_G) (x : q_A) (σ : q_S) (c0 N c1 : Nat) (N1 : Nat) (hc0 : q_kd c0 = 10000 + N) (hc1 : q_kd c1 = 10000 + N) (hN : N < 10000 := by decide) : q_Met l yX9_copyNumbers cX9_copyNumbers 2 none 2 G [.ref (G.2.1 + c0), .ref (G.2.1 + c1)] σ x (q_Qv G x (f_X9_copyNumbers σ c0 N c1 N1)) := by
  refine q_of (by decide) (Nat.le_of_ble_eq_true rfl) (fun X hl0 hx hr => ?_)
  subst hl0
  have hx : q_Cx X G RX9 cX9_copyNumbers 2 2 := hx
  show q_Wq X G x 2 (q_MQ X G (q_Qv G x (f_X9_copyNumbers σ c0 N c1 N1))) 0 0 0 [(0, .ref (G.2.1 + c0)), (1, .ref (G.2.1 + c1))] [] σ
  refine q_aload_n hx dX9_copyNumbers_0 0 rfl ?_
  refine q_iconst (v := 0) hx dX9_copyNumbers_1 (by decide) ?_
  refine q_aload_n hx dX9_copyNumbers_2 1 rfl ?_
  refine q_iconst (v := 0) hx dX9_copyNumbers_3 (by decide) ?_
  refine q_aload_n hx dX9_copyNumbers_4 0 rfl ?_
  refine q_alen0 hx dX9_copyNumbers_5 hc0 hN rfl ?_
  refine q_aload_n hx dX9_copyNumbers_6 1 rfl ?_
  refine q_alen0 hx dX9_copyNumbers_7 hc1 hN rfl ?_
  refine q_mmin hx q_kR0 (by decide) (q_in.of 522 (by decide +kernel) (by decide +kernel)) (q_in.of 431 (by decide +kernel) (by decide +kernel)) (q_in.of 90 (by decide +kernel) (by decide +kernel)) (q_in.of 432 (by decide +kernel) (by decide +kernel)) (Nat.le_of_ble_eq_true rfl) dX9_copyNumbers_8 ?_
  rw [show (if Int32.ofNat N < Int32.ofNat N then Int32.ofNat N else Int32.ofNat N) = Int32.ofNat N by split <;> rfl]
  refine q_copy hx (by decide) (q_in.of 523 (by decide +kernel) (by decide +kernel)) (q_in.of 525 (by decide +kernel) (by decide +kernel)) (q_in.of 524 (by decide +kernel) (by decide +kernel)) (q_in.of 91 (by decide +kernel) (by decide +kernel)) hN hc0 hc1 (Nat.le_of_ble_eq_true rfl) dX9_copyNumbers_11 ?_
  exact q_vret hx hr dX9_copyNumbers_14
set_option maxHeartbeats 4000000 in
set_option maxRecDepth 100000 in
theorem c_X2_plotOf (l : Launch) (G : q_G) (x : q_A) (σ : q_S) (z0 : Nat) (i : Int32) (hz0 : q_isDream z0) : q_Met l yX2_plotOf cX2_plotOf 3 (some (.object "DreamPlots$Plot")) 1 G [.ref (G.2.1 + z0), .int i] σ x (q_Qr G x (f_X2_plotOf z0 i) σ) := by
  refine q_of (by decide) (Nat.le_of_ble_eq_true rfl) (fun X hl0 hx hr => ?_)
  subst hl0
  have hx : q_Cx X G RX2 cX2_plotOf 3 1 := hx
  show q_Wq X G x 3 (q_MQ X G (q_Qr G x (f_X2_plotOf z0 i) σ)) 0 0 0 [(0, .ref (G.2.1 + z0)), (1, .int i)] [] σ
  generalize hres : f_X2_plotOf z0 i = res
  unfold f_X2_plotOf at hres
  have hk2 := hz0.2.2.1
  suffices K : ∀ v : Nat, v = res → q_Wq X G x 3 (q_MQ X G (q_Qr G x res σ)) 0 0 26 [(0, .ref (G.2.1 + z0)), (1, .int i)] [.ref (G.2.1 + v)] σ by
    refine q_iload_n hx dX2_plotOf_0 1 rfl ?_
    refine q_if_lt hx 22 dX2_plotOf_1 (by decide) (fun h1 => ?_) (fun h1 => ?_)
    · replace hres := (if_pos h1).symm.trans hres
      refine q_aload_n hx dX2_plotOf_22 0 rfl ?_
      refine q_get (v := .ref (G.2.1 + (z0 + 3))) hx q_fl_X2_26 dX2_plotOf_23 (q_ne hz0.1 (by decide)) (q_e2 hz0.1) rfl ?_
      exact K _ hres
    · replace hres := (if_neg h1).symm.trans hres
      refine q_iload_n hx dX2_plotOf_4 1 rfl ?_
      refine q_aload_n hx dX2_plotOf_5 0 rfl ?_
      refine q_get (v := .ref (G.2.1 + (z0 + 2))) hx q_fl_X2_21 dX2_plotOf_6 (q_ne hz0.1 (by decide)) (q_e2 hz0.1) rfl ?_
      refine q_alenp hx dX2_plotOf_9 hk2 ?_
      refine q_icmp_ge hx 22 dX2_plotOf_10 (by decide) (fun h2 => ?_) (fun h2 => ?_)
      · replace hres := (if_pos h2).symm.trans hres
        refine q_aload_n hx dX2_plotOf_22 0 rfl ?_
        refine q_get (v := .ref (G.2.1 + (z0 + 3))) hx q_fl_X2_26 dX2_plotOf_23 (q_ne hz0.1 (by decide)) (q_e2 hz0.1) rfl ?_
        exact K _ hres
      · replace hres := (if_neg h2).symm.trans hres
        refine q_aload_n hx dX2_plotOf_13 0 rfl ?_
        refine q_get (v := .ref (G.2.1 + (z0 + 2))) hx q_fl_X2_21 dX2_plotOf_14 (q_ne hz0.1 (by decide)) (q_e2 hz0.1) rfl ?_
        refine q_iload_n hx dX2_plotOf_17 1 rfl ?_
        refine q_aldp hx dX2_plotOf_18 hk2 (fun z => z.elim h1 (fun z => Nat.not_lt.mpr z (q_i5 (N := 5) (by decide) h1 h2))) ?_
        refine q_goto hx 26 dX2_plotOf_19 (by decide) ?_
        refine K _ ?_
        rw [← hres]; omega
  intro v hv
  subst hv
  refine q_astore_n hx [(2, .ref (G.2.1 + v)), (0, .ref (G.2.1 + z0)), (1, .int i)] dX2_plotOf_26 (by decide) rfl ?_
  refine q_aload_n hx dX2_plotOf_27 0 rfl ?_
  refine q_ifnull hx dX2_plotOf_28 ?_
  refine q_aload_n hx dX2_plotOf_31 0 rfl ?_
  refine q_goto hx 39 dX2_plotOf_32 (by decide) ?_
  exact q_aret hx hr dX2_plotOf_39
set_option maxHeartbeats 4000000 in
set_option maxRecDepth 100000 in
theorem c_X3_pastAt (l : Launch) (G : q_G) (x : q_A) (σ : q_S) (i : Int32) : q_Met l yX3_pastAt cX3_pastAt 3 (some (.object "DreamPlots$Dream")) 1 G [.ref (G.2.1 + 53), .int i] σ x (q_Qr G x (f_X3_pastAt i) σ) := by
  refine q_of (by decide) (Nat.le_of_ble_eq_true rfl) (fun X hl0 hx hr => ?_)
  subst hl0
  have hx : q_Cx X G RX3 cX3_pastAt 3 1 := hx
  show q_Wq X G x 3 (q_MQ X G (q_Qr G x (f_X3_pastAt i) σ)) 0 0 0 [(0, .ref (G.2.1 + 53)), (1, .int i)] [] σ
  generalize hres : f_X3_pastAt i = res
  unfold f_X3_pastAt at hres
  have hk2 : q_kd 54 = 50000 := by decide +kernel
  have hk1 : q_kd 53 = 3 := by decide +kernel
  suffices K : ∀ v : Nat, v = res → q_Wq X G x 3 (q_MQ X G (q_Qr G x res σ)) 0 0 26 [(0, .ref (G.2.1 + 53)), (1, .int i)] [.ref (G.2.1 + v)] σ by
    refine q_iload_n hx dX3_pastAt_0 1 rfl ?_
    refine q_if_lt hx 22 dX3_pastAt_1 (by decide) (fun h1 => ?_) (fun h1 => ?_)
    · replace hres := (if_pos h1).symm.trans hres
      refine q_aload_n hx dX3_pastAt_22 0 rfl ?_
      refine q_get (v := .ref (G.2.1 + 55)) hx q_fl_X3_18 dX3_pastAt_23 (q_ne hk1 (by decide)) (q_e3 hk1) rfl ?_
      exact K _ hres
    · replace hres := (if_neg h1).symm.trans hres
      refine q_iload_n hx dX3_pastAt_4 1 rfl ?_
      refine q_aload_n hx dX3_pastAt_5 0 rfl ?_
      refine q_get (v := .ref (G.2.1 + 54)) hx q_fl_X3_11 dX3_pastAt_6 (q_ne hk1 (by decide)) (q_e3 hk1) rfl ?_
      refine q_alend hx dX3_pastAt_9 hk2 ?_
      refine q_icmp_ge hx 22 dX3_pastAt_10 (by decide) (fun h2 => ?_) (fun h2 => ?_)
      · replace hres := (if_pos h2).symm.trans hres
        refine q_aload_n hx dX3_pastAt_22 0 rfl ?_
        refine q_get (v := .ref (G.2.1 + 55)) hx q_fl_X3_18 dX3_pastAt_23 (q_ne hk1 (by decide)) (q_e3 hk1) rfl ?_
        exact K _ hres
      · replace hres := (if_neg h2).symm.trans hres
        refine q_aload_n hx dX3_pastAt_13 0 rfl ?_
        refine q_get (v := .ref (G.2.1 + 54)) hx q_fl_X3_11 dX3_pastAt_14 (q_ne hk1 (by decide)) (q_e3 hk1) rfl ?_
        refine q_iload_n hx dX3_pastAt_17 1 rfl ?_
        refine q_aldd hx dX3_pastAt_18 hk2 (fun z => z.elim h1 (fun z => Nat.not_lt.mpr z (q_i5 (N := 8) (by decide) h1 h2))) ?_
        refine q_goto hx 26 dX3_pastAt_19 (by decide) ?_
        exact K _ hres
  intro v hv
  subst hv
  refine q_astore_n hx [(2, .ref (G.2.1 + v)), (0, .ref (G.2.1 + 53)), (1, .int i)] dX3_pastAt_26 (by decide) rfl ?_
  refine q_aload_n hx dX3_pastAt_27 0 rfl ?_
  refine q_ifnull hx dX3_pastAt_28 ?_
  refine q_aload_n hx dX3_pastAt_31 0 rfl ?_
  refine q_goto hx 39 dX3_pastAt_32 (by decide) ?_
  exact q_aret hx hr dX3_pastAt_39
