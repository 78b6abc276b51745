def R_law : String := "DreamPlotsLaw"
def lw_P (b : Addr) (xs : List Int32) (args : Array Value) (s : State) : Prop := args = #[.ref b] ∧ s.IntsAt b xs ∧ xs.length ≤ 2048 ∧ (Jvm.Cond.and given_1 narrow_1).before args s = true
/-- what a walk over the start with the record d0 says of its end, said of the start itself -/
theorem lw_closed {s t : State} {o : Outcome} {d0 : Drawn} {L : List Loc} {k n : Nat} (hd0 : s.drawn.sameBut d0 lw_cs) (hv : ∃ v, o = .returned v) (hW : (s.setDrawn d0).WarmedH t.vm) (hs : (s.setDrawn d0).sameButNew ({ t with vm := s.vm } : State) L k n) : State.butDraws s t lw_cs (fun t1 => Framed s o t1 L k n) := by
  have h2 : t.drawn = d0 := congrArg State.drawn hs.1
  refine ⟨⟨hv, hW, State.sameButNew.setDrawn hs s.drawn⟩, ?_, by decide⟩
  rw [h2]
  exact hd0
def lw_Q (_ : Array Value) (s : State) (o : Outcome) (t : State) : Prop := o = .returned (some (.int 1)) ∧ State.butDraws s t lw_cs (fun t1 => Framed s o t1 [] 603072 7211114)
def lw_Z (below : List Frame) (a : Array Value) (s : State) : State → Prop := fun t => ∃ o, t.status = .running ∧ Ended t below o ∧ lw_Q a s o t
/-- the law's own end, with 1 on the stack, nothing written that was there before, its room as the claim has it; d0: the record of draws at this point (at the entry s.drawn: begin with 'refine W.base ?_' and 'have hd0 := Drawn.sameBut.refl s.drawn lw_cs') -/
theorem lw_ret {p : Program} {l : Launch} {e : Env} {s : State} {m : MethodId} {below : List Frame} {meth : Method} {c : Code} {b : Nat} {d0 : Drawn} (hd0 : s.drawn.sameBut d0 lw_cs) (hx : p.tables.exec = Jvm.exec) (hb : c.code = code) (hr : meth.sig.returnType = ret) (hlocks : meth.locks = false) {pc : Nat} {H : Heap} {ls : Array Slot} (hdg : decode code pc = .ok (.ireturn, 1)) : W p l e room_1 (s.setDrawn d0) m #[Value.ref b] below meth c H [] 603072 7211114 (lw_Z below #[Value.ref b] s) (F0 m pc ls [.int 1]) := by
  intro T hT X
  obtain ⟨fs, hret, hrun, hended, hW, hframe⟩ := X.leave (v := some (.int 1)) (hlocks := hlocks) (fun h => by rw [hr] at h; cases h)
  have hmeth' : T.vm.method? m = some meth := X.method'
  refine ⟨T.setFrames fs, ?_, .returned (some (.int 1)), hrun, hended, rfl, lw_closed hd0 ⟨_, rfl⟩ hW hframe⟩
  jvm_step X.here [X.here.top, hx, hb, hdg, hmeth', hr, ret, narrow_b1]
  (try refine ⟨rfl, ?_⟩); (try refine ⟨rfl, ?_⟩)
  first | (intro acts; rw [hret _ acts rfl rfl rfl]) | rw [hret _ _ rfl rfl rfl]
  exact Steps.refl _
/-- what holds at the law's entry: the machine, the code, the tables' words (any of lw_tbl by 'hts w (by decide +kernel)'), the script of L ints xs at the cell b, what the Statement gives of the start (any of its parts by flat_of_before) -/
def lw_At (p : Program) (s : State) (m : MethodId) (meth : Method) (c : Code) (b L : Nat) (xs : Nat → Int32) : Prop :=
  p.tables.exec = Jvm.exec ∧ c.code = code ∧ meth.sig.returnType = ret ∧ c.maxLocals = 10 ∧ s.vm.findClass R_law = some m.cls ∧ (∀ w ∈ lw_tbl, w.before #[Value.ref b] s = true) ∧ va_X b L xs s s.heap ∧ b < s.heap.size ∧ meth.locks = false ∧ (Jvm.Cond.and given_1 narrow_1).before #[Value.ref b] s = true
/-! the law's entry: what is known there, the two programs made, the loop -/
theorem w_cl_8 : q_in (.classLink RL 8 RX9) := (q_in.of 106 (by decide +kernel) (by decide +kernel))
theorem w_cl_131 : q_in (.classLink RL 131 RX10) := (q_in.of 1305 (by decide +kernel) (by decide +kernel))
theorem w_ml_130 : q_ML RL 130 yX9_init := .inl (q_in.of 108 (by decide +kernel) (by decide +kernel))
theorem w_ml_133 : q_ML RL 133 yX10_init := .inl (q_in.of 1307 (by decide +kernel) (by decide +kernel))
theorem w_ins_9 : q_in (.instantiable RX9 12) := (q_in.of 107 (by decide +kernel) (by decide +kernel))
theorem w_ins_10 : q_in (.instantiable RX10 30) := (q_in.of 1306 (by decide +kernel) (by decide +kernel))
theorem w_ini_9 : q_in (.initialized RX9) := (q_in.of 79 (by decide +kernel) (by decide +kernel))
theorem w_ini_10 : q_in (.initialized RX10) := (q_in.of 89 (by decide +kernel) (by decide +kernel))
theorem w_df9 : ∀ j, j < 12 → defaultValue (tyX9 j) = vp_V [.null, .null, .null, .null, .int 0, .null, .null, .null, .int 0, .null, .int 0, .null] j := by decide
theorem w_df10 : ∀ j, j < 30 → defaultValue (tyX10 j) = vp_V [.null, .null, .null, .null, .int 0, .int 0, .int 0, .int 0, .int 0, .int 0, .int 0, .int 0, .int 0, .int 0, .int 0, .int 0, .null, .int 0, .null, .null, .null, .null, .int 0, .int 0, .int 0, .int 0, .int 0, .int 0, .null, .int 0] j := by decide
theorem w_acl : q_ig (.arrayClass .long) ∧ q_ig (.arrayClass .double) := ⟨⟨w_ac1.2.2.2.1, by decide +kernel⟩, ⟨w_ac1.2.2.2.2.1, by decide +kernel⟩⟩
section
variable {X : q_X} {G : q_G} {x : q_A} {Q : State → Prop} {b : Nat}
theorem w_begin (hxc : q_Cc X G RL cL_law 10 20 305 6306 0) (hz0 : defaultValue .double = .double x.2) (hx1 : x.1 = 0) (kk : q_Wq X G x 10 Q 305 6306 25 [(4, .ref (G.2.1 + 304)), (3, .ref (G.2.1 + 303)), (2, .ref (G.2.1 + 292)), (1, .ref (G.2.1 + 0)), (0, .ref b)] [] q_s0) : q_Wc X G 0 10 Q 0 0 0 [(0, .ref b)] [] 0 (q_fin G x) := by
  refine qk_mk (n1 := 292) (ty := tyX9) (fs := [.null, .null, .null, .null, .int 0, .null, .null, .null, .int 0, .null, .int 0, .null]) hxc q_lay9 tyX9_ok w_cl_8 w_ins_9 w_ini_9 rfl w_df9 (c_X9_init (q_Xl X) G x) w_ml_130 q_mn_X9_init rfl q_mi_X9_init (by decide) (Nat.le_of_ble_eq_true rfl) (Nat.le_of_ble_eq_true rfl) (Nat.le_of_ble_eq_true rfl) dL_law_0 dL_law_3 dL_law_4 (by omega) (by decide) (fun c h1 h2 => rfl) ?_
  refine qk_astore_n hxc [(1, .ref (G.2.1 + 0)), (0, .ref b)] dL_law_7 (by decide) rfl ?_
  refine qk_mk (n1 := 11) (ty := tyX10) (fs := [.null, .null, .null, .null, .int 0, .int 0, .int 0, .int 0, .int 0, .int 0, .int 0, .int 0, .int 0, .int 0, .int 0, .int 0, .null, .int 0, .null, .null, .null, .null, .int 0, .int 0, .int 0, .int 0, .int 0, .int 0, .null, .int 0]) hxc q_lay10 tyX10_ok w_cl_131 w_ins_10 w_ini_10 rfl w_df10 (c_X10_init (q_Xl X) G x) w_ml_133 q_mn_X10_init rfl q_mi_X10_init (by decide) (Nat.le_of_ble_eq_true rfl) (Nat.le_of_ble_eq_true rfl) (Nat.le_of_ble_eq_true rfl) dL_law_8 dL_law_11 dL_law_12 (by omega) (by decide) (fun c h1 h2 => rfl) ?_
  refine qk_astore_n hxc [(2, .ref (G.2.1 + 292)), (1, .ref (G.2.1 + 0)), (0, .ref b)] dL_law_15 (by decide) rfl ?_
  refine qk_iconst (v := 1) hxc dL_law_16 (by decide) ?_
  refine qk_naL (t := 5) hxc w_acl.1 rfl rfl (Nat.le_of_ble_eq_true rfl) (Nat.le_of_ble_eq_true rfl) dL_law_17 (by omega) ?_ ?_
  · unfold q_fin
    rw [q_el q_k303, hx1]
  refine qk_astore_n hxc [(3, .ref (G.2.1 + 303)), (2, .ref (G.2.1 + 292)), (1, .ref (G.2.1 + 0)), (0, .ref b)] dL_law_19 (by decide) rfl ?_
  refine qk_iconst (v := 1) hxc dL_law_20 (by decide) ?_
  refine qk_naD (t := 6) hxc w_acl.2 rfl rfl (Nat.le_of_ble_eq_true rfl) (Nat.le_of_ble_eq_true rfl) dL_law_21 (by omega) hz0 ?_ ?_
  · unfold q_fin
    rw [q_edb q_k304]
  refine qk_astore hxc [(4, .ref (G.2.1 + 304)), (3, .ref (G.2.1 + 303)), (2, .ref (G.2.1 + 292)), (1, .ref (G.2.1 + 0)), (0, .ref b)] dL_law_23 (by decide) rfl ?_
  obtain ⟨p, l, en, R, s, m, args, below, meth, c⟩ := X
  intro H locs ls hz hP hS hl
  refine kk H locs ls ?_ hS hl
  show va_P G.1 q_cl (q_wl G q_s0 x) H
  rw [← w_lw]
  exact hP
theorem w_loop {L : Nat} {xs : Nat → Int32} (hx : q_Cx X G RL cL_law 10 20) (hNc : q_NcX X) (hs : q_Sc X G b L xs) (hkR : q_kR X 817 9378) (hfl : (q_Xl X).stackTraces = false) (hL : L ≤ 2048) {Inv : Nat → q_S → Prop} (hst : ∀ t σ o a b2 c, t < 512 → Inv t σ → w_ok σ o a b2 c (Inv (t + 1))) (hend : ∀ (x : q_A) (σ : q_S) (lv : List (Nat × Value)), q_Wq X G x 10 Q 817 9378 2360 lv [.int 1] σ) : ∀ r t, 4 * (t + r) ≤ L → L < 4 * (t + r) + 4 → ∀ (x : q_A) (σ : q_S), Inv t σ → q_Wq X G x 10 Q (305 + t) (6306 + 6 * t) 28 [(0, .ref b), (1, .ref (G.2.1 + 0)), (2, .ref (G.2.1 + 292)), (3, .ref (G.2.1 + 303)), (4, .ref (G.2.1 + 304)), (5, .int (Int32.ofNat (4 * t)))] [] σ := by
  intro r
  induction r with
  | zero =>
    intro t h1 h2 x σ hI
    refine q_iload hx dL_law_28 5 rfl ?_
    refine q_aload_n hx dL_law_30 0 rfl ?_
    refine q_slen hx hs dL_law_31 ?_
    refine q_iconst (v := 4) hx dL_law_32 (by decide) ?_
    refine q_isub hx dL_law_33 ?_
    refine q_icmp_gt hx 2359 dL_law_34 (by decide) (fun _ => ?_) (fun hn => absurd ?_ hn)
    · refine q_iconst (v := 1) hx dL_law_2359 (by decide) ?_
      exact q_Wq.widen (by omega) (by omega) (hend x σ _)
    · rw [ab_Inat, ab_Inat, show (4 : Int32) = ab_I 4 from rfl, ab_Isub, ab_Ilt (by omega) (by omega) (by omega) (by omega)]
      omega
  | succ r ih =>
    intro t h1 h2 x σ hI
    refine q_iload hx dL_law_28 5 rfl ?_
    refine q_aload_n hx dL_law_30 0 rfl ?_
    refine q_slen hx hs dL_law_31 ?_
    refine q_iconst (v := 4) hx dL_law_32 (by decide) ?_
    refine q_isub hx dL_law_33 ?_
    refine q_icmp_gt hx 2359 dL_law_34 (by decide) (fun hn => absurd hn ?_) (fun _ => ?_)
    · rw [ab_Inat, ab_Inat, show (4 : Int32) = ab_I 4 from rfl, ab_Isub, ab_Ilt (by omega) (by omega) (by omega) (by omega)]
      omega
    · refine w_turn hx hNc hs (q_kR_le hkR (by omega) (by omega)) hfl (by omega) hL (hst t σ _ _ _ _ (by omega) hI) (fun x υ hK => ?_)
      refine q_iinc (v := Int32.ofNat (4 * (t + 1))) hx [(5, .int (Int32.ofNat (4 * (t + 1)))), (0, .ref b), (1, .ref (G.2.1 + 0)), (2, .ref (G.2.1 + 292)), (3, .ref (G.2.1 + 303)), (4, .ref (G.2.1 + 304))] dL_law_2353 5 rfl ?_ (by decide) rfl ?_
      · rw [ab_Inat, ab_Inat]
        show ab_I _ + ab_I 4 = _
        rw [ab_Iadd]
        exact congrArg ab_I (by omega)
      refine q_goto hx 28 dL_law_2356 (by decide) ?_
      refine q_sub [1, 2, 3, 4, 5, 0] rfl ?_
      exact ih (t + 1) (by omega) (by omega) x υ hK
end
theorem w_K {U : State} {args : Array Value} (hw : ∀ w ∈ lw_tbl, w.before args U = true) : ∃ (D : va_G) (cA : Nat → ClassId), ∀ (B : Nat) (adK adV : Nat → Nat), va_K D q_cl (q_tys (D, B, cA, adK, adV)) U := by
  have one : ∀ c : Nat, ∃ q : ClassId × (Nat → Nat), ∀ r : vw_C, q_cl[c]? = some r → u_Kn U r.1 r.2.1 r.2.2 q.1 q.2 := by
    have go : ∀ (C : String) (T : u_T) (N : Nat), (∀ w ∈ u_ws C T N, q_in w) → q_in (.instantiable C N) → ∃ q : ClassId × (Nat → Nat), ∀ r : vw_C, some (C, T, N) = some r → u_Kn U r.1 r.2.1 r.2.2 q.1 q.2 := by
      intro C T N h1 h2
      obtain ⟨cC, iS, h⟩ := u_known (n := N) hw (fun w hw => (h1 w hw).1) (hw _ h2.1)
      exact ⟨(cC, iS), fun r hr => by cases hr; exact h⟩
    intro c
    rcases c with _ | _ | _ | _ | _ | _ | _ | _ | _ | _ | _ | c
    · exact go _ _ _ q_lay0 q_ins_0
    · exact go _ _ _ q_lay1 q_ins_1
    · exact go _ _ _ q_lay2 q_ins_2
    · exact go _ _ _ q_lay3 q_ins_3
    · exact go _ _ _ q_lay4 q_ins_4
    · exact go _ _ _ q_lay5 q_ins_5
    · exact go _ _ _ q_lay6 q_ins_6
    · exact go _ _ _ q_lay7 q_ins_7
    · exact go _ _ _ q_lay8 q_ins_8
    · exact go _ _ _ q_lay9 w_ins_9
    · exact go _ _ _ q_lay10 w_ins_10
    · exact ⟨(0, fun _ => 0), fun r hr => by cases hr⟩
  obtain ⟨D, hD⟩ := Classical.axiomOfChoice one
  obtain ⟨g1, g2, g3, g4, g5, g6, g7⟩ := w_ac1
  obtain ⟨c0, hc0⟩ := w_prim (hw _ g1) (fun _ _ => rfl)
  obtain ⟨c1, hc1⟩ := w_prim (hw _ g2) (fun _ _ => rfl)
  obtain ⟨c2, hc2⟩ := w_prim (hw _ g3) (fun _ _ => rfl)
  obtain ⟨c3, hc3⟩ := w_obj (hw _ g6)
  obtain ⟨c4, hc4⟩ := w_obj (hw _ g7)
  obtain ⟨c5, hc5⟩ := w_prim (hw _ g4) (fun _ _ => rfl)
  obtain ⟨c6, hc6⟩ := w_prim (hw _ g5) (fun _ _ => rfl)
  refine ⟨(fun c => (D c).1, fun c => (D c).2), fun t => if t = 0 then c0 else if t = 1 then c1 else if t = 2 then c2 else if t = 3 then c3 else if t = 4 then c4 else if t = 5 then c5 else c6, fun B adK adV => ⟨fun c q hq => hD c q hq, fun k q hq => ?_⟩⟩
  rcases k with _ | _ | _ | _ | _ | _ | _ | k
  · cases hq; exact hc0
  · cases hq; exact hc1
  · cases hq; exact hc2
  · cases hq; exact hc3
  · cases hq; exact hc4
  · cases hq; exact hc5
  · cases hq; exact hc6
  · cases hq
theorem w_Th {D : va_G} {cA adK adV : Nat → Nat} {U : State} {args : Array Value} (hw : ∀ w ∈ lw_tbl, w.before args U = true) (hs : ∀ w ∈ q_fl, w.before args U = true) (hS : vk_S 8 q_len q_byt adK adV (fun q => U.heap.size ≤ q) U U.heap) (hT : ∀ i : Nat, i < 8 → (q_tm i).eval args U none [] U = some (.ref (adK i))) : q_Th (D, U.heap.size, cA, adK, adV) U := by
  obtain ⟨a1, a2, a3, a4⟩ := w_ls1
  obtain ⟨i1, i2, i3⟩ := w_ls2
  have hA : ∀ a : Nat, a < U.heap.size → ¬ q_free (D, U.heap.size, cA, adK, adV) a := fun a h1 h2 => by
    have h2 : U.heap.size ≤ a := h2
    omega
  refine ⟨vx_Zqof (hw _ a1) (hw _ i1) (hs _ w_st1) hA, vx_Zqof (hw _ a2) (hw _ i1) (hs _ w_st2) hA, fun q hq => ?_, hS, fun i q hq => ?_, va_Zof (hw _ a3) (hw _ i2) (va_eqt (hs _ w_st3)) hA, va_Zqof (hw _ a4) (hw _ i3) (hs _ w_st4) hA⟩
  · obtain ⟨i, hi⟩ := List.getElem?_of_mem hq
    have hi2 := (List.getElem?_eq_some_iff.mp hi).1
    have he : q_strs.getD i ("", 0, "") = q := by rw [List.getD_eq_getElem?_getD, hi]; rfl
    have h1 := hw _ (w_strs2 i hi2)
    have h2 := hs _ (w_strs1 i hi2)
    rw [he] at h1 h2
    obtain ⟨a, -, -, -, h3, -⟩ := Cond.exactly_spec (args := args) (first := U) (o := none) (s := U) (idx := []) h2
    exact ⟨a, vk_R.of h1 h3⟩
  · have hi2 : i < 8 := (List.getElem?_eq_some_iff.mp hq).1
    have he : q_forms.getD i (0, "") = q := by rw [List.getD_eq_getElem?_getD, hq]; rfl
    have h1 := hw _ (w_strs3 i hi2)
    have h2 := hT i hi2
    unfold q_tm at h2
    rw [he] at h1 h2
    exact vk_R.of h1 h2
/-- the law from its entry, if some Inv holds turn by turn -/
theorem whole_open {Inv : Nat → q_S → Prop} (h0 : Inv 0 q_s0) (hst : ∀ t σ o a b2 c, t < 512 → Inv t σ → w_ok σ o a b2 c (Inv (t + 1))) {p : Program} {e : Env} {s : State} {m : MethodId} {below : List Frame} {meth : Method} {c : Code} (l : Launch) (hflags : l.flags = flags0) {b L : Nat} {xs : Nat → Int32} (hL : L ≤ 2048) (C0 : lw_At p s m meth c b L xs) : W p l e room_1 s m #[Value.ref b] below meth c s.heap [] 0 0 (lw_Z below #[Value.ref b] s) (entryFrame m ([Value.ref b] : List Value).toArray 10) := by
  obtain ⟨hexec, hb, hret, hml, hown, hts, hX, hbl, hlk, hgv⟩ := C0
  have hd0 := Drawn.sameBut.refl s.drawn lw_cs
  refine W.base ?_
  have hw := dr_words hts s.drawn
  have hs : ∀ w ∈ q_fl, w.before #[Value.ref b] (s.setDrawn s.drawn) = true := dr_words (flat_of_before _ hgv) s.drawn
  have hheap : (s.setDrawn s.drawn).heap = s.heap := rfl
  have hown2 : (s.setDrawn s.drawn).vm.findClass RL = some m.cls := hown
  have hX2 : va_X b L xs (s.setDrawn s.drawn) (s.setDrawn s.drawn).heap := hX
  have hbl2 : b < (s.setDrawn s.drawn).heap.size := hbl
  have hfin : ∀ {H : Heap} {ls : Array Slot}, W p l e room_1 (s.setDrawn s.drawn) m #[Value.ref b] below meth c H [] 603072 7211114 (lw_Z below #[Value.ref b] s) (F0 m 2360 ls [.int 1]) := fun {H} {ls} => lw_ret hd0 hexec hb hret hlk dL_law_2360
  rw [← hheap]
  generalize s.setDrawn s.drawn = U at hw hs hown2 hX2 hbl2 hfin ⊢
  obtain ⟨D, cA, hK⟩ := w_K hw
  obtain ⟨adK, adV, hS, hT⟩ := w_texts (A := fun q => U.heap.size ≤ q) hs (fun a h1 h2 => by omega)
  have hK := hK U.heap.size adK adV
  have hTh := w_Th (D := D) (cA := cA) hw hs hS hT
  have hAw : q_Aw U := fun w hw1 hk => by
    simp only [q_ok, Bool.and_eq_true] at hk
    exact va_tabs hk.1 rfl (hw w hw1)
  have hAg : q_Ag U := ⟨fun w hw1 hg => word_at (State.WarmedH.refl U) (good_of_word hg) (hw w hw1), va_AO.of (hw _ w_ac1.2.2.2.2.2.1), va_AO.of (hw _ w_ac1.2.2.2.2.2.2)⟩
  have hNc : q_Nc U := fun a ha b2 hb2 hab => va_Nc.of (hs _ (w_nc a ha b2 hb2 hab))
  have hflg : l.stackTraces = false := by
    unfold Launch.stackTraces
    rw [hflags]
    decide +kernel
  have hxc : q_Cc (p, l, e, room_1, U, m, #[Value.ref b], below, meth, c) (D, U.heap.size, cA, adK, adV) RL cL_law 10 20 305 6306 0 := ⟨hexec, hb, hml, hown2, hlk, ⟨by decide, by decide⟩, ⟨by decide, by decide⟩, ⟨hAw, hAg⟩, hK, fun h => absurd rfl h, Nat.le_refl _⟩
  have hx : q_Cx (p, l, e, room_1, U, m, #[Value.ref b], below, meth, c) (D, U.heap.size, cA, adK, adV) RL cL_law 10 20 := ⟨hexec, hb, hml, hown2, hlk, ⟨by decide, by decide⟩, hAw, hK, hTh⟩
  have hl := lv_entry ([.ref b]) (n := 10) (Nat.le_of_ble_eq_true rfl)
  rw [lg_entry_eq]
  generalize (lg_sl ([Value.ref b]) ++ List.replicate (10 - (lg_sl ([Value.ref b])).length) Slot.unset).toArray = ls at hl ⊢
  have key : q_Wc (p, l, e, room_1, U, m, #[Value.ref b], below, meth, c) (D, U.heap.size, cA, adK, adV) 0 10 (lw_Z below #[Value.ref b] s) 0 0 0 [(0, .ref b)] [] 0 (q_fin (D, U.heap.size, cA, adK, adV) (0, 0)) := by
    refine w_begin hxc rfl rfl ?_
    refine q_iconst (v := 0) hx dL_law_25 (by decide) ?_
    refine q_istore hx [(5, .int 0), (4, .ref (U.heap.size + 304)), (3, .ref (U.heap.size + 303)), (2, .ref (U.heap.size + 292)), (1, .ref (U.heap.size + 0)), (0, .ref b)] dL_law_26 (by decide) rfl ?_
    refine q_sub [5, 4, 3, 2, 1, 0] rfl ?_
    refine w_loop hx hNc ⟨hX2, hbl2, hbl2⟩ ⟨by decide, by decide⟩ hflg hL hst (fun x σ lv => ?_) (L / 4) 0 (by omega) (by omega) (0, 0) q_s0 h0
    intro H locs ls hR hS hl
    exact va_forget (fun q hq => hS.2.2 q hq) (W.widen (by decide) (by decide) hfin)
  exact key U.heap [] ls rfl (fun k q hk => by simp [q_lw] at hk) va_S.rf hl
