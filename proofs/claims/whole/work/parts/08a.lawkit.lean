/-! the law's own methods, with handlers; its two rows of one number each -/
abbrev q_rmW (d : Nat) : Room := { frames := d, cells := 1, slots := 6, locals := 40 * d }
def q_nm : List String := ["java/lang/IndexOutOfBoundsException", "java/lang/IllegalArgumentException", "java/lang/UnsupportedOperationException", "java/util/NoSuchElementException", "java/lang/IllegalStateException", "java/lang/ArithmeticException"]
def q_Nc (U : State) : Prop := ∀ a ∈ q_nm, ∀ b ∈ q_nm, a ≠ b → va_Nc a b U
theorem q_Nc.moved {u U : State} (hvm : u.vm.Alike U.vm) (h : q_Nc u) : q_Nc U := fun a ha b hb hab => (h a ha b hb hab).moved hvm
/-- which handler: its place in the list -/
def q_cd (es : List Nat) (e : Nat) : Int32 := Int32.ofNat ((es.findIdx? (· == e)).elim 0 (· + 1))
def q_MetW (l : Launch) (y : MethodName) (cc : ByteArray) (maxL : Nat) (hh : List (Nat × Nat × Nat × Nat)) (d : Nat) (G : q_G) (args : List Value) (σ : q_S) (x : q_A) (v : Int32) (τ : q_S) (x' : q_A) : Prop :=
  Met l y [.codeWith y cc maxL (some .int) hh] (q_rmW d) (va_Pc args (fun U => q_Inv G σ x U ∧ q_Nc U)) (va_Qi (fun (r : Int32) (_ : Unit) => r = v) (fun _ t => q_Rep G τ x' t.heap) (q_free G)) 1 6 (q_free G)
def q_MQW (X : q_X) (G : q_G) (v : Int32) (τ : q_S) (x' : q_A) : State → Prop := match X with
  | (_, _, _, _, s, _, args, below, _, _) => MQ below (va_Qi (fun (r : Int32) (_ : Unit) => r = v) (fun _ t => q_Rep G τ x' t.heap) (q_free G)) args s 1 6 (q_free G)
def q_Ex (X : q_X) (hh : List (Nat × Nat × Nat × Nat)) : Prop := match X with
  | (_, _, _, _, _, _, _, _, _, c) => c.exceptionTable.toList = tableOf hh
def q_NcX (X : q_X) : Prop := match X with
  | (_, _, _, _, s, _, _, _, _, _) => q_Nc s
theorem q_ofWH {l : Launch} {y : MethodName} {cc : ByteArray} {maxL : Nat} {hh : List (Nat × Nat × Nat × Nat)} {d : Nat} {G : q_G} {args : List Value} {σ τ : q_S} {x x' : q_A} {v : Int32} (hy : plainName y.cls = true) (hn : (lg_sl args).length ≤ maxL)
    (body : ∀ X : q_X, q_Xl X = l → q_Cx X G y.cls cc maxL d → (q_Xm X).sig.returnType = some .int → q_Ex X hh → q_NcX X → q_kR X 1 6 → q_Wq X G x maxL (q_MQW X G v τ x') 0 0 0 (lv_args 0 args) [] σ) : q_MetW l y cc maxL hh d G args σ x v τ x' := by
  refine va_MetW (cc := cc) (maxL := maxL) (ret := some .int) (hh := hh) hy rfl ?_
  intro p en s m args' below meth c s₁ B hml hv
  obtain ⟨rfl, ⟨hAw, hK, hT, hR⟩, hN⟩ := hv
  have hl := lv_entry args (n := maxL) hn
  have hts0 := atoms_spec (ws := [.codeWith y cc maxL (some .int) hh]) B.pre
  have hE := vx_table (x := y) B (hts0 _ List.mem_cons_self)
  rw [lg_entry_eq]
  generalize (lg_sl args ++ List.replicate (maxL - (lg_sl args).length) Slot.unset).toArray = ls at hl ⊢
  exact body (p, l, en, (headSpec [.codeWith y cc maxL (some .int) hh] (q_rmW d)).room, s, m, args.toArray, below, meth, c) rfl ⟨B.exec, B.bytes, hml, findClass_of_methodNamed B.named, B.notSynchronized, ⟨Nat.le_refl _, Nat.le_refl _⟩, hAw, hK, hT⟩ B.returns hE hN ⟨Nat.le_refl _, Nat.le_refl _⟩ s.heap [] ls hR va_S.rf hl
theorem q_ent_x1 {G : q_G} {r : Nat → Int32} {x : q_A} {w : Int64} {c : Nat} (h : q_kd c ≠ 60000) : q_ent G r (w, x.2) c = q_ent G r x c := by
  unfold q_ent
  simp [h]
theorem q_ent_x2 {G : q_G} {r : Nat → Int32} {x : q_A} {w : UInt64} {c : Nat} (h : q_kd c ≠ 70000) : q_ent G r (x.1, w) c = q_ent G r x c := by
  unfold q_ent
  simp [h]
theorem q_k303 : q_kd 303 = 60000 := by decide +kernel
theorem q_k304 : q_kd 304 = 70000 := by decide +kernel
theorem q_x303 : ∀ c, c < q_NC → q_kd c = 60000 → c = 303 := by decide +kernel
theorem q_x304 : ∀ c, c < q_NC → q_kd c = 70000 → c = 304 := by decide +kernel
section
variable {X : q_X} {G : q_G} {x : q_A} {nL d : Nat} {Q : State → Prop} {k n pc : Nat} {lv : List (Nat × Value)} {st : List Value} {σ : q_S} {own : String} {cc : ByteArray}
theorem q_i2l {a : Int32} (hx : q_Cx X G own cc nL d) (hd : decode cc pc = .ok (.i2l, 1)) (kk : q_Wq X G x nL Q k n (pc + 1) lv (.long a.toInt64 :: st) σ) : q_Wq X G x nL Q k n pc lv (.int a :: st) σ := by
  obtain ⟨p, l, e, R, s, m, args, below, meth, c⟩ := X
  intro H locs ls hR hS hl
  exact lv_i2l hx.1 hx.2.1 hd rfl (kk H locs ls hR hS hl)
theorem q_lconst {i : Fin 2} {v : Int64} (hx : q_Cx X G own cc nL d) (hd : decode cc pc = .ok (.lconst i, 1)) (hv : Int64.ofNat (i : Nat) = v) (kk : q_Wq X G x nL Q k n (pc + 1) lv (.long v :: st) σ) : q_Wq X G x nL Q k n pc lv st σ := by
  obtain ⟨p, l, e, R, s, m, args, below, meth, c⟩ := X
  intro H locs ls hR hS hl
  exact lv_lconst hx.1 hx.2.1 hd hv (kk H locs ls hR hS hl)
theorem q_lcmp {a b : Int64} (hx : q_Cx X G own cc nL d) (hd : decode cc pc = .ok (.lcmp, 1)) (kk : q_Wq X G x nL Q k n (pc + 1) lv (.int (lg_cmp a b) :: st) σ) : q_Wq X G x nL Q k n pc lv (.long b :: .long a :: st) σ := by
  obtain ⟨p, l, e, R, s, m, args, below, meth, c⟩ := X
  intro H locs ls hR hS hl
  exact W.lcmp hx.1 hx.2.1 hd (kk H locs ls hR hS hl)
theorem q_dcmp {a b : UInt64} {op : CmpOp} (hx : q_Cx X G own cc nL d) (hd : decode cc pc = .ok (.dcmp op, 1)) (kk : q_Wq X G x nL Q k n (pc + 1) lv (.int (Op.cmpValue (FP.dcmp a b) op) :: st) σ) : q_Wq X G x nL Q k n pc lv (.double b :: .double a :: st) σ := by
  obtain ⟨p, l, e, R, s, m, args, below, meth, c⟩ := X
  intro H locs ls hR hS hl
  exact lv_dcmp hx.1 hx.2.1 hd (kk H locs ls hR hS hl)
theorem q_dload {i : Nat} {v : UInt64} (hx : q_Cx X G own cc nL d) (hd : decode cc pc = .ok (.dload i, 2)) (j : Nat) (hj : lv[j]? = some (i, .double v)) (kk : q_Wq X G x nL Q k n (pc + 2) lv (.double v :: st) σ) : q_Wq X G x nL Q k n pc lv st σ := by
  obtain ⟨p, l, e, R, s, m, args, below, meth, c⟩ := X
  intro H locs ls hR hS hl
  exact lv_dload hx.1 hx.2.1 hd (lv_at hl j hj) (kk H locs ls hR hS hl)
theorem q_dstore {i : Nat} {v : UInt64} (hx : q_Cx X G own cc nL d) (lv2 : List (Nat × Value)) (hd : decode cc pc = .ok (.dstore i, 2)) (hn : i + 1 < nL) (hl2 : (i, Value.double v) :: lv.filter (fun q => !(q.1 == i) && (!(q.1 == i + 1) && !(q.1 + 1 == i && q.2.category == 2))) = lv2) (kk : q_Wq X G x nL Q k n (pc + 2) lv2 st σ) : q_Wq X G x nL Q k n pc lv (.double v :: st) σ := by
  obtain ⟨p, l, e, R, s, m, args, below, meth, c⟩ := X
  intro H locs ls hR hS hl
  exact lv_dstore hx.1 hx.2.1 hd hl hn hl2 (fun ls hl => kk H locs ls hR hS hl)
theorem q_lald (hx : q_Cx X G own cc nL d) (hd : decode cc pc = .ok (.laload, 1)) (kk : q_Wq X G x nL Q k n (pc + 1) lv (.long x.1 :: st) σ) : q_Wq X G x nL Q k n pc lv (.int 0 :: .ref (G.2.1 + 303) :: st) σ := by
  obtain ⟨p, l, e, R, s, m, args, below, meth, c⟩ := X
  intro H locs ls hR hS hl
  obtain ⟨hexec, hb, hml, hown, hlk, hroom, hAw, hK, hT⟩ := hx
  have hg : (q_wl G σ x)[303]? = some (G.2.1 + 303, .inl (G.2.2.1 5, 1, .inr (.inl (fun _ => x.1)))) := by rw [q_wl_get (by decide), q_el q_k303]
  exact va_lald hexec hb hK hR 303 5 hg rfl (by unfold vp_in; decide) hd (kk H locs ls hR hS hl)
theorem q_dald (hx : q_Cx X G own cc nL d) (hd : decode cc pc = .ok (.daload, 1)) (kk : q_Wq X G x nL Q k n (pc + 1) lv (.double x.2 :: st) σ) : q_Wq X G x nL Q k n pc lv (.int 0 :: .ref (G.2.1 + 304) :: st) σ := by
  obtain ⟨p, l, e, R, s, m, args, below, meth, c⟩ := X
  intro H locs ls hR hS hl
  obtain ⟨hexec, hb, hml, hown, hlk, hroom, hAw, hK, hT⟩ := hx
  have hg : (q_wl G σ x)[304]? = some (G.2.1 + 304, .inl (G.2.2.1 6, 1, .inr (.inr (.inr (.inl (fun _ => x.2)))))) := by rw [q_wl_get (by decide), q_edb q_k304]
  exact va_dald hexec hb hK hR 304 6 hg rfl (by unfold vp_in; decide) hd (kk H locs ls hR hS hl)
theorem q_last {w : Int64} (hx : q_Cx X G own cc nL d) (hd : decode cc pc = .ok (.lastore, 1)) (kk : q_Wq X G (w, x.2) nL Q k n (pc + 1) lv st σ) : q_Wq X G x nL Q k n pc lv (.long w :: .int 0 :: .ref (G.2.1 + 303) :: st) σ := by
  obtain ⟨p, l, e, R, s, m, args, below, meth, c⟩ := X
  intro H locs ls hR hS hl
  obtain ⟨hexec, hb, hml, hown, hlk, hroom, hAw, hK, hT⟩ := hx
  have hg : (q_wl G σ x)[303]? = some (G.2.1 + 303, .inl (G.2.2.1 5, 1, .inr (.inl (fun _ => x.1)))) := by rw [q_wl_get (by decide), q_el q_k303]
  refine va_last hexec hb hK hR (q_wl_D G σ x) hS 303 5 hg rfl (by unfold vp_in; decide) hd (fun H1 locs1 hP1 _ hS1 => ?_)
  refine kk H1 locs1 ls (fun j q hj => ?_) hS1 hl
  obtain ⟨hlt, rfl⟩ := q_wl_of hj
  by_cases h : j = 303
  · subst h
    have h1 := hP1 303 _ (List.getElem?_set_self (by simpa [q_wl] using hlt))
    rw [q_el q_k303]
    have h1 : H1[G.2.1 + 303]? = some (vp_cell (G.2.2.1 5) (1, .inr (.inl (vp_updL (fun _ => x.1) (0 : Int32).toNatClampNeg w)))) := h1
    show H1[G.2.1 + 303]? = some (vp_cell (G.2.2.1 5) (1, .inr (.inl (fun _ => w))))
    rw [h1, vp_cell_l, vp_cell_l]
    unfold arrV
    congr 3
    funext q
    have hq : q.val = 0 := by have := q.isLt; omega
    show Value.long (vp_updL _ _ w q.val) = Value.long w
    rw [hq]
    rfl
  · have h1 := hP1 j (G.2.1 + j, q_ent G (σ j) x j) (by rw [List.getElem?_set_ne (fun z => h z.symm), q_wl_get hlt])
    rw [q_ent_x1 (fun z => h (q_x303 j hlt z))]
    exact h1
theorem q_dast {w : UInt64} (hx : q_Cx X G own cc nL d) (hd : decode cc pc = .ok (.dastore, 1)) (kk : q_Wq X G (x.1, w) nL Q k n (pc + 1) lv st σ) : q_Wq X G x nL Q k n pc lv (.double w :: .int 0 :: .ref (G.2.1 + 304) :: st) σ := by
  obtain ⟨p, l, e, R, s, m, args, below, meth, c⟩ := X
  intro H locs ls hR hS hl
  obtain ⟨hexec, hb, hml, hown, hlk, hroom, hAw, hK, hT⟩ := hx
  have hg : (q_wl G σ x)[304]? = some (G.2.1 + 304, .inl (G.2.2.1 6, 1, .inr (.inr (.inr (.inl (fun _ => x.2)))))) := by rw [q_wl_get (by decide), q_edb q_k304]
  refine va_dast hexec hb hK hR (q_wl_D G σ x) hS 304 6 hg rfl (by unfold vp_in; decide) hd (fun H1 locs1 hP1 _ hS1 => ?_)
  refine kk H1 locs1 ls (fun j q hj => ?_) hS1 hl
  obtain ⟨hlt, rfl⟩ := q_wl_of hj
  by_cases h : j = 304
  · subst h
    have h1 := hP1 304 _ (List.getElem?_set_self (by simpa [q_wl] using hlt))
    rw [q_edb q_k304]
    have h1 : H1[G.2.1 + 304]? = some (vp_cell (G.2.2.1 6) (1, .inr (.inr (.inr (.inl (vf_upd (fun _ => x.2) (0 : Int32).toNatClampNeg w)))))) := h1
    show H1[G.2.1 + 304]? = some (vp_cell (G.2.2.1 6) (1, .inr (.inr (.inr (.inl (fun _ => w))))))
    rw [h1, vp_cell_d, vp_cell_d]
    unfold arrV
    congr 3
    funext q
    have hq : q.val = 0 := by have := q.isLt; omega
    show Value.double (vf_upd _ _ w q.val) = Value.double w
    rw [hq]
    rfl
  · have h1 := hP1 j (G.2.1 + j, q_ent G (σ j) x j) (by rw [List.getElem?_set_ne (fun z => h z.symm), q_wl_get hlt])
    rw [q_ent_x2 (fun z => h (q_x304 j hlt z))]
    exact h1
/-- the end of a method of the law's -/
theorem q_wret {v : Int32} (hx : q_Cx X G own cc nL d) (hr : (q_Xm X).sig.returnType = some .int) (hk : k ≤ 1) (hn : n ≤ 6) (hd : decode cc pc = .ok (.ireturn, 1)) : q_Wq X G x nL (q_MQW X G v σ x) k n pc lv [.int v] σ := by
  obtain ⟨p, l, e, R, s, m, args, below, meth, c⟩ := X
  intro H locs ls hR hS hl
  obtain ⟨hexec, hb, hml, hown, hlk, hroom, hAw, hK, hT⟩ := hx
  refine W.widen hk hn ?_
  exact W.iret hexec hb hr (fun t ht hW => ⟨⟨v, (), rfl, rfl, by show q_Rep G σ x t.heap; rw [ht]; exact hR⟩, hS.F ht⟩) hS.2.2 hd
/-- one row of a table of handlers, with the class that it names -/
def q_Hn (own : String) (hs : List ((Nat × Nat × Nat × Nat) × String)) : Prop := ∀ z ∈ hs, z.1.2.2.2 ≠ 0 ∧ q_in (.classLink own z.1.2.2.2 z.2) ∧ z.2 ∈ q_nm
theorem q_caught {H : Heap} {locs : List Loc} {ls : Array Slot} {rest : List Value} {p : Program} {l : Launch} {en : Env} {R : Room} {s : State} {m : MethodId} {args : Array Value} {below : List Frame} {meth : Method} {c : Code} {q9 : Addr} {ce : Cell} {E : String} {hs : List ((Nat × Nat × Nat × Nat) × String)}
    (hown : s.vm.findClass own = some m.cls) (hAw : q_Aw s) (hT : c.exceptionTable.toList = tableOf (hs.map (·.1))) (hN : q_Nc s) (hH : q_Hn own hs) (pre : List ((Nat × Nat × Nat × Nat) × String)) (x1 : (Nat × Nat × Nat × Nat) × String) (suf : List ((Nat × Nat × Nat × Nat) × String)) (hsp : hs = pre ++ x1 :: suf) (hpre : ∀ z ∈ pre, z.2 ≠ x1.2)
    (hcov : (covers ⟨x1.1.1, x1.1.2.1, x1.1.2.2.1, x1.1.2.2.2⟩ pc) = true) (hE : E = x1.2) (hcast : q_in (.castable x1.2 x1.2)) (hcell : H[q9]? = some ce) (hv : ce.vm = .none) (hcl : s.vm.findClass E = some ce.cls)
    (kk : W p l en R s m args below meth c H locs k n Q (F0 m x1.1.2.2.1 ls [.ref q9])) : vx_W p l en R s m args below meth c H locs k n Q (F0 m pc ls rest) q9 := by
  subst hE
  have hx1 := hH x1 (by rw [hsp]; simp)
  refine vx_catch (own := own) (name := x1.2) hown (tableOf (pre.map (·.1))) ⟨x1.1.1, x1.1.2.1, x1.1.2.2.1, x1.1.2.2.2⟩ (tableOf (suf.map (·.1))) (by rw [hT, hsp]; simp [tableOf]) (fun z hz => Or.inr ?_) hcov hx1.1 (hAw.use hx1.2.1) (hAw.use hcast) hcell hv hcl kk
  obtain ⟨z2, hz2, rfl⟩ := List.mem_map.mp hz
  obtain ⟨z3, hz3, rfl⟩ := List.mem_map.mp hz2
  have h3 := hH z3 (by rw [hsp]; simp [hz3])
  exact ⟨h3.1, z3.2, hAw.use h3.2.1, hN _ hx1.2.2 _ h3.2.2 (fun z => hpre z3 hz3 z.symm)⟩
/-- a call of the class, by a method with handlers: it goes on, or at the handler -/
theorem q_callX {y : MethodName} {bytes : ByteArray} {maxL np d2 idx e : Nat} {As rest : List Value} {v : Int32} {τ : q_S} {ret : Option FieldType} {hs : List ((Nat × Nat × Nat × Nat) × String)} (hx : q_Cx X G own cc nL d) (hkR : q_kR X 1 6) (hEx : q_Ex X (hs.map (·.1))) (hNc : q_NcX X) (hM : q_MetX (q_Xl X) y bytes maxL ret d2 G (.ref (G.2.1 + 0) :: As) σ x (q_QiX G x e v τ) e τ) (hL : q_in (.methodLink own idx y)) (hN : q_Mn y bytes maxL ret np) (hi : q_in (.instanceMethod y)) (hse : q_in (.selects y.cls y y)) (hd2 : d2 + 1 ≤ d) (hn : As.length = np) (hW : (rest.map fun v => v.category).sum ≤ 8) (hd : decode cc pc = .ok (.invokevirtual idx, 3)) (hyc : y.cls = RX9) (hst0 : st = As.reverse ++ .ref (G.2.1 + 0) :: rest)
    (hH : q_Hn own hs) (hcs : ∀ a ∈ q_nm, q_in (.castable a a))
    (kx : 0 < e → ∃ (pre : List ((Nat × Nat × Nat × Nat) × String)) (x1 : (Nat × Nat × Nat × Nat) × String) (suf : List ((Nat × Nat × Nat × Nat) × String)), hs = pre ++ x1 :: suf ∧ (∀ z ∈ pre, z.2 ≠ x1.2) ∧ covers ⟨x1.1.1, x1.1.2.1, x1.1.2.2.1, x1.1.2.2.2⟩ pc = true ∧ q_exn e = x1.2 ∧ ∀ q9 : Nat, q_Wq X G x nL Q 1 6 x1.1.2.2.1 lv [.ref q9] τ)
    (kk : e = 0 → q_Wq X G x nL Q 1 6 (pc + 3) lv (.int v :: rest) τ) : q_Wq X G x nL Q 0 0 pc lv st σ := by
  obtain ⟨p, l, en, R, s, m, args, below, meth, c⟩ := X
  subst hst0
  intro H locs ls hR hS hl
  obtain ⟨hexec, hb, hml, hown, hlk, ⟨hr1, hr2⟩, hAw, hK, hT⟩ := hx
  obtain ⟨n1, n2, n3, n4, n5⟩ := hN
  have hc : (Cond.code y bytes maxL ret).before args s = true := hAw.use n1
  have hkd : q_kd 0 = 9 := by decide +kernel
  have hg : (q_wl G σ x)[0]? = some (G.2.1 + 0, .inr (9, q_f9 G.2.1 (σ 0) 0)) := by rw [q_wl_get (by decide), q_e9 hkd]
  have hrecv := va_recv hK hR (show q_cl[9]? = some (RX9, TX9, 12) from rfl) hg
  rw [← hyc] at hrecv
  have hp : PreV s H y.cls (G.2.1 + 0) (va_Pc (.ref (G.2.1 + 0) :: As) (fun U => q_Inv G σ x U)) As := ⟨fun a U g mk q => ⟨q.1, q.2.blind⟩, hrecv, fun U hU hW => ⟨rfl, q_pre hAw hK hT hR hS U hU hW⟩⟩
  have hrl : 8 + (maxL + 11) + (q_rmX d2).locals ≤ R.locals := by
    show 8 + (maxL + 11) + 40 * d2 ≤ R.locals
    omega
  have hrf : (q_rmX d2).frames + 1 ≤ R.frames := by
    show d2 + 1 ≤ R.frames
    omega
  refine vx_calli (vx_runV (Ts := []) ⟨hexec, hb, hml, hown, fun w h => by cases h⟩ hM ⟨⟨rfl, rfl, hrf, hrl, q_good hc, List.mem_cons_self, hc, hAw.use n2, n3, n4, hAw.use hL⟩, hAw.use hi, hAw.use hse⟩ hp rfl hn hl.1 rfl (lv_room (pc := pc) (ls := ls) hW) hd ⟨by rw [Nat.zero_add]; exact hkR.1, by rw [Nat.zero_add]; exact hkR.2⟩) hS (fun q _ h => h) (fun q h => h) (fun q _ h => h) (fun E ce q9 u t H1 locs1 ht hvm hpx hB hz hk hS1 hcell hcv hcl => ?_) (fun r u t H1 locs1 ht hvm hp2 hB hz hk hS1 => ?_)
  · obtain ⟨he, rfl, hB⟩ := hB
    rw [ht] at hB
    obtain ⟨pre, x1, suf, h1, h2, h3, h4, h5⟩ := kx he
    exact q_caught hown hAw hEx hNc hH pre x1 suf h1 h2 h3 h4 (hcs _ (hH x1 (by rw [h1]; simp)).2.2) hcell hcv hcl (h5 q9 H1 locs1 ls hB hS1 hl)
  · obtain ⟨he, rfl⟩ := hp2
    rw [ht] at hB
    exact kk he H1 locs1 ls hB hS1 hl
theorem q_callXd {y : MethodName} {bytes : ByteArray} {maxL np d2 idx e : Nat} {As rest : List Value} {v : UInt64} {τ : q_S} {ret : Option FieldType} {hs : List ((Nat × Nat × Nat × Nat) × String)} (hx : q_Cx X G own cc nL d) (hkR : q_kR X 1 6) (hEx : q_Ex X (hs.map (·.1))) (hNc : q_NcX X) (hM : q_MetX (q_Xl X) y bytes maxL ret d2 G (.ref (G.2.1 + 0) :: As) σ x (q_QdX G x e v τ) e τ) (hL : q_in (.methodLink own idx y)) (hN : q_Mn y bytes maxL ret np) (hi : q_in (.instanceMethod y)) (hse : q_in (.selects y.cls y y)) (hd2 : d2 + 1 ≤ d) (hn : As.length = np) (hW : (rest.map fun v => v.category).sum ≤ 8) (hd : decode cc pc = .ok (.invokevirtual idx, 3)) (hyc : y.cls = RX9) (hst0 : st = As.reverse ++ .ref (G.2.1 + 0) :: rest)
    (hH : q_Hn own hs) (hcs : ∀ a ∈ q_nm, q_in (.castable a a))
    (kx : 0 < e → ∃ (pre : List ((Nat × Nat × Nat × Nat) × String)) (x1 : (Nat × Nat × Nat × Nat) × String) (suf : List ((Nat × Nat × Nat × Nat) × String)), hs = pre ++ x1 :: suf ∧ (∀ z ∈ pre, z.2 ≠ x1.2) ∧ covers ⟨x1.1.1, x1.1.2.1, x1.1.2.2.1, x1.1.2.2.2⟩ pc = true ∧ q_exn e = x1.2 ∧ ∀ q9 : Nat, q_Wq X G x nL Q 1 6 x1.1.2.2.1 lv [.ref q9] τ)
    (kk : e = 0 → q_Wq X G x nL Q 1 6 (pc + 3) lv (.double v :: rest) τ) : q_Wq X G x nL Q 0 0 pc lv st σ := by
  obtain ⟨p, l, en, R, s, m, args, below, meth, c⟩ := X
  subst hst0
  intro H locs ls hR hS hl
  obtain ⟨hexec, hb, hml, hown, hlk, ⟨hr1, hr2⟩, hAw, hK, hT⟩ := hx
  obtain ⟨n1, n2, n3, n4, n5⟩ := hN
  have hc : (Cond.code y bytes maxL ret).before args s = true := hAw.use n1
  have hkd : q_kd 0 = 9 := by decide +kernel
  have hg : (q_wl G σ x)[0]? = some (G.2.1 + 0, .inr (9, q_f9 G.2.1 (σ 0) 0)) := by rw [q_wl_get (by decide), q_e9 hkd]
  have hrecv := va_recv hK hR (show q_cl[9]? = some (RX9, TX9, 12) from rfl) hg
  rw [← hyc] at hrecv
  have hp : PreV s H y.cls (G.2.1 + 0) (va_Pc (.ref (G.2.1 + 0) :: As) (fun U => q_Inv G σ x U)) As := ⟨fun a U g mk q => ⟨q.1, q.2.blind⟩, hrecv, fun U hU hW => ⟨rfl, q_pre hAw hK hT hR hS U hU hW⟩⟩
  have hrl : 8 + (maxL + 11) + (q_rmX d2).locals ≤ R.locals := by
    show 8 + (maxL + 11) + 40 * d2 ≤ R.locals
    omega
  have hrf : (q_rmX d2).frames + 1 ≤ R.frames := by
    show d2 + 1 ≤ R.frames
    omega
  refine vx_calld (vx_runV (Ts := []) ⟨hexec, hb, hml, hown, fun w h => by cases h⟩ hM ⟨⟨rfl, rfl, hrf, hrl, q_good hc, List.mem_cons_self, hc, hAw.use n2, n3, n4, hAw.use hL⟩, hAw.use hi, hAw.use hse⟩ hp rfl hn hl.1 rfl (lv_room (pc := pc) (ls := ls) hW) hd ⟨by rw [Nat.zero_add]; exact hkR.1, by rw [Nat.zero_add]; exact hkR.2⟩) hS (fun q _ h => h) (fun q h => h) (fun q _ h => h) (fun E ce q9 u t H1 locs1 ht hvm hpx hB hz hk hS1 hcell hcv hcl => ?_) (fun r u t H1 locs1 ht hvm hp2 hB hz hk hS1 => ?_)
  · obtain ⟨he, rfl, hB⟩ := hB
    rw [ht] at hB
    obtain ⟨pre, x1, suf, h1, h2, h3, h4, h5⟩ := kx he
    exact q_caught hown hAw hEx hNc hH pre x1 suf h1 h2 h3 h4 (hcs _ (hH x1 (by rw [h1]; simp)).2.2) hcell hcv hcl (h5 q9 H1 locs1 ls hB hS1 hl)
  · obtain ⟨he, rfl⟩ := hp2
    rw [ht] at hB
    exact kk he H1 locs1 ls hB hS1 hl
/-- the law calls a method of its own -/
theorem q_callW {y : MethodName} {bytes : ByteArray} {maxL np d2 idx : Nat} {hh : List (Nat × Nat × Nat × Nat)} {As rest : List Value} {v : Int32} {τ : q_S} {x' : q_A} (hx : q_Cx X G own cc nL d) (hNc : q_NcX X) (hkR : q_kR X (k + 1) (n + 6)) (hM : q_MetW (q_Xl X) y bytes maxL hh d2 G As σ x v τ x') (hL : q_in (.methodLink own idx y)) (h1 : q_in (.codeWith y bytes maxL (some .int) hh)) (h2 : q_in (.initialized y.cls)) (h3 : y.cls ≠ "java/lang/invoke/MethodHandle" ∧ y.cls ≠ "java/lang/invoke/VarHandle") (h4 : (parseMethodDescriptor y.desc).map (fun d => d.parameters.length) = some np) (hmx : maxL ≤ 21) (hst : q_in (.static y)) (hd2 : d2 + 1 ≤ d) (hn : As.length = np) (hW : (rest.map fun v => v.category).sum ≤ 8) (hd : decode cc pc = .ok (.invokestatic idx, 3)) (hst0 : st = As.reverse ++ rest)
    (kk : q_Wq X G x' nL Q (k + 1) (n + 6) (pc + 3) lv (.int v :: rest) τ) : q_Wq X G x nL Q k n pc lv st σ := by
  obtain ⟨p, l, en, R, s, m, args, below, meth, c⟩ := X
  subst hst0
  intro H locs ls hR hS hl
  obtain ⟨hexec, hb, hml, hown, hlk, ⟨hr1, hr2⟩, hAw, hK, hT⟩ := hx
  have hc : (Cond.codeWith y bytes maxL (some .int) hh).before args s = true := hAw.use h1
  have hp : PreS s H (va_Pc As (fun U => q_Inv G σ x U ∧ q_Nc U)) As := ⟨fun a U g mk q => ⟨q.1, q.2.1.blind, q.2.2.moved (Vm.Alike.refl U.vm)⟩, fun U hU hW => ⟨rfl, q_pre hAw hK hT hR hS U hU hW, q_Nc.moved hW.alike hNc⟩⟩
  have hrl : 8 + (maxL + 11) + (q_rmW d2).locals ≤ R.locals := by
    show 8 + (maxL + 11) + 40 * d2 ≤ R.locals
    omega
  have hrf : (q_rmW d2).frames + 1 ≤ R.frames := by
    show d2 + 1 ≤ R.frames
    omega
  have hgood : ∀ w ∈ ([.codeWith y bytes maxL (some .int) hh] : List Cond), ∀ (a' : Array Value) (U : State), s.WarmedH U.vm → w.before a' U = true := by
    intro w hw a' U hW
    rw [List.mem_singleton.mp hw]
    exact word_at hW (Or.inl rfl) hc
  refine va_calli (vx_runSW (Ts := []) ⟨hexec, hb, hml, hown, fun w h => by cases h⟩ hM ⟨⟨rfl, rfl, hrf, hrl, hgood, List.mem_cons_self⟩, hc, hAw.use h2, h3, fun sig h => by rw [h] at h4; exact (Option.some.inj h4).symm, hAw.use hL, hAw.use hst⟩ hp rfl hn hl.1 rfl (lv_room (pc := pc) (ls := ls) hW) hd hkR) hS (fun q _ h => h) (fun q h => h) (fun r u t H1 locs1 ht hvm hp2 hB hz hk hS1 => ?_)
  subst hp2
  rw [ht] at hB
  exact kk H1 locs1 ls hB hS1 hl
theorem q_callVd {y : MethodName} {bytes : ByteArray} {maxL np d2 idx c1 ci : Nat} {fs : List Value} {C : vw_C} {ret : Option FieldType} {As rest : List Value} {v : UInt64} {τ : q_S} (hx : q_Cx X G own cc nL d) (hkR : q_kR X k n) (hM : q_Met (q_Xl X) y bytes maxL ret d2 G (.ref (G.2.1 + c1) :: As) σ x (q_Qd G x v τ)) (hL : q_ML own idx y) (hN : q_Mn y bytes maxL ret np) (hi : q_in (.instanceMethod y)) (hs : q_in (.selects y.cls y y)) (hd2 : d2 + 1 ≤ d) (hn : As.length = np) (hW : (rest.map fun v => v.category).sum ≤ 8) (hd : decode cc pc = .ok (.invokevirtual idx, 3)) (hc1 : q_kd c1 ≠ 99) (he : q_ent G (σ c1) x c1 = .inr (ci, fs)) (hC : q_cl[ci]? = some C) (hC2 : C.1 = y.cls) (hst0 : st = As.reverse ++ .ref (G.2.1 + c1) :: rest) (kk : q_Wq X G x nL Q k n (pc + 3) lv (.double v :: rest) τ) : q_Wq X G x nL Q k n pc lv st σ := by
  obtain ⟨p, l, e, R, s, m, args, below, meth, c⟩ := X
  subst hst0
  intro H locs ls hR hS hl
  refine va_calld (q_runV hx hM hL hN hi hs hd2 hn hW hd hkR hc1 he hC hC2 hR hS hl) hS (fun q _ h => h) (fun q h => h) (fun r u t H1 locs1 ht hvm hp hB hz hk hS1 => ?_)
  subst hp
  rw [ht] at hB
  exact kk H1 locs1 ls hB hS1 hl
theorem q_callVf {y : MethodName} {bytes : ByteArray} {maxL np d2 idx c1 ci : Nat} {fs : List Value} {C : vw_C} {ret : Option FieldType} {As rest : List Value} {v : UInt32} {τ : q_S} (hx : q_Cx X G own cc nL d) (hkR : q_kR X k n) (hM : q_Met (q_Xl X) y bytes maxL ret d2 G (.ref (G.2.1 + c1) :: As) σ x (q_Qf G x v τ)) (hL : q_ML own idx y) (hN : q_Mn y bytes maxL ret np) (hi : q_in (.instanceMethod y)) (hs : q_in (.selects y.cls y y)) (hd2 : d2 + 1 ≤ d) (hn : As.length = np) (hW : (rest.map fun v => v.category).sum ≤ 8) (hd : decode cc pc = .ok (.invokevirtual idx, 3)) (hc1 : q_kd c1 ≠ 99) (he : q_ent G (σ c1) x c1 = .inr (ci, fs)) (hC : q_cl[ci]? = some C) (hC2 : C.1 = y.cls) (hst0 : st = As.reverse ++ .ref (G.2.1 + c1) :: rest) (kk : q_Wq X G x nL Q k n (pc + 3) lv (.float v :: rest) τ) : q_Wq X G x nL Q k n pc lv st σ := by
  obtain ⟨p, l, e, R, s, m, args, below, meth, c⟩ := X
  subst hst0
  intro H locs ls hR hS hl
  refine va_callf (q_runV hx hM hL hN hi hs hd2 hn hW hd hkR hc1 he hC hC2 hR hS hl) hS (fun q _ h => h) (fun q h => h) (fun r u t H1 locs1 ht hvm hp hB hz hk hS1 => ?_)
  subst hp
  rw [ht] at hB
  exact kk H1 locs1 ls hB hS1 hl
/-- the script -/
def q_Sc (X : q_X) (G : q_G) (b L : Nat) (xs : Nat → Int32) : Prop := match X with
  | (_, _, _, _, s, _, _, _, _, _) => va_X b L xs s s.heap ∧ b < s.heap.size ∧ b < G.2.1
theorem q_sld {b L j : Nat} {xs : Nat → Int32} {i : Int32} (hx : q_Cx X G own cc nL d) (hs : q_Sc X G b L xs) (hj : i.toNatClampNeg = j) (h0 : ¬ i < 0) (hjL : j < L) (hd : decode cc pc = .ok (.iaload, 1)) (kk : q_Wq X G x nL Q k n (pc + 1) lv (.int (xs j) :: st) σ) : q_Wq X G x nL Q k n pc lv (.int i :: .ref b :: st) σ := by
  obtain ⟨p, l, e, R, s, m, args, below, meth, c⟩ := X
  subst hj
  intro H locs ls hR hS hl
  exact va_sld (A := q_free G) hx.1 hx.2.1 hs.1 hs.2.1 (fun h => Nat.not_lt.mpr h hs.2.2) hS (fun z => z.elim h0 (fun z => Nat.not_lt.mpr z hjL)) hd (kk H locs ls hR hS hl)
theorem q_slen {b L : Nat} {xs : Nat → Int32} (hx : q_Cx X G own cc nL d) (hs : q_Sc X G b L xs) (hd : decode cc pc = .ok (.arraylength, 1)) (kk : q_Wq X G x nL Q k n (pc + 1) lv (.int (Int32.ofNat L) :: st) σ) : q_Wq X G x nL Q k n pc lv (.ref b :: st) σ := by
  obtain ⟨p, l, e, R, s, m, args, below, meth, c⟩ := X
  intro H locs ls hR hS hl
  exact va_slen (A := q_free G) hx.1 hx.2.1 hs.1 hs.2.1 (fun h => Nat.not_lt.mpr h hs.2.2) hS hd (kk H locs ls hR hS hl)
theorem q_kR_le {k2 n2 : Nat} (h : q_kR X k n) (h1 : k2 ≤ k) (h2 : n2 ≤ n) : q_kR X k2 n2 := by
  obtain ⟨p, l, e, R, s, m, args, below, meth, c⟩ := X
  exact ⟨Nat.le_trans h1 h.1, Nat.le_trans h2 h.2⟩
theorem q_Wq.widen {k2 n2 : Nat} (h1 : k ≤ k2) (h2 : n ≤ n2) (kk : q_Wq X G x nL Q k2 n2 pc lv st σ) : q_Wq X G x nL Q k n pc lv st σ := by
  obtain ⟨p, l, e, R, s, m, args, below, meth, c⟩ := X
  intro H locs ls hR hS hl
  exact W.widen h1 h2 (kk H locs ls hR hS hl)
end
/-- a flag as a number -/
def q_bz (v : Int32) : Int32 := if v = 0 then 0 else 1
def q_bl (v : Int32) : Int64 := if v = 0 then 0 else 1
theorem q_cmp0 {a b : Int64} (h : a = b) : lg_cmp a b = 0 := by
  subst h
  simp [lg_cmp]
theorem q_ixc {i c : Nat} (h : i + c < 4096) : (Int32.ofNat i + Int32.ofNat c).toNatClampNeg = i + c ∧ ¬ Int32.ofNat i + Int32.ofNat c < 0 := by
  rw [← Int32.ofNat_add]
  exact ⟨nI_clamp (by omega), nI_pos (by omega)⟩
theorem q_ix0 {i : Nat} (h : i < 4096) : (Int32.ofNat i).toNatClampNeg = i ∧ ¬ Int32.ofNat i < 0 := ⟨nI_clamp (by omega), nI_pos (by omega)⟩
