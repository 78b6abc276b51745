def q_len : List Nat := [5, 9, 10, 7, 10, 6, 8, 6]
def q_byt : List (List Int32) := [[110, 101, 119, 32, 35], [112, 101, 103, 32, 37, 32, 35, 32, 35], [112, 108, 111, 116, 32, 35, 32, 37, 32, 35], [108, 97, 121, 32, 35, 64, 35], [98, 101, 110, 100, 32, 35, 32, 37, 126, 35], [100, 114, 111, 112, 32, 35], [100, 101, 101, 112, 32, 35, 32, 35], [100, 117, 115, 107, 32, 37]]
abbrev q_X : Type := Program × Launch × Env × Room × State × MethodId × Array Value × List Frame × Method × Code
abbrev q_Xl (X : q_X) : Launch := X.2.1
abbrev q_Xs (X : q_X) : State := X.2.2.2.2.1
abbrev q_Xm (X : q_X) : Method := X.2.2.2.2.2.2.2.2.1
def q_strs : List (String × Nat × String) := [("DreamPlots", 89, "the depth is out of range"), ("DreamPlots", 96, "refused"), ("DreamPlots", 108, "no such corner"), ("DreamPlots", 111, "the period is out of range"), ("DreamPlots", 116, "no such sleeper or corner"), ("DreamPlots", 121, "no such sleeper"), ("DreamPlots", 123, "no such direction, or the length is out of range"), ("DreamPlots", 128, "no such sleeper or chain"), ("DreamPlots", 130, "the number is out of range or 0"), ("DreamPlots", 142, "the number is out of range"), ("DreamPlots", 183, "what is not from 0 to 6"), ("DreamPlots", 200, "what is not from 0 to 3"), ("DreamPlots", 211, "no such peg"), ("DreamPlots", 237, "no such cell"), ("DreamPlots", 242, "no such sleeper or cell"), ("DreamPlots", 264, "no plot"), ("DreamPlots", 283, "no such place"), ("DreamPlots", 288, "no pegs"), ("DreamPlots", 305, "the input buffer is full"), ("DreamPlots", 312, "the text is malformed"), ("DreamPlots", 327, "no text was malformed"), ("DreamPlots", 335, "nothing was refused, or there is no cause"), ("DreamPlots", 343, "no such row"), ("DreamPlots", 369, "no such character"), ("DreamPlots", 393, "what is not from 0 to 11"), ("DreamPlots", 397, "no sleepers"), ("DreamPlots", 404, "no change can be undone"), ("DreamPlots", 412, "no snapshot")]
def q_forms : List (Nat × String) := [(64, "new #"), (66, "peg % # #"), (68, "plot # % #"), (70, "lay #@#"), (72, "bend # %~#"), (74, "drop #"), (76, "deep # #"), (78, "dusk %")]
/-- what a throw stands on, and the eight texts of Commands -/
def q_Th (G : q_G) (U : State) : Prop := vx_Zq Bundle.tN "UNASSIGNED_STACK" Bundle.steD (q_free G) U U.heap ∧ vx_Zq Bundle.tN "SUPPRESSED_SENTINEL" Bundle.listD (q_free G) U U.heap ∧ (∀ q ∈ q_strs, ∃ a : Nat, vk_R q.1 q.2.1 q.2.2 a U) ∧ vk_S 8 q_len q_byt G.2.2.2.1 G.2.2.2.2 (q_free G) U U.heap ∧ (∀ (i : Nat) (q : Nat × String), q_forms[i]? = some q → vk_R "DreamPlots$Commands" q.1 q.2 (G.2.2.2.1 i) U) ∧ va_Z "java/lang/String" "COMPACT_STRINGS" "Z" (.int 1) (q_free G) U U.heap ∧ va_Zq "jdk/internal/util/Preconditions" "SIOOBE_FORMATTER" "Ljava/util/function/BiFunction;" (q_free G) U U.heap
theorem q_Th.moved {G : q_G} {s U : State} (hW : s.WarmedH U.vm) (hS : ∀ q : Nat, q < s.heap.size → ¬ q_free G q → U.heap[q]? = s.heap[q]?) (h : q_Th G s) : q_Th G U := by
  obtain ⟨h1, h2, h3, h4, h5, h6, h7⟩ := h
  refine ⟨(vx_Zq.moved hW.alike h1).kept hS, (vx_Zq.moved hW.alike h2).kept hS, fun q hq => ?_, (h4.moved hW.alike).kept hS, fun i q hq => (h5 i q hq).warm hW, (h6.moved hW.alike).kept hS, (h7.moved hW.alike).kept hS⟩
  obtain ⟨a, ha⟩ := h3 q hq
  exact ⟨a, ha.warm hW⟩
theorem q_Th.same {G : q_G} {u U : State} (hv : U.vm = u.vm) (hh : U.heap = u.heap) (h : q_Th G u) : q_Th G U := by
  obtain ⟨h1, h2, h3, h4, h5, h6, h7⟩ := h
  have hA : u.vm.Alike U.vm := by rw [hv]; exact Vm.Alike.refl _
  refine ⟨?_, ?_, fun q hq => ?_, ?_, fun i q hq => (h5 i q hq).same hv, ?_, ?_⟩
  · rw [hh]; exact vx_Zq.moved hA h1
  · rw [hh]; exact vx_Zq.moved hA h2
  · obtain ⟨a, ha⟩ := h3 q hq
    exact ⟨a, ha.same hv⟩
  · rw [hh]; exact h4.moved hA
  · rw [hh]; exact h6.moved hA
  · rw [hh]; exact h7.moved hA
def q_Inv (G : q_G) (σ : q_S) (x : q_A) (U : State) : Prop := q_Aw U ∧ va_K G.1 q_cl (q_tys G) U ∧ q_Th G U ∧ q_Rep G σ x U.heap
theorem q_Aw.same {u U : State} (hv : U.vm = u.vm) (h : q_Aw u) : q_Aw U := by
  intro w hw hk
  have hk2 := hk
  simp only [q_ok, Bool.and_eq_true] at hk2
  exact va_tabs hk2.1 hv.symm (h w hw hk)
theorem q_Inv.blind {G : q_G} {σ : q_S} {x : q_A} {U : State} {g : JFrame} {mk : MethodId} {a : Array Value} (h : q_Inv G σ x U) : q_Inv G σ x (U.calling g mk a) :=
  ⟨q_Aw.same (u := U) rfl h.1, va_K.moved (u := U) (U := U.calling g mk a) (Vm.Alike.refl U.vm) h.2.1, q_Th.same (u := U) rfl rfl h.2.2.1, h.2.2.2⟩
def q_Cx (X : q_X) (G : q_G) (own : String) (cc : ByteArray) (nL d : Nat) : Prop := match X with
  | (p, _, _, R, s, m, _, _, meth, c) => p.tables.exec = Jvm.exec ∧ c.code = cc ∧ c.maxLocals = nL ∧ s.vm.findClass own = some m.cls ∧ meth.locks = false ∧ (d ≤ R.frames ∧ 40 * d ≤ R.locals) ∧ q_Aw s ∧ va_K G.1 q_cl (q_tys G) s ∧ q_Th G s
def q_Wq (X : q_X) (G : q_G) (x : q_A) (nL : Nat) (Q : State → Prop) (k n pc : Nat) (lv : List (Nat × Value)) (st : List Value) (σ : q_S) : Prop := match X with
  | (p, l, e, R, s, m, args, below, meth, c) => ∀ (H : Heap) (locs : List Loc) (ls : Array Slot), q_Rep G σ x H → va_S (q_free G) s.heap H locs → lv_has ls nL lv → W p l e R s m args below meth c H locs k n Q (F0 m pc ls st)
theorem q_pre {G : q_G} {σ : q_S} {x : q_A} {s : State} {H : Heap} {locs : List Loc} (h1 : q_Aw s) (h2 : va_K G.1 q_cl (q_tys G) s) (h3 : q_Th G s) (hR : q_Rep G σ x H) (hS : va_S (q_free G) s.heap H locs) : ∀ U : State, U.heap = H → s.WarmedH U.vm → q_Inv G σ x U := by
  intro U hU hW
  refine ⟨h1.warm hW, va_K.moved hW.alike h2, h3.moved hW (fun q q1 q2 => ?_), by rw [hU]; exact hR⟩
  rw [hU]
  exact hS.2.1 q q1 q2
/-! contracts -/
def q_Qi (G : q_G) (x : q_A) (v : Int32) (σ : q_S) : Array Value → State → Outcome → State → Prop := va_Qi (fun (r : Int32) (_ : Unit) => r = v) (fun _ t => q_Rep G σ x t.heap) (q_free G)
def q_Qv (G : q_G) (x : q_A) (σ : q_S) : Array Value → State → Outcome → State → Prop := va_Qv (fun (_ : Unit) => True) (fun _ t => q_Rep G σ x t.heap) (q_free G)
def q_Qr (G : q_G) (x : q_A) (v : Nat) (σ : q_S) : Array Value → State → Outcome → State → Prop := va_Qr (fun (_ : Unit) => True) (fun _ a t => a = G.2.1 + v ∧ q_Rep G σ x t.heap) (q_free G)
abbrev q_rm (d : Nat) : Room := { frames := d, cells := 0, slots := 0, locals := 40 * d }
def q_Met (l : Launch) (y : MethodName) (cc : ByteArray) (maxL : Nat) (ret : Option FieldType) (d : Nat) (G : q_G) (args : List Value) (σ : q_S) (x : q_A) (Qc : Array Value → State → Outcome → State → Prop) : Prop := Met l y [.code y cc maxL ret] (q_rm d) (va_Pc args (fun U => q_Inv G σ x U)) Qc 0 0 (q_free G)
def q_MQ (X : q_X) (G : q_G) (Qc : Array Value → State → Outcome → State → Prop) : State → Prop := match X with
  | (_, _, _, _, s, _, args, below, _, _) => MQ below Qc args s 0 0 (q_free G)
theorem q_of {l : Launch} {y : MethodName} {cc : ByteArray} {maxL : Nat} {ret : Option FieldType} {d : Nat} {G : q_G} {args : List Value} {σ : q_S} {x : q_A} {Qc : Array Value → State → Outcome → State → Prop} (hy : plainName y.cls = true) (hn : (lg_sl args).length ≤ maxL)
    (body : ∀ X : q_X, q_Xl X = l → q_Cx X G y.cls cc maxL d → (q_Xm X).sig.returnType = ret → q_Wq X G x maxL (q_MQ X G Qc) 0 0 0 (lv_args 0 args) [] σ) : q_Met l y cc maxL ret d G args σ x Qc := by
  refine Met.ofW (cc := cc) (maxL := maxL) (ret := ret) hy rfl ?_
  intro p e s m args' below meth c s₁ B hml hv
  obtain ⟨rfl, hAw, hK, hT, hR⟩ := hv
  have hl := lv_entry args (n := maxL) hn
  rw [lg_entry_eq]
  generalize (lg_sl args ++ List.replicate (maxL - (lg_sl args).length) Slot.unset).toArray = ls at hl ⊢
  exact body (p, l, e, (headSpec [.code y cc maxL ret] (q_rm d)).room, s, m, args.toArray, below, meth, c) rfl ⟨B.exec, B.bytes, hml, findClass_of_methodNamed B.named, B.notSynchronized, ⟨Nat.le_refl _, Nat.le_refl _⟩, hAw, hK, hT⟩ B.returns s.heap [] ls hR va_S.rf hl
section
variable {X : q_X} {G : q_G} {x : q_A} {nL d : Nat} {Q : State → Prop} {k n pc : Nat} {lv : List (Nat × Value)} {st : List Value} {σ : q_S} {own : String} {cc : ByteArray}
theorem q_sub {lv2 : List (Nat × Value)} (ks : List Nat) (h : lv_pick lv ks = lv2) (kk : q_Wq X G x nL Q k n pc lv2 st σ) : q_Wq X G x nL Q k n pc lv st σ := by
  obtain ⟨p, l, e, R, s, m, args, below, meth, c⟩ := X
  intro H locs ls hR hS hl
  exact kk H locs ls hR hS (lv_sub hl ks h)

theorem q_iconst (hx : q_Cx X G own cc nL d) {i : Int} {v : Int32} (hd : decode cc pc = .ok (.iconst i, 1)) (hv : Int32.ofInt i = v) (kk : q_Wq X G x nL Q k n (pc + 1) lv (.int v :: st) σ) : q_Wq X G x nL Q k n pc lv (st) σ := by
  obtain ⟨p, l, e, R, s, m, args, below, meth, c⟩ := X
  intro H locs ls hR hS hl
  exact lv_iconst hx.1 hx.2.1 hd hv (kk H locs ls hR hS hl)
theorem q_bipush (hx : q_Cx X G own cc nL d) {i : Int} {v : Int32} (hd : decode cc pc = .ok (.bipush i, 2)) (hv : (Int8.ofInt i).toInt32 = v) (kk : q_Wq X G x nL Q k n (pc + 2) lv (.int v :: st) σ) : q_Wq X G x nL Q k n pc lv (st) σ := by
  obtain ⟨p, l, e, R, s, m, args, below, meth, c⟩ := X
  intro H locs ls hR hS hl
  exact lv_bipush hx.1 hx.2.1 hd hv (kk H locs ls hR hS hl)
theorem q_sipush (hx : q_Cx X G own cc nL d) {i : Int} {v : Int32} (hd : decode cc pc = .ok (.sipush i, 3)) (hv : (Int16.ofInt i).toInt32 = v) (kk : q_Wq X G x nL Q k n (pc + 3) lv (.int v :: st) σ) : q_Wq X G x nL Q k n pc lv (st) σ := by
  obtain ⟨p, l, e, R, s, m, args, below, meth, c⟩ := X
  intro H locs ls hR hS hl
  exact lv_sipush hx.1 hx.2.1 hd hv (kk H locs ls hR hS hl)
theorem q_iload_n (hx : q_Cx X G own cc nL d) {i : Fin 4} {v : Int32} (hd : decode cc pc = .ok (.iload_n i, 1)) (j : Nat) (hj : lv[j]? = some (i.val, .int v)) (kk : q_Wq X G x nL Q k n (pc + 1) lv (.int v :: st) σ) : q_Wq X G x nL Q k n pc lv (st) σ := by
  obtain ⟨p, l, e, R, s, m, args, below, meth, c⟩ := X
  intro H locs ls hR hS hl
  exact lv_iload_n hx.1 hx.2.1 hd rfl (lv_at hl j hj) (kk H locs ls hR hS hl)
theorem q_iload (hx : q_Cx X G own cc nL d) {i : Nat} {v : Int32} (hd : decode cc pc = .ok (.iload i, 2)) (j : Nat) (hj : lv[j]? = some (i, .int v)) (kk : q_Wq X G x nL Q k n (pc + 2) lv (.int v :: st) σ) : q_Wq X G x nL Q k n pc lv (st) σ := by
  obtain ⟨p, l, e, R, s, m, args, below, meth, c⟩ := X
  intro H locs ls hR hS hl
  exact lv_iload hx.1 hx.2.1 hd (lv_at hl j hj) (kk H locs ls hR hS hl)
theorem q_aload_n (hx : q_Cx X G own cc nL d) {i : Fin 4} {v : Nat} (hd : decode cc pc = .ok (.aload_n i, 1)) (j : Nat) (hj : lv[j]? = some (i.val, .ref v)) (kk : q_Wq X G x nL Q k n (pc + 1) lv (.ref v :: st) σ) : q_Wq X G x nL Q k n pc lv (st) σ := by
  obtain ⟨p, l, e, R, s, m, args, below, meth, c⟩ := X
  intro H locs ls hR hS hl
  exact lv_aload_n hx.1 hx.2.1 hd rfl (lv_at hl j hj) (kk H locs ls hR hS hl)
theorem q_aload (hx : q_Cx X G own cc nL d) {i : Nat} {v : Nat} (hd : decode cc pc = .ok (.aload i, 2)) (j : Nat) (hj : lv[j]? = some (i, .ref v)) (kk : q_Wq X G x nL Q k n (pc + 2) lv (.ref v :: st) σ) : q_Wq X G x nL Q k n pc lv (st) σ := by
  obtain ⟨p, l, e, R, s, m, args, below, meth, c⟩ := X
  intro H locs ls hR hS hl
  exact lv_aload hx.1 hx.2.1 hd (lv_at hl j hj) (kk H locs ls hR hS hl)
theorem q_iadd (hx : q_Cx X G own cc nL d) {a b : Int32} (hd : decode cc pc = .ok (.iadd, 1)) (kk : q_Wq X G x nL Q k n (pc + 1) lv (.int (a + b) :: st) σ) : q_Wq X G x nL Q k n pc lv (.int b :: .int a :: st) σ := by
  obtain ⟨p, l, e, R, s, m, args, below, meth, c⟩ := X
  intro H locs ls hR hS hl
  exact lv_iadd hx.1 hx.2.1 hd (kk H locs ls hR hS hl)
theorem q_isub (hx : q_Cx X G own cc nL d) {a b : Int32} (hd : decode cc pc = .ok (.isub, 1)) (kk : q_Wq X G x nL Q k n (pc + 1) lv (.int (a - b) :: st) σ) : q_Wq X G x nL Q k n pc lv (.int b :: .int a :: st) σ := by
  obtain ⟨p, l, e, R, s, m, args, below, meth, c⟩ := X
  intro H locs ls hR hS hl
  exact lv_isub hx.1 hx.2.1 hd (kk H locs ls hR hS hl)
theorem q_imul (hx : q_Cx X G own cc nL d) {a b : Int32} (hd : decode cc pc = .ok (.imul, 1)) (kk : q_Wq X G x nL Q k n (pc + 1) lv (.int (a * b) :: st) σ) : q_Wq X G x nL Q k n pc lv (.int b :: .int a :: st) σ := by
  obtain ⟨p, l, e, R, s, m, args, below, meth, c⟩ := X
  intro H locs ls hR hS hl
  exact lv_imul hx.1 hx.2.1 hd (kk H locs ls hR hS hl)
theorem q_iand (hx : q_Cx X G own cc nL d) {a b : Int32} (hd : decode cc pc = .ok (.iand, 1)) (kk : q_Wq X G x nL Q k n (pc + 1) lv (.int (a &&& b) :: st) σ) : q_Wq X G x nL Q k n pc lv (.int b :: .int a :: st) σ := by
  obtain ⟨p, l, e, R, s, m, args, below, meth, c⟩ := X
  intro H locs ls hR hS hl
  exact lv_iand hx.1 hx.2.1 hd (kk H locs ls hR hS hl)
theorem q_ior (hx : q_Cx X G own cc nL d) {a b : Int32} (hd : decode cc pc = .ok (.ior, 1)) (kk : q_Wq X G x nL Q k n (pc + 1) lv (.int (a ||| b) :: st) σ) : q_Wq X G x nL Q k n pc lv (.int b :: .int a :: st) σ := by
  obtain ⟨p, l, e, R, s, m, args, below, meth, c⟩ := X
  intro H locs ls hR hS hl
  exact lv_ior hx.1 hx.2.1 hd (kk H locs ls hR hS hl)
theorem q_ixor (hx : q_Cx X G own cc nL d) {a b : Int32} (hd : decode cc pc = .ok (.ixor, 1)) (kk : q_Wq X G x nL Q k n (pc + 1) lv (.int (a ^^^ b) :: st) σ) : q_Wq X G x nL Q k n pc lv (.int b :: .int a :: st) σ := by
  obtain ⟨p, l, e, R, s, m, args, below, meth, c⟩ := X
  intro H locs ls hR hS hl
  exact lv_ixor hx.1 hx.2.1 hd (kk H locs ls hR hS hl)
theorem q_idiv (hx : q_Cx X G own cc nL d) {a b : Int32} (hd : decode cc pc = .ok (.idiv, 1)) (hne : ¬ b = 0) (kk : q_Wq X G x nL Q k n (pc + 1) lv (.int (a / b) :: st) σ) : q_Wq X G x nL Q k n pc lv (.int b :: .int a :: st) σ := by
  obtain ⟨p, l, e, R, s, m, args, below, meth, c⟩ := X
  intro H locs ls hR hS hl
  exact lv_idiv hx.1 hx.2.1 hd hne (kk H locs ls hR hS hl)
theorem q_irem (hx : q_Cx X G own cc nL d) {a b : Int32} (hd : decode cc pc = .ok (.irem, 1)) (hne : ¬ b = 0) (kk : q_Wq X G x nL Q k n (pc + 1) lv (.int (a - a / b * b) :: st) σ) : q_Wq X G x nL Q k n pc lv (.int b :: .int a :: st) σ := by
  obtain ⟨p, l, e, R, s, m, args, below, meth, c⟩ := X
  intro H locs ls hR hS hl
  exact lv_irem hx.1 hx.2.1 hd hne (kk H locs ls hR hS hl)
theorem q_ineg (hx : q_Cx X G own cc nL d) {a : Int32} (hd : decode cc pc = .ok (.ineg, 1)) (kk : q_Wq X G x nL Q k n (pc + 1) lv (.int (-a) :: st) σ) : q_Wq X G x nL Q k n pc lv (.int a :: st) σ := by
  obtain ⟨p, l, e, R, s, m, args, below, meth, c⟩ := X
  intro H locs ls hR hS hl
  exact lv_ineg hx.1 hx.2.1 hd (kk H locs ls hR hS hl)
theorem q_i2c (hx : q_Cx X G own cc nL d) {a : Int32} (hd : decode cc pc = .ok (.i2c, 1)) (kk : q_Wq X G x nL Q k n (pc + 1) lv (.int ((a.toUInt32 % 65536).toInt32) :: st) σ) : q_Wq X G x nL Q k n pc lv (.int a :: st) σ := by
  obtain ⟨p, l, e, R, s, m, args, below, meth, c⟩ := X
  intro H locs ls hR hS hl
  exact lv_i2c hx.1 hx.2.1 hd rfl (kk H locs ls hR hS hl)
theorem q_dup (hx : q_Cx X G own cc nL d) {a : Value} (hd : decode cc pc = .ok (.dup, 1)) (hc : a.category = 1) (kk : q_Wq X G x nL Q k n (pc + 1) lv (a :: a :: st) σ) : q_Wq X G x nL Q k n pc lv (a :: st) σ := by
  obtain ⟨p, l, e, R, s, m, args, below, meth, c⟩ := X
  intro H locs ls hR hS hl
  exact lv_dup hx.1 hx.2.1 hd hc (kk H locs ls hR hS hl)
theorem q_pop (hx : q_Cx X G own cc nL d) {a : Value} (hd : decode cc pc = .ok (.pop, 1)) (hc : a.category = 1) (kk : q_Wq X G x nL Q k n (pc + 1) lv (st) σ) : q_Wq X G x nL Q k n pc lv (a :: st) σ := by
  obtain ⟨p, l, e, R, s, m, args, below, meth, c⟩ := X
  intro H locs ls hR hS hl
  exact lv_pop hx.1 hx.2.1 hd hc (kk H locs ls hR hS hl)
theorem q_dup2 (hx : q_Cx X G own cc nL d) {a b : Value} (hd : decode cc pc = .ok (.dup2, 1)) (ha : a.category = 1) (hb : b.category = 1) (kk : q_Wq X G x nL Q k n (pc + 1) lv (b :: a :: b :: a :: st) σ) : q_Wq X G x nL Q k n pc lv (b :: a :: st) σ := by
  obtain ⟨p, l, e, R, s, m, args, below, meth, c⟩ := X
  intro H locs ls hR hS hl
  exact lv_dup2_11 hx.1 hx.2.1 hd hb ha (kk H locs ls hR hS hl)
theorem q_istore_n (hx : q_Cx X G own cc nL d) {i : Fin 4} {v : Int32} (lv2 : List (Nat × Value)) (hd : decode cc pc = .ok (.istore_n i, 1)) (hn : i.val < nL) (hl2 : (i.val, .int v) :: lv.filter (fun q => !(q.1 == i.val) && !(q.1 + 1 == i.val && q.2.category == 2)) = lv2) (kk : q_Wq X G x nL Q k n (pc + 1) lv2 st σ) : q_Wq X G x nL Q k n pc lv (.int v :: st) σ := by
  obtain ⟨p, l, e, R, s, m, args, below, meth, c⟩ := X
  intro H locs ls hR hS hl
  exact lv_istore_n hx.1 hx.2.1 hd rfl hl hn hl2 (fun ls hl => kk H locs ls hR hS hl)
theorem q_istore (hx : q_Cx X G own cc nL d) {i : Nat} {v : Int32} (lv2 : List (Nat × Value)) (hd : decode cc pc = .ok (.istore i, 2)) (hn : i < nL) (hl2 : (i, .int v) :: lv.filter (fun q => !(q.1 == i) && !(q.1 + 1 == i && q.2.category == 2)) = lv2) (kk : q_Wq X G x nL Q k n (pc + 2) lv2 st σ) : q_Wq X G x nL Q k n pc lv (.int v :: st) σ := by
  obtain ⟨p, l, e, R, s, m, args, below, meth, c⟩ := X
  intro H locs ls hR hS hl
  exact lv_istore hx.1 hx.2.1 hd hl hn hl2 (fun ls hl => kk H locs ls hR hS hl)
theorem q_astore_n (hx : q_Cx X G own cc nL d) {i : Fin 4} {v : Nat} (lv2 : List (Nat × Value)) (hd : decode cc pc = .ok (.astore_n i, 1)) (hn : i.val < nL) (hl2 : (i.val, .ref v) :: lv.filter (fun q => !(q.1 == i.val) && !(q.1 + 1 == i.val && q.2.category == 2)) = lv2) (kk : q_Wq X G x nL Q k n (pc + 1) lv2 st σ) : q_Wq X G x nL Q k n pc lv (.ref v :: st) σ := by
  obtain ⟨p, l, e, R, s, m, args, below, meth, c⟩ := X
  intro H locs ls hR hS hl
  exact lv_astore_n hx.1 hx.2.1 hd rfl hl hn hl2 (fun ls hl => kk H locs ls hR hS hl)
theorem q_astore (hx : q_Cx X G own cc nL d) {i : Nat} {v : Nat} (lv2 : List (Nat × Value)) (hd : decode cc pc = .ok (.astore i, 2)) (hn : i < nL) (hl2 : (i, .ref v) :: lv.filter (fun q => !(q.1 == i) && !(q.1 + 1 == i && q.2.category == 2)) = lv2) (kk : q_Wq X G x nL Q k n (pc + 2) lv2 st σ) : q_Wq X G x nL Q k n pc lv (.ref v :: st) σ := by
  obtain ⟨p, l, e, R, s, m, args, below, meth, c⟩ := X
  intro H locs ls hR hS hl
  exact lv_astore hx.1 hx.2.1 hd hl hn hl2 (fun ls hl => kk H locs ls hR hS hl)
theorem q_iinc (hx : q_Cx X G own cc nL d) {i : Nat} {z : Int} {a v : Int32} (lv2 : List (Nat × Value)) (hd : decode cc pc = .ok (.iinc i z, 3)) (j : Nat) (hj : lv[j]? = some (i, .int a)) (hv : a + Int32.ofInt z = v) (hn : i < nL) (hl2 : (i, Value.int v) :: lv.filter (fun q => !(q.1 == i) && !(q.1 + 1 == i && q.2.category == 2)) = lv2) (kk : q_Wq X G x nL Q k n (pc + 3) lv2 st σ) : q_Wq X G x nL Q k n pc lv st σ := by
  obtain ⟨p, l, e, R, s, m, args, below, meth, c⟩ := X
  intro H locs ls hR hS hl
  exact lv_iinc hx.1 hx.2.1 hd hl hj hv hn hl2 (fun ls hl => kk H locs ls hR hS hl)
theorem q_if_eq (hx : q_Cx X G own cc nL d) {a : Int32} {off : Int} (tgt : Nat) (hd : decode cc pc = .ok (.ifCond .eq off, 3)) (ht : (pc : Int) + off = (tgt : Int)) (kt : a = 0 → q_Wq X G x nL Q k n tgt lv st σ) (kf : ¬ a = 0 → q_Wq X G x nL Q k n (pc + 3) lv st σ) : q_Wq X G x nL Q k n pc lv (.int a :: st) σ := by
  obtain ⟨p, l, e, R, s, m, args, below, meth, c⟩ := X
  intro H locs ls hR hS hl
  exact lv_if_eq hx.1 hx.2.1 hd ht (fun h => kt h H locs ls hR hS hl) (fun h => kf h H locs ls hR hS hl)
theorem q_icmp_eq (hx : q_Cx X G own cc nL d) {a b : Int32} {off : Int} (tgt : Nat) (hd : decode cc pc = .ok (.if_icmp .eq off, 3)) (ht : (pc : Int) + off = (tgt : Int)) (kt : a = b → q_Wq X G x nL Q k n tgt lv st σ) (kf : ¬ a = b → q_Wq X G x nL Q k n (pc + 3) lv st σ) : q_Wq X G x nL Q k n pc lv (.int b :: .int a :: st) σ := by
  obtain ⟨p, l, e, R, s, m, args, below, meth, c⟩ := X
  intro H locs ls hR hS hl
  exact lv_icmp_eq hx.1 hx.2.1 hd ht (fun h => kt h H locs ls hR hS hl) (fun h => kf h H locs ls hR hS hl)
theorem q_if_ne (hx : q_Cx X G own cc nL d) {a : Int32} {off : Int} (tgt : Nat) (hd : decode cc pc = .ok (.ifCond .ne off, 3)) (ht : (pc : Int) + off = (tgt : Int)) (kt : ¬ a = 0 → q_Wq X G x nL Q k n tgt lv st σ) (kf : a = 0 → q_Wq X G x nL Q k n (pc + 3) lv st σ) : q_Wq X G x nL Q k n pc lv (.int a :: st) σ := by
  obtain ⟨p, l, e, R, s, m, args, below, meth, c⟩ := X
  intro H locs ls hR hS hl
  exact lv_if_ne hx.1 hx.2.1 hd ht (fun h => kt h H locs ls hR hS hl) (fun h => kf h H locs ls hR hS hl)
theorem q_icmp_ne (hx : q_Cx X G own cc nL d) {a b : Int32} {off : Int} (tgt : Nat) (hd : decode cc pc = .ok (.if_icmp .ne off, 3)) (ht : (pc : Int) + off = (tgt : Int)) (kt : ¬ a = b → q_Wq X G x nL Q k n tgt lv st σ) (kf : a = b → q_Wq X G x nL Q k n (pc + 3) lv st σ) : q_Wq X G x nL Q k n pc lv (.int b :: .int a :: st) σ := by
  obtain ⟨p, l, e, R, s, m, args, below, meth, c⟩ := X
  intro H locs ls hR hS hl
  exact lv_icmp_ne hx.1 hx.2.1 hd ht (fun h => kt h H locs ls hR hS hl) (fun h => kf h H locs ls hR hS hl)
theorem q_if_lt (hx : q_Cx X G own cc nL d) {a : Int32} {off : Int} (tgt : Nat) (hd : decode cc pc = .ok (.ifCond .lt off, 3)) (ht : (pc : Int) + off = (tgt : Int)) (kt : a < 0 → q_Wq X G x nL Q k n tgt lv st σ) (kf : ¬ a < 0 → q_Wq X G x nL Q k n (pc + 3) lv st σ) : q_Wq X G x nL Q k n pc lv (.int a :: st) σ := by
  obtain ⟨p, l, e, R, s, m, args, below, meth, c⟩ := X
  intro H locs ls hR hS hl
  exact lv_if_lt hx.1 hx.2.1 hd ht (fun h => kt h H locs ls hR hS hl) (fun h => kf h H locs ls hR hS hl)
theorem q_icmp_lt (hx : q_Cx X G own cc nL d) {a b : Int32} {off : Int} (tgt : Nat) (hd : decode cc pc = .ok (.if_icmp .lt off, 3)) (ht : (pc : Int) + off = (tgt : Int)) (kt : a < b → q_Wq X G x nL Q k n tgt lv st σ) (kf : ¬ a < b → q_Wq X G x nL Q k n (pc + 3) lv st σ) : q_Wq X G x nL Q k n pc lv (.int b :: .int a :: st) σ := by
  obtain ⟨p, l, e, R, s, m, args, below, meth, c⟩ := X
  intro H locs ls hR hS hl
  exact lv_icmp_lt hx.1 hx.2.1 hd ht (fun h => kt h H locs ls hR hS hl) (fun h => kf h H locs ls hR hS hl)
theorem q_if_ge (hx : q_Cx X G own cc nL d) {a : Int32} {off : Int} (tgt : Nat) (hd : decode cc pc = .ok (.ifCond .ge off, 3)) (ht : (pc : Int) + off = (tgt : Int)) (kt : 0 ≤ a → q_Wq X G x nL Q k n tgt lv st σ) (kf : ¬ 0 ≤ a → q_Wq X G x nL Q k n (pc + 3) lv st σ) : q_Wq X G x nL Q k n pc lv (.int a :: st) σ := by
  obtain ⟨p, l, e, R, s, m, args, below, meth, c⟩ := X
  intro H locs ls hR hS hl
  exact lv_if_ge hx.1 hx.2.1 hd ht (fun h => kt h H locs ls hR hS hl) (fun h => kf h H locs ls hR hS hl)
theorem q_icmp_ge (hx : q_Cx X G own cc nL d) {a b : Int32} {off : Int} (tgt : Nat) (hd : decode cc pc = .ok (.if_icmp .ge off, 3)) (ht : (pc : Int) + off = (tgt : Int)) (kt : b ≤ a → q_Wq X G x nL Q k n tgt lv st σ) (kf : ¬ b ≤ a → q_Wq X G x nL Q k n (pc + 3) lv st σ) : q_Wq X G x nL Q k n pc lv (.int b :: .int a :: st) σ := by
  obtain ⟨p, l, e, R, s, m, args, below, meth, c⟩ := X
  intro H locs ls hR hS hl
  exact lv_icmp_ge hx.1 hx.2.1 hd ht (fun h => kt h H locs ls hR hS hl) (fun h => kf h H locs ls hR hS hl)
theorem q_if_gt (hx : q_Cx X G own cc nL d) {a : Int32} {off : Int} (tgt : Nat) (hd : decode cc pc = .ok (.ifCond .gt off, 3)) (ht : (pc : Int) + off = (tgt : Int)) (kt : 0 < a → q_Wq X G x nL Q k n tgt lv st σ) (kf : ¬ 0 < a → q_Wq X G x nL Q k n (pc + 3) lv st σ) : q_Wq X G x nL Q k n pc lv (.int a :: st) σ := by
  obtain ⟨p, l, e, R, s, m, args, below, meth, c⟩ := X
  intro H locs ls hR hS hl
  exact lv_if_gt hx.1 hx.2.1 hd ht (fun h => kt h H locs ls hR hS hl) (fun h => kf h H locs ls hR hS hl)
theorem q_icmp_gt (hx : q_Cx X G own cc nL d) {a b : Int32} {off : Int} (tgt : Nat) (hd : decode cc pc = .ok (.if_icmp .gt off, 3)) (ht : (pc : Int) + off = (tgt : Int)) (kt : b < a → q_Wq X G x nL Q k n tgt lv st σ) (kf : ¬ b < a → q_Wq X G x nL Q k n (pc + 3) lv st σ) : q_Wq X G x nL Q k n pc lv (.int b :: .int a :: st) σ := by
  obtain ⟨p, l, e, R, s, m, args, below, meth, c⟩ := X
  intro H locs ls hR hS hl
  exact lv_icmp_gt hx.1 hx.2.1 hd ht (fun h => kt h H locs ls hR hS hl) (fun h => kf h H locs ls hR hS hl)
theorem q_if_le (hx : q_Cx X G own cc nL d) {a : Int32} {off : Int} (tgt : Nat) (hd : decode cc pc = .ok (.ifCond .le off, 3)) (ht : (pc : Int) + off = (tgt : Int)) (kt : a ≤ 0 → q_Wq X G x nL Q k n tgt lv st σ) (kf : ¬ a ≤ 0 → q_Wq X G x nL Q k n (pc + 3) lv st σ) : q_Wq X G x nL Q k n pc lv (.int a :: st) σ := by
  obtain ⟨p, l, e, R, s, m, args, below, meth, c⟩ := X
  intro H locs ls hR hS hl
  exact lv_if_le hx.1 hx.2.1 hd ht (fun h => kt h H locs ls hR hS hl) (fun h => kf h H locs ls hR hS hl)
theorem q_icmp_le (hx : q_Cx X G own cc nL d) {a b : Int32} {off : Int} (tgt : Nat) (hd : decode cc pc = .ok (.if_icmp .le off, 3)) (ht : (pc : Int) + off = (tgt : Int)) (kt : a ≤ b → q_Wq X G x nL Q k n tgt lv st σ) (kf : ¬ a ≤ b → q_Wq X G x nL Q k n (pc + 3) lv st σ) : q_Wq X G x nL Q k n pc lv (.int b :: .int a :: st) σ := by
  obtain ⟨p, l, e, R, s, m, args, below, meth, c⟩ := X
  intro H locs ls hR hS hl
  exact lv_icmp_le hx.1 hx.2.1 hd ht (fun h => kt h H locs ls hR hS hl) (fun h => kf h H locs ls hR hS hl)
theorem q_goto (hx : q_Cx X G own cc nL d) {off : Int} (tgt : Nat) (hd : decode cc pc = .ok (.goto off, 3)) (ht : (pc : Int) + off = (tgt : Int)) (kk : q_Wq X G x nL Q k n tgt lv st σ) : q_Wq X G x nL Q k n pc lv st σ := by
  obtain ⟨p, l, e, R, s, m, args, below, meth, c⟩ := X
  intro H locs ls hR hS hl
  exact lv_goto hx.1 hx.2.1 hd ht (kk H locs ls hR hS hl)
theorem q_tin (hx : q_Cx X G own cc nL d) {a : Int32} {df lo hi off : Int} {offs : Array Int} {len : Nat} (tgt : Nat) (hd : decode cc pc = .ok (.tableswitch df lo hi offs, len)) (h1 : ¬ a.toInt < lo) (h2 : ¬ hi < a.toInt) (ho : offs[(a.toInt - lo).toNat]? = some off) (ht : (pc : Int) + off = (tgt : Int)) (kk : q_Wq X G x nL Q k n tgt lv st σ) : q_Wq X G x nL Q k n pc lv (.int a :: st) σ := by
  obtain ⟨p, l, e, R, s, m, args, below, meth, c⟩ := X
  intro H locs ls hR hS hl
  exact lv_tableIn hx.1 hx.2.1 hd h1 h2 ho ht (kk H locs ls hR hS hl)
theorem q_tout (hx : q_Cx X G own cc nL d) {a : Int32} {df lo hi : Int} {offs : Array Int} {len : Nat} (tgt : Nat) (hd : decode cc pc = .ok (.tableswitch df lo hi offs, len)) (h : a.toInt < lo ∨ hi < a.toInt) (ht : (pc : Int) + df = (tgt : Int)) (kk : q_Wq X G x nL Q k n tgt lv st σ) : q_Wq X G x nL Q k n pc lv (.int a :: st) σ := by
  obtain ⟨p, l, e, R, s, m, args, below, meth, c⟩ := X
  intro H locs ls hR hS hl
  exact lv_tableOut hx.1 hx.2.1 hd h ht (kk H locs ls hR hS hl)
theorem q_look (hx : q_Cx X G own cc nL d) {a : Int32} {df off : Int} {ps : Array (Int × Int)} {len : Nat} (tgt : Nat) (hd : decode cc pc = .ok (.lookupswitch df ps, len)) (hp : (ps.toList.zip (ps.toList.drop 1)).all (fun (a, next) => a.1 < next.1) = true) (ho : Op.lookupswitch.offset ps.toList df a.toInt = off) (ht : (pc : Int) + off = (tgt : Int)) (kk : q_Wq X G x nL Q k n tgt lv st σ) : q_Wq X G x nL Q k n pc lv (.int a :: st) σ := by
  obtain ⟨p, l, e, R, s, m, args, below, meth, c⟩ := X
  intro H locs ls hR hS hl
  exact lv_lookup hx.1 hx.2.1 hd hp ho ht (kk H locs ls hR hS hl)
/-- a row of the constant pool that names a field: the class by its place in q_cl, the field by its slot -/
def q_FL (own : String) (idx ci f : Nat) : Prop := ∃ (C : String) (T : u_T) (N : Nat), q_cl[ci]? = some (C, T, N) ∧ f < N ∧ (T f).1 = C ∧ (∀ w ∈ u_ws C T N, q_in w) ∧ (q_in (.fieldLink own idx C (T f).2.1 (T f).2.2.1) ∨ ∃ host : String, q_in (.fieldLinkNest own idx C (T f).2.1 (T f).2.2.1 host))
/-- .. which can be written: its type -/
def q_FP (ci f : Nat) (ty : FieldType) : Prop := ∃ (C : String) (T : u_T) (N : Nat) (tys : Nat → FieldType), q_cl[ci]? = some (C, T, N) ∧ (T f).2.2.2 = false ∧ parseFieldDescriptor (T f).2.2.1 = some ty ∧ (∀ k, k < N → parseFieldDescriptor (T k).2.2.1 = some (tys k)) ∧ ∀ a, a < N → ∀ b, b < N → a ≠ b → (T a).2.1 ≠ (T b).2.1
theorem q_get (hx : q_Cx X G own cc nL d) {idx ci f c : Nat} {fs : List Value} {v : Value} (L : q_FL own idx ci f) (hd : decode cc pc = .ok (.getfield idx, 3)) (hc : q_kd c ≠ 99) (he : q_ent G (σ c) x c = .inr (ci, fs)) (hv : fs[f]? = some v) (kk : q_Wq X G x nL Q k n (pc + 3) lv (v :: st) σ) : q_Wq X G x nL Q k n pc lv (.ref (G.2.1 + c) :: st) σ := by
  obtain ⟨p, l, e, R, s, m, args, below, meth, c0⟩ := X
  intro H locs ls hR hS hl
  obtain ⟨C, T, N, h1, h2, h3, h4, h5⟩ := L
  obtain ⟨hexec, hb, hml, hown, hlk, hroom, hAw, hK, hT⟩ := hx
  have hts : ∀ w ∈ u_ws C T N, w.before args s = true := fun w hw => hAw.use (h4 w hw)
  have hg : (q_wl G σ x)[c]? = some (G.2.1 + c, .inr (ci, fs)) := by rw [q_wl_get (q_kd_lt rfl hc), he]
  rcases h5 with h5 | ⟨host, h5⟩
  · exact va_get (D := G.1) (cl := q_cl) (ref := C) hexec hb hts (fun _ h => h) hown hK hR c hg h1 f h2 (hAw.use h5) (fun y hy => by rw [h3] at hy; exact hy) hv hd (kk H locs ls hR hS hl)
  · exact va_getN (D := G.1) (cl := q_cl) (ref := C) hexec hb hts (fun _ h => h) hown hK hR c hg h1 f h2 (hAw.use h5) (fun y hy => by rw [h3] at hy; exact hy) hv hd (kk H locs ls hR hS hl)
theorem q_put (hx : q_Cx X G own cc nL d) {idx ci f c : Nat} {fs : List Value} {ty : FieldType} {v : Int32} (L : q_FL own idx ci f) (L2 : q_FP ci f ty) (hd : decode cc pc = .ok (.putfield idx, 3)) (hc : q_kd c ≠ 99) (he : q_ent G (σ c) x c = .inr (ci, fs)) (hlen : f < fs.length) (hn : narrow ty (.int v) = .int v) (hfit : fits ty (.int v) = true) (hset : .inr (ci, fs.set f (.int v)) = q_ent G (upd (σ c) f v) x c) (kk : q_Wq X G x nL Q k n (pc + 3) lv st (q_up σ c f v)) : q_Wq X G x nL Q k n pc lv (.int v :: .ref (G.2.1 + c) :: st) σ := by
  obtain ⟨p, l, e, R, s, m, args, below, meth, c0⟩ := X
  intro H locs ls hR hS hl
  obtain ⟨C, T, N, h1, h2, h3, h4, h5⟩ := L
  obtain ⟨C', T', N', tys, g1, g2, g3, g4, g5⟩ := L2
  cases Option.some.inj (h1.symm.trans g1)
  obtain ⟨hexec, hb, hml, hown, hlk, hroom, hAw, hK, hT⟩ := hx
  have hts : ∀ w ∈ u_ws C T N, w.before args s = true := fun w hw => hAw.use (h4 w hw)
  have hlt := q_kd_lt (c := c) rfl hc
  have hg : (q_wl G σ x)[c]? = some (G.2.1 + c, .inr (ci, fs)) := by rw [q_wl_get hlt, he]
  have hend : ∀ (H1 : Heap) (locs1 : List Loc), va_P G.1 q_cl ((q_wl G σ x).set c (G.2.1 + c, .inr (ci, fs.set f (.int v)))) H1 → va_D (q_free G) ((q_wl G σ x).set c (G.2.1 + c, .inr (ci, fs.set f (.int v)))) → va_S (q_free G) s.heap H1 locs1 → W p l e R s m args below meth c0 H1 locs1 k n Q (F0 m (pc + 3) ls st) := by
    intro H1 locs1 hP1 _ hS1
    rw [q_wl_set hlt hset, ← q_up_row] at hP1
    exact kk H1 locs1 ls hP1 hS1 hl
  rcases h5 with h5 | ⟨host, h5⟩
  · exact va_put (D := G.1) (cl := q_cl) (ref := C) hexec hb hts (fun _ h => h) tys g4 g5 hown hK hR (q_wl_D G σ x) hS c hg h1 f h2 (hAw.use h5) (fun y hy => by rw [h3] at hy; exact hy) g2 g3 hn hfit hlen hd hend
  · exact va_putN (D := G.1) (cl := q_cl) (ref := C) hexec hb hts (fun _ h => h) tys g4 g5 hown hK hR (q_wl_D G σ x) hS c hg h1 f h2 (hAw.use h5) (fun y hy => by rw [h3] at hy; exact hy) g2 g3 hn hfit hlen hd hend
theorem q_iald (hx : q_Cx X G own cc nL d) {c N : Nat} {i : Int32} (hd : decode cc pc = .ok (.iaload, 1)) (hc : q_kd c = 10000 + N) (hN : N < 10000) (hi : vp_in i N) (kk : q_Wq X G x nL Q k n (pc + 1) lv (.int (σ c i.toNatClampNeg) :: st) σ) : q_Wq X G x nL Q k n pc lv (.int i :: .ref (G.2.1 + c) :: st) σ := by
  obtain ⟨p, l, e, R, s, m, args, below, meth, c0⟩ := X
  intro H locs ls hR hS hl
  obtain ⟨hexec, hb, hml, hown, hlk, hroom, hAw, hK, hT⟩ := hx
  have hg : (q_wl G σ x)[c]? = some (G.2.1 + c, .inl (G.2.2.1 0, N, .inl (σ c))) := by rw [q_wl_get (q_kd_lt hc (by omega)), q_ea0 hc hN]
  exact va_iald hexec hb hK hR c 0 hg rfl hi hd (kk H locs ls hR hS hl)
theorem q_cald (hx : q_Cx X G own cc nL d) {c N : Nat} {i : Int32} (hd : decode cc pc = .ok (.caload, 1)) (hc : q_kd c = 20000 + N) (hN : N < 10000) (hi : vp_in i N) (kk : q_Wq X G x nL Q k n (pc + 1) lv (.int (σ c i.toNatClampNeg) :: st) σ) : q_Wq X G x nL Q k n pc lv (.int i :: .ref (G.2.1 + c) :: st) σ := by
  obtain ⟨p, l, e, R, s, m, args, below, meth, c0⟩ := X
  intro H locs ls hR hS hl
  obtain ⟨hexec, hb, hml, hown, hlk, hroom, hAw, hK, hT⟩ := hx
  have hg : (q_wl G σ x)[c]? = some (G.2.1 + c, .inl (G.2.2.1 1, N, .inl (σ c))) := by rw [q_wl_get (q_kd_lt hc (by omega)), q_ea1 hc hN]
  exact va_cald hexec hb hK hR c 1 hg rfl hi hd (kk H locs ls hR hS hl)
theorem q_zald (hx : q_Cx X G own cc nL d) {c N : Nat} {i : Int32} (hd : decode cc pc = .ok (.baload, 1)) (hc : q_kd c = 30000 + N) (hN : N < 10000) (hi : vp_in i N) (kk : q_Wq X G x nL Q k n (pc + 1) lv (.int (σ c i.toNatClampNeg) :: st) σ) : q_Wq X G x nL Q k n pc lv (.int i :: .ref (G.2.1 + c) :: st) σ := by
  obtain ⟨p, l, e, R, s, m, args, below, meth, c0⟩ := X
  intro H locs ls hR hS hl
  obtain ⟨hexec, hb, hml, hown, hlk, hroom, hAw, hK, hT⟩ := hx
  have hg : (q_wl G σ x)[c]? = some (G.2.1 + c, .inl (G.2.2.1 2, N, .inl (σ c))) := by rw [q_wl_get (q_kd_lt hc (by omega)), q_ea2 hc hN]
  exact va_zald hexec hb hK hR c 2 hg rfl hi hd (kk H locs ls hR hS hl)
theorem q_iast (hx : q_Cx X G own cc nL d) {c N : Nat} {i v : Int32} (hd : decode cc pc = .ok (.iastore, 1)) (hc : q_kd c = 10000 + N) (hN : N < 10000) (hi : vp_in i N) (kk : q_Wq X G x nL Q k n (pc + 1) lv st (q_up σ c i.toNatClampNeg (v))) : q_Wq X G x nL Q k n pc lv (.int v :: .int i :: .ref (G.2.1 + c) :: st) σ := by
  obtain ⟨p, l, e, R, s, m, args, below, meth, c0⟩ := X
  intro H locs ls hR hS hl
  obtain ⟨hexec, hb, hml, hown, hlk, hroom, hAw, hK, hT⟩ := hx
  have hlt := q_kd_lt hc (by omega)
  have hg : (q_wl G σ x)[c]? = some (G.2.1 + c, .inl (G.2.2.1 0, N, .inl (σ c))) := by rw [q_wl_get hlt, q_ea0 hc hN]
  refine va_iast hexec hb hK hR (q_wl_D G σ x) hS c 0 hg rfl hi hd (fun H1 locs1 hP1 _ hS1 => ?_)
  rw [q_wl_set hlt (q_ea0 hc hN).symm, ← q_up_row] at hP1
  exact kk H1 locs1 ls hP1 hS1 hl
theorem q_cast (hx : q_Cx X G own cc nL d) {c N : Nat} {i v : Int32} (hd : decode cc pc = .ok (.castore, 1)) (hc : q_kd c = 20000 + N) (hN : N < 10000) (hi : vp_in i N) (kk : q_Wq X G x nL Q k n (pc + 1) lv st (q_up σ c i.toNatClampNeg (vp_nar .char v))) : q_Wq X G x nL Q k n pc lv (.int v :: .int i :: .ref (G.2.1 + c) :: st) σ := by
  obtain ⟨p, l, e, R, s, m, args, below, meth, c0⟩ := X
  intro H locs ls hR hS hl
  obtain ⟨hexec, hb, hml, hown, hlk, hroom, hAw, hK, hT⟩ := hx
  have hlt := q_kd_lt hc (by omega)
  have hg : (q_wl G σ x)[c]? = some (G.2.1 + c, .inl (G.2.2.1 1, N, .inl (σ c))) := by rw [q_wl_get hlt, q_ea1 hc hN]
  refine va_cast hexec hb hK hR (q_wl_D G σ x) hS c 1 hg rfl hi hd (fun H1 locs1 hP1 _ hS1 => ?_)
  rw [q_wl_set hlt (q_ea1 hc hN).symm, ← q_up_row] at hP1
  exact kk H1 locs1 ls hP1 hS1 hl
theorem q_zast (hx : q_Cx X G own cc nL d) {c N : Nat} {i v : Int32} (hd : decode cc pc = .ok (.bastore, 1)) (hc : q_kd c = 30000 + N) (hN : N < 10000) (hi : vp_in i N) (kk : q_Wq X G x nL Q k n (pc + 1) lv st (q_up σ c i.toNatClampNeg (vp_nar .boolean v))) : q_Wq X G x nL Q k n pc lv (.int v :: .int i :: .ref (G.2.1 + c) :: st) σ := by
  obtain ⟨p, l, e, R, s, m, args, below, meth, c0⟩ := X
  intro H locs ls hR hS hl
  obtain ⟨hexec, hb, hml, hown, hlk, hroom, hAw, hK, hT⟩ := hx
  have hlt := q_kd_lt hc (by omega)
  have hg : (q_wl G σ x)[c]? = some (G.2.1 + c, .inl (G.2.2.1 2, N, .inl (σ c))) := by rw [q_wl_get hlt, q_ea2 hc hN]
  refine va_zast hexec hb hK hR (q_wl_D G σ x) hS c 2 hg rfl hi hd (fun H1 locs1 hP1 _ hS1 => ?_)
  rw [q_wl_set hlt (q_ea2 hc hN).symm, ← q_up_row] at hP1
  exact kk H1 locs1 ls hP1 hS1 hl
theorem q_alen0 (hx : q_Cx X G own cc nL d) {c N : Nat} {v : Int32} (hd : decode cc pc = .ok (.arraylength, 1)) (hc : q_kd c = 10000 + N) (hN : N < 10000) (hv : Int32.ofNat N = v) (kk : q_Wq X G x nL Q k n (pc + 1) lv (.int v :: st) σ) : q_Wq X G x nL Q k n pc lv (.ref (G.2.1 + c) :: st) σ := by
  obtain ⟨p, l, e, R, s, m, args, below, meth, c0⟩ := X
  intro H locs ls hR hS hl
  obtain ⟨hexec, hb, hml, hown, hlk, hroom, hAw, hK, hT⟩ := hx
  have hg : (q_wl G σ x)[c]? = some (G.2.1 + c, .inl (G.2.2.1 0, N, .inl (σ c))) := by rw [q_wl_get (q_kd_lt hc (by omega)), q_ea0 hc hN]
  exact va_alen hexec hb hK hR c 0 hg (ty := .int) rfl hv hd (kk H locs ls hR hS hl)
theorem q_alen1 (hx : q_Cx X G own cc nL d) {c N : Nat} {v : Int32} (hd : decode cc pc = .ok (.arraylength, 1)) (hc : q_kd c = 20000 + N) (hN : N < 10000) (hv : Int32.ofNat N = v) (kk : q_Wq X G x nL Q k n (pc + 1) lv (.int v :: st) σ) : q_Wq X G x nL Q k n pc lv (.ref (G.2.1 + c) :: st) σ := by
  obtain ⟨p, l, e, R, s, m, args, below, meth, c0⟩ := X
  intro H locs ls hR hS hl
  obtain ⟨hexec, hb, hml, hown, hlk, hroom, hAw, hK, hT⟩ := hx
  have hg : (q_wl G σ x)[c]? = some (G.2.1 + c, .inl (G.2.2.1 1, N, .inl (σ c))) := by rw [q_wl_get (q_kd_lt hc (by omega)), q_ea1 hc hN]
  exact va_alen hexec hb hK hR c 1 hg (ty := .char) rfl hv hd (kk H locs ls hR hS hl)
theorem q_alen2 (hx : q_Cx X G own cc nL d) {c N : Nat} {v : Int32} (hd : decode cc pc = .ok (.arraylength, 1)) (hc : q_kd c = 30000 + N) (hN : N < 10000) (hv : Int32.ofNat N = v) (kk : q_Wq X G x nL Q k n (pc + 1) lv (.int v :: st) σ) : q_Wq X G x nL Q k n pc lv (.ref (G.2.1 + c) :: st) σ := by
  obtain ⟨p, l, e, R, s, m, args, below, meth, c0⟩ := X
  intro H locs ls hR hS hl
  obtain ⟨hexec, hb, hml, hown, hlk, hroom, hAw, hK, hT⟩ := hx
  have hg : (q_wl G σ x)[c]? = some (G.2.1 + c, .inl (G.2.2.1 2, N, .inl (σ c))) := by rw [q_wl_get (q_kd_lt hc (by omega)), q_ea2 hc hN]
  exact va_alen hexec hb hK hR c 2 hg (ty := .boolean) rfl hv hd (kk H locs ls hR hS hl)
theorem q_iret {v : Int32} (hx : q_Cx X G own cc nL d) (hr : (q_Xm X).sig.returnType = some .int) (hd : decode cc pc = .ok (.ireturn, 1)) : q_Wq X G x nL (q_MQ X G (q_Qi G x v σ)) 0 0 pc lv [.int v] σ := by
  obtain ⟨p, l, e, R, s, m, args, below, meth, c⟩ := X
  intro H locs ls hR hS hl
  obtain ⟨hexec, hb, hml, hown, hlk, hroom, hAw, hK, hT⟩ := hx
  exact W.iret hexec hb hr (fun t ht hW => ⟨⟨v, (), rfl, rfl, by show q_Rep G σ x t.heap; rw [ht]; exact hR⟩, hS.F ht⟩) hS.2.2 hd
theorem q_zret {v : Int32} {ty : FieldType} (hx : q_Cx X G own cc nL d) (hr : (q_Xm X).sig.returnType = some ty) (hn : narrow ty (.int v) = .int v) (hd : decode cc pc = .ok (.ireturn, 1)) : q_Wq X G x nL (q_MQ X G (q_Qi G x v σ)) 0 0 pc lv [.int v] σ := by
  obtain ⟨p, l, e, R, s, m, args, below, meth, c⟩ := X
  intro H locs ls hR hS hl
  obtain ⟨hexec, hb, hml, hown, hlk, hroom, hAw, hK, hT⟩ := hx
  exact W.zret hexec hb hr hn (fun t ht hW => ⟨⟨v, (), rfl, rfl, by show q_Rep G σ x t.heap; rw [ht]; exact hR⟩, hS.F ht⟩) hS.2.2 hd
theorem q_vret (hx : q_Cx X G own cc nL d) (hr : (q_Xm X).sig.returnType = none) (hd : decode cc pc = .ok (.return_, 1)) : q_Wq X G x nL (q_MQ X G (q_Qv G x σ)) 0 0 pc lv [] σ := by
  obtain ⟨p, l, e, R, s, m, args, below, meth, c⟩ := X
  intro H locs ls hR hS hl
  obtain ⟨hexec, hb, hml, hown, hlk, hroom, hAw, hK, hT⟩ := hx
  exact W.vret hexec hb hr (fun t ht hW => ⟨⟨(), rfl, trivial, by show q_Rep G σ x t.heap; rw [ht]; exact hR⟩, hS.F ht⟩) hS.2.2 hd
theorem q_aret {v : Nat} {C : String} (hx : q_Cx X G own cc nL d) (hr : (q_Xm X).sig.returnType = some (.object C)) (hd : decode cc pc = .ok (.areturn, 1)) : q_Wq X G x nL (q_MQ X G (q_Qr G x v σ)) 0 0 pc lv [.ref (G.2.1 + v)] σ := by
  obtain ⟨p, l, e, R, s, m, args, below, meth, c⟩ := X
  intro H locs ls hR hS hl
  obtain ⟨hexec, hb, hml, hown, hlk, hroom, hAw, hK, hT⟩ := hx
  exact W.aret hexec hb hr (Or.inl ⟨C, rfl⟩) (Or.inr ⟨_, rfl⟩) (fun t ht hW => ⟨⟨(), G.2.1 + v, rfl, trivial, rfl, by show q_Rep G σ x t.heap; rw [ht]; exact hR⟩, hS.F ht⟩) hS.2.2 hd
/-! calls -/
/-- what the tables say of a method, however it is called -/
def q_Mn (y : MethodName) (cc : ByteArray) (maxL : Nat) (ret : Option FieldType) (np : Nat) : Prop := q_in (.code y cc maxL ret) ∧ q_in (.initialized y.cls) ∧ (y.cls ≠ "java/lang/invoke/MethodHandle" ∧ y.cls ≠ "java/lang/invoke/VarHandle") ∧ (∀ sig, parseMethodDescriptor y.desc = some sig → np = sig.parameters.length) ∧ maxL ≤ 21
theorem q_Mn.of {y : MethodName} {cc : ByteArray} {maxL : Nat} {ret : Option FieldType} {np : Nat} (h1 : q_in (.code y cc maxL ret)) (h2 : q_in (.initialized y.cls)) (h3 : y.cls ≠ "java/lang/invoke/MethodHandle" ∧ y.cls ≠ "java/lang/invoke/VarHandle") (h4 : (parseMethodDescriptor y.desc).map (fun d => d.parameters.length) = some np) (h5 : maxL ≤ 21) : q_Mn y cc maxL ret np := by
  refine ⟨h1, h2, h3, fun sig h => ?_, h5⟩
  rw [h] at h4
  exact (Option.some.inj h4).symm
theorem q_good {y : MethodName} {cc : ByteArray} {maxL : Nat} {ret : Option FieldType} {s : State} {args : Array Value} (h : (Cond.code y cc maxL ret).before args s = true) : ∀ w ∈ ([.code y cc maxL ret] : List Cond), ∀ (a' : Array Value) (U : State), s.WarmedH U.vm → w.before a' U = true := by
  intro w hw a' U hW
  rw [List.mem_singleton.mp hw]
  exact word_at hW (Or.inl rfl) h
/-- a link to a method: of the class itself, or of a nest mate -/
def q_ML (own : String) (idx : Nat) (y : MethodName) : Prop := q_in (.methodLink own idx y) ∨ ∃ host : String, q_in (.methodLinkNest own idx y host)
theorem q_runS {y : MethodName} {bytes : ByteArray} {maxL np d2 idx : Nat} {ret : Option FieldType} {As rest : List Value} {Qc : Array Value → State → Outcome → State → Prop} {p : Program} {l : Launch} {e : Env} {R : Room} {s : State} {m : MethodId} {args : Array Value} {below : List Frame} {meth : Method} {c : Code} {H : Heap} {locs : List Loc} {ls : Array Slot}
    (hx : q_Cx (p, l, e, R, s, m, args, below, meth, c) G own cc nL d) (hM : q_Met l y bytes maxL ret d2 G As σ x Qc) (hL : q_ML own idx y) (hN : q_Mn y bytes maxL ret np) (hst : q_in (.static y)) (hd2 : d2 + 1 ≤ d) (hn : As.length = np) (hW : (rest.map fun v => v.category).sum ≤ 8) (hd : decode cc pc = .ok (.invokestatic idx, 3)) (hkR : k ≤ R.cells ∧ n ≤ R.slots) (hR : q_Rep G σ x H) (hS : va_S (q_free G) s.heap H locs) (hl : lv_has ls nL lv) :
    va_Run p l e R s m args below meth c H locs k n 0 0 (F0 m pc ls (As.reverse ++ rest)) rest (Qc As.toArray) (q_free G) := by
  obtain ⟨hexec, hb, hml, hown, hlk, ⟨hr1, hr2⟩, hAw, hK, hT⟩ := hx
  obtain ⟨n1, n2, n3, n4, n5⟩ := hN
  have hc : (Cond.code y bytes maxL ret).before args s = true := hAw.use n1
  have hp : PreS s H (va_Pc As (fun U => q_Inv G σ x U)) As := ⟨fun a U g mk q => ⟨q.1, q.2.blind⟩, fun U hU hW => ⟨rfl, q_pre hAw hK hT hR hS U hU hW⟩⟩
  have hrl : 8 + (maxL + 11) + (q_rm d2).locals ≤ R.locals := by
    show 8 + (maxL + 11) + 40 * d2 ≤ R.locals
    omega
  have hrf : (q_rm d2).frames + 1 ≤ R.frames := by
    show d2 + 1 ≤ R.frames
    omega
  rcases hL with hL | ⟨host, hL⟩
  · exact va_runS (Ts := []) ⟨hexec, hb, hml, hown, fun w h => by cases h⟩ hM ⟨⟨rfl, rfl, hrf, hrl, q_good hc, List.mem_cons_self, hc, hAw.use n2, n3, n4, hAw.use hL⟩, hAw.use hst⟩ hp rfl hn hl.1 rfl (lv_room (pc := pc) (ls := ls) hW) hd hkR
  · exact va_runSN (Ts := []) (host := host) ⟨hexec, hb, hml, hown, fun w h => by cases h⟩ hM ⟨⟨⟨rfl, rfl, hrf, hrl, q_good hc, List.mem_cons_self⟩, hc, hAw.use n2, n3, n4, hAw.use hL⟩, hAw.use hst, trivial⟩ hp rfl hn hl.1 rfl (lv_room (pc := pc) (ls := ls) hW) hd hkR
theorem q_runV {y : MethodName} {bytes : ByteArray} {maxL np d2 idx c1 ci : Nat} {fs : List Value} {C : vw_C} {ret : Option FieldType} {As rest : List Value} {Qc : Array Value → State → Outcome → State → Prop} {p : Program} {l : Launch} {e : Env} {R : Room} {s : State} {m : MethodId} {args : Array Value} {below : List Frame} {meth : Method} {c : Code} {H : Heap} {locs : List Loc} {ls : Array Slot}
    (hx : q_Cx (p, l, e, R, s, m, args, below, meth, c) G own cc nL d) (hM : q_Met l y bytes maxL ret d2 G (.ref (G.2.1 + c1) :: As) σ x Qc) (hL : q_ML own idx y) (hN : q_Mn y bytes maxL ret np) (hi : q_in (.instanceMethod y)) (hs : q_in (.selects y.cls y y)) (hd2 : d2 + 1 ≤ d) (hn : As.length = np) (hW : (rest.map fun v => v.category).sum ≤ 8) (hd : decode cc pc = .ok (.invokevirtual idx, 3)) (hkR : k ≤ R.cells ∧ n ≤ R.slots) (hc1 : q_kd c1 ≠ 99) (he : q_ent G (σ c1) x c1 = .inr (ci, fs)) (hC : q_cl[ci]? = some C) (hC2 : C.1 = y.cls) (hR : q_Rep G σ x H) (hS : va_S (q_free G) s.heap H locs) (hl : lv_has ls nL lv) :
    va_Run p l e R s m args below meth c H locs k n 0 0 (F0 m pc ls (As.reverse ++ .ref (G.2.1 + c1) :: rest)) rest (Qc (Value.ref (G.2.1 + c1) :: As).toArray) (q_free G) := by
  obtain ⟨hexec, hb, hml, hown, hlk, ⟨hr1, hr2⟩, hAw, hK, hT⟩ := hx
  obtain ⟨n1, n2, n3, n4, n5⟩ := hN
  have hc : (Cond.code y bytes maxL ret).before args s = true := hAw.use n1
  have hg : (q_wl G σ x)[c1]? = some (G.2.1 + c1, .inr (ci, fs)) := by rw [q_wl_get (q_kd_lt rfl hc1), he]
  have hrecv := va_recv hK hR hC hg
  rw [hC2] at hrecv
  have hp : PreV s H y.cls (G.2.1 + c1) (va_Pc (.ref (G.2.1 + c1) :: As) (fun U => q_Inv G σ x U)) As := ⟨fun a U g mk q => ⟨q.1, q.2.blind⟩, hrecv, fun U hU hW => ⟨rfl, q_pre hAw hK hT hR hS U hU hW⟩⟩
  have hrl : 8 + (maxL + 11) + (q_rm d2).locals ≤ R.locals := by
    show 8 + (maxL + 11) + 40 * d2 ≤ R.locals
    omega
  have hrf : (q_rm d2).frames + 1 ≤ R.frames := by
    show d2 + 1 ≤ R.frames
    omega
  rcases hL with hL | ⟨host, hL⟩
  · exact va_runV (Ts := []) ⟨hexec, hb, hml, hown, fun w h => by cases h⟩ hM ⟨⟨rfl, rfl, hrf, hrl, q_good hc, List.mem_cons_self, hc, hAw.use n2, n3, n4, hAw.use hL⟩, hAw.use hi, hAw.use hs⟩ hp rfl hn hl.1 rfl (lv_room (pc := pc) (ls := ls) hW) hd hkR
  · exact va_runVN (Ts := []) (host := host) ⟨hexec, hb, hml, hown, fun w h => by cases h⟩ hM ⟨⟨⟨rfl, rfl, hrf, hrl, q_good hc, List.mem_cons_self⟩, hc, hAw.use n2, n3, n4, hAw.use hL⟩, hAw.use hi, hAw.use hs⟩ hp rfl hn hl.1 rfl (lv_room (pc := pc) (ls := ls) hW) hd hkR
def q_kR (X : q_X) (k n : Nat) : Prop := match X with
  | (_, _, _, R, _, _, _, _, _, _) => k ≤ R.cells ∧ n ≤ R.slots
theorem q_kR0 : q_kR X 0 0 := by
  obtain ⟨p, l, e, R, s, m, args, below, meth, c⟩ := X
  exact ⟨Nat.zero_le _, Nat.zero_le _⟩
theorem q_callSi {y : MethodName} {bytes : ByteArray} {maxL np d2 idx : Nat} {ret : Option FieldType} {As rest : List Value} {v : Int32} {τ : q_S} (hx : q_Cx X G own cc nL d) (hkR : q_kR X k n) (hM : q_Met (q_Xl X) y bytes maxL ret d2 G As σ x (q_Qi G x v τ)) (hL : q_ML own idx y) (hN : q_Mn y bytes maxL ret np) (hst : q_in (.static y)) (hd2 : d2 + 1 ≤ d) (hn : As.length = np) (hW : (rest.map fun v => v.category).sum ≤ 8) (hd : decode cc pc = .ok (.invokestatic idx, 3)) (hst0 : st = As.reverse ++ rest) (kk : q_Wq X G x nL Q k n (pc + 3) lv (.int v :: rest) τ) : q_Wq X G x nL Q k n pc lv st σ := by
  obtain ⟨p, l, e, R, s, m, args, below, meth, c⟩ := X
  subst hst0
  intro H locs ls hR hS hl
  refine va_calli (q_runS hx hM hL hN hst hd2 hn hW hd hkR hR hS hl) hS (fun q _ h => h) (fun q h => h) (fun r u t H1 locs1 ht hvm hp hB hz hk hS1 => ?_)
  subst hp
  rw [ht] at hB
  exact kk H1 locs1 ls hB hS1 hl
theorem q_callSv {y : MethodName} {bytes : ByteArray} {maxL np d2 idx : Nat} {ret : Option FieldType} {As rest : List Value} {τ : q_S} (hx : q_Cx X G own cc nL d) (hkR : q_kR X k n) (hM : q_Met (q_Xl X) y bytes maxL ret d2 G As σ x (q_Qv G x τ)) (hL : q_ML own idx y) (hN : q_Mn y bytes maxL ret np) (hst : q_in (.static y)) (hd2 : d2 + 1 ≤ d) (hn : As.length = np) (hW : (rest.map fun v => v.category).sum ≤ 8) (hd : decode cc pc = .ok (.invokestatic idx, 3)) (hst0 : st = As.reverse ++ rest) (kk : q_Wq X G x nL Q k n (pc + 3) lv rest τ) : q_Wq X G x nL Q k n pc lv st σ := by
  obtain ⟨p, l, e, R, s, m, args, below, meth, c⟩ := X
  subst hst0
  intro H locs ls hR hS hl
  refine va_callv (q_runS hx hM hL hN hst hd2 hn hW hd hkR hR hS hl) hS (fun q _ h => h) (fun q h => h) (fun u t H1 locs1 ht hvm hp hB hz hk hS1 => ?_)
  rw [ht] at hB
  exact kk H1 locs1 ls hB hS1 hl
theorem q_callSr {y : MethodName} {bytes : ByteArray} {maxL np d2 idx : Nat} {ret : Option FieldType} {As rest : List Value} {v : Nat} {τ : q_S} (hx : q_Cx X G own cc nL d) (hkR : q_kR X k n) (hM : q_Met (q_Xl X) y bytes maxL ret d2 G As σ x (q_Qr G x v τ)) (hL : q_ML own idx y) (hN : q_Mn y bytes maxL ret np) (hst : q_in (.static y)) (hd2 : d2 + 1 ≤ d) (hn : As.length = np) (hW : (rest.map fun v => v.category).sum ≤ 8) (hd : decode cc pc = .ok (.invokestatic idx, 3)) (hst0 : st = As.reverse ++ rest) (kk : q_Wq X G x nL Q k n (pc + 3) lv (.ref (G.2.1 + v) :: rest) τ) : q_Wq X G x nL Q k n pc lv st σ := by
  obtain ⟨p, l, e, R, s, m, args, below, meth, c⟩ := X
  subst hst0
  intro H locs ls hR hS hl
  refine va_callr (q_runS hx hM hL hN hst hd2 hn hW hd hkR hR hS hl) hS (fun q _ h => h) (fun q h => h) (fun u r t H1 locs1 ht hvm hp hB hz hk hS1 => ?_)
  obtain ⟨rfl, hB⟩ := hB
  rw [ht] at hB
  exact kk H1 locs1 ls hB hS1 hl
theorem q_callVi {y : MethodName} {bytes : ByteArray} {maxL np d2 idx : Nat} {ret : Option FieldType} {As rest : List Value} {c1 ci : Nat} {fs : List Value} {C : vw_C} {v : Int32} {τ : q_S} (hx : q_Cx X G own cc nL d) (hkR : q_kR X k n) (hM : q_Met (q_Xl X) y bytes maxL ret d2 G (.ref (G.2.1 + c1) :: As) σ x (q_Qi G x v τ)) (hL : q_ML own idx y) (hN : q_Mn y bytes maxL ret np) (hi : q_in (.instanceMethod y)) (hs : q_in (.selects y.cls y y)) (hd2 : d2 + 1 ≤ d) (hn : As.length = np) (hW : (rest.map fun v => v.category).sum ≤ 8) (hd : decode cc pc = .ok (.invokevirtual idx, 3)) (hc1 : q_kd c1 ≠ 99) (he : q_ent G (σ c1) x c1 = .inr (ci, fs)) (hC : q_cl[ci]? = some C) (hC2 : C.1 = y.cls) (hst0 : st = As.reverse ++ .ref (G.2.1 + c1) :: rest) (kk : q_Wq X G x nL Q k n (pc + 3) lv (.int v :: rest) τ) : q_Wq X G x nL Q k n pc lv st σ := by
  obtain ⟨p, l, e, R, s, m, args, below, meth, c⟩ := X
  subst hst0
  intro H locs ls hR hS hl
  refine va_calli (q_runV hx hM hL hN hi hs hd2 hn hW hd hkR hc1 he hC hC2 hR hS hl) hS (fun q _ h => h) (fun q h => h) (fun r u t H1 locs1 ht hvm hp hB hz hk hS1 => ?_)
  subst hp
  rw [ht] at hB
  exact kk H1 locs1 ls hB hS1 hl
theorem q_callVv {y : MethodName} {bytes : ByteArray} {maxL np d2 idx : Nat} {ret : Option FieldType} {As rest : List Value} {c1 ci : Nat} {fs : List Value} {C : vw_C} {τ : q_S} (hx : q_Cx X G own cc nL d) (hkR : q_kR X k n) (hM : q_Met (q_Xl X) y bytes maxL ret d2 G (.ref (G.2.1 + c1) :: As) σ x (q_Qv G x τ)) (hL : q_ML own idx y) (hN : q_Mn y bytes maxL ret np) (hi : q_in (.instanceMethod y)) (hs : q_in (.selects y.cls y y)) (hd2 : d2 + 1 ≤ d) (hn : As.length = np) (hW : (rest.map fun v => v.category).sum ≤ 8) (hd : decode cc pc = .ok (.invokevirtual idx, 3)) (hc1 : q_kd c1 ≠ 99) (he : q_ent G (σ c1) x c1 = .inr (ci, fs)) (hC : q_cl[ci]? = some C) (hC2 : C.1 = y.cls) (hst0 : st = As.reverse ++ .ref (G.2.1 + c1) :: rest) (kk : q_Wq X G x nL Q k n (pc + 3) lv rest τ) : q_Wq X G x nL Q k n pc lv st σ := by
  obtain ⟨p, l, e, R, s, m, args, below, meth, c⟩ := X
  subst hst0
  intro H locs ls hR hS hl
  refine va_callv (q_runV hx hM hL hN hi hs hd2 hn hW hd hkR hc1 he hC hC2 hR hS hl) hS (fun q _ h => h) (fun q h => h) (fun u t H1 locs1 ht hvm hp hB hz hk hS1 => ?_)
  rw [ht] at hB
  exact kk H1 locs1 ls hB hS1 hl
theorem q_callVr {y : MethodName} {bytes : ByteArray} {maxL np d2 idx : Nat} {ret : Option FieldType} {As rest : List Value} {c1 ci : Nat} {fs : List Value} {C : vw_C} {v : Nat} {τ : q_S} (hx : q_Cx X G own cc nL d) (hkR : q_kR X k n) (hM : q_Met (q_Xl X) y bytes maxL ret d2 G (.ref (G.2.1 + c1) :: As) σ x (q_Qr G x v τ)) (hL : q_ML own idx y) (hN : q_Mn y bytes maxL ret np) (hi : q_in (.instanceMethod y)) (hs : q_in (.selects y.cls y y)) (hd2 : d2 + 1 ≤ d) (hn : As.length = np) (hW : (rest.map fun v => v.category).sum ≤ 8) (hd : decode cc pc = .ok (.invokevirtual idx, 3)) (hc1 : q_kd c1 ≠ 99) (he : q_ent G (σ c1) x c1 = .inr (ci, fs)) (hC : q_cl[ci]? = some C) (hC2 : C.1 = y.cls) (hst0 : st = As.reverse ++ .ref (G.2.1 + c1) :: rest) (kk : q_Wq X G x nL Q k n (pc + 3) lv (.ref (G.2.1 + v) :: rest) τ) : q_Wq X G x nL Q k n pc lv st σ := by
  obtain ⟨p, l, e, R, s, m, args, below, meth, c⟩ := X
  subst hst0
  intro H locs ls hR hS hl
  refine va_callr (q_runV hx hM hL hN hi hs hd2 hn hW hd hkR hc1 he hC hC2 hR hS hl) hS (fun q _ h => h) (fun q h => h) (fun u r t H1 locs1 ht hvm hp hB hz hk hS1 => ?_)
  obtain ⟨rfl, hB⟩ := hB
  rw [ht] at hB
  exact kk H1 locs1 ls hB hS1 hl
theorem q_mmax {a b : Int32} {idx : Nat} (hx : q_Cx X G own cc nL d) (hkR : q_kR X k n) (hd1 : 1 ≤ d) (hL : q_in (.methodLink own idx Lib.Math.max.name)) (h1 : q_in (.static Lib.Math.max.name)) (h2 : q_in (.initialized "java/lang/Math")) (h3 : q_in (.code Lib.Math.max.name Lib.Math.max.code 2 (some .int))) (hW : (st.map fun v => v.category).sum ≤ 8) (hd : decode cc pc = .ok (.invokestatic idx, 3)) (kk : q_Wq X G x nL Q k n (pc + 3) lv (.int (if a < b then b else a) :: st) σ) : q_Wq X G x nL Q k n pc lv (.int b :: .int a :: st) σ := by
  obtain ⟨p, l, e, R, s, m, args, below, meth, c⟩ := X
  intro H locs ls hR hS hl
  obtain ⟨hexec, hb, hml, hown, hlk, ⟨hr1, hr2⟩, hAw, hK, hT⟩ := hx
  exact va_mmax hexec hb (hml.trans hl.1.symm) hown (hAw.use hL) (hAw.use h1) (hAw.use h2) (hAw.use h3) (by omega) (by omega) hkR.1 hkR.2 hd (kk H locs ls hR hS hl)
theorem q_mmin {a b : Int32} {idx : Nat} (hx : q_Cx X G own cc nL d) (hkR : q_kR X k n) (hd1 : 1 ≤ d) (hL : q_in (.methodLink own idx Lib.Math.min.name)) (h1 : q_in (.static Lib.Math.min.name)) (h2 : q_in (.initialized "java/lang/Math")) (h3 : q_in (.code Lib.Math.min.name Lib.Math.min.code 2 (some .int))) (hW : (st.map fun v => v.category).sum ≤ 8) (hd : decode cc pc = .ok (.invokestatic idx, 3)) (kk : q_Wq X G x nL Q k n (pc + 3) lv (.int (if b < a then b else a) :: st) σ) : q_Wq X G x nL Q k n pc lv (.int b :: .int a :: st) σ := by
  obtain ⟨p, l, e, R, s, m, args, below, meth, c⟩ := X
  intro H locs ls hR hS hl
  obtain ⟨hexec, hb, hml, hown, hlk, ⟨hr1, hr2⟩, hAw, hK, hT⟩ := hx
  exact va_mmin hexec hb (hml.trans hl.1.symm) hown (hAw.use hL) (hAw.use h1) (hAw.use h2) (hAw.use h3) (by omega) (by omega) hkR.1 hkR.2 hd (kk H locs ls hR hS hl)
theorem q_mabs {a : Int32} {idx : Nat} (hx : q_Cx X G own cc nL d) (hkR : q_kR X k n) (hd1 : 1 ≤ d) (hL : q_in (.methodLink own idx Lib.Math.abs.name)) (h1 : q_in (.static Lib.Math.abs.name)) (h2 : q_in (.initialized "java/lang/Math")) (h3 : q_in (.code Lib.Math.abs.name Lib.Math.abs.code 1 (some .int))) (hW : (st.map fun v => v.category).sum ≤ 8) (hd : decode cc pc = .ok (.invokestatic idx, 3)) (kk : q_Wq X G x nL Q k n (pc + 3) lv (.int (if 0 ≤ a then a else 0 - a) :: st) σ) : q_Wq X G x nL Q k n pc lv (.int a :: st) σ := by
  obtain ⟨p, l, e, R, s, m, args, below, meth, c⟩ := X
  intro H locs ls hR hS hl
  obtain ⟨hexec, hb, hml, hown, hlk, ⟨hr1, hr2⟩, hAw, hK, hT⟩ := hx
  exact va_mabs hexec hb (hml.trans hl.1.symm) hown (hAw.use hL) (hAw.use h1) (hAw.use h2) (hAw.use h3) (by omega) (by omega) hkR.1 hkR.2 hd (kk H locs ls hR hS hl)
end
