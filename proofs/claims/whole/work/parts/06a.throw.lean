/-! methods that throw -/
def q_exn : Nat → String := fun k => match k with
  | 1 => "java/lang/IndexOutOfBoundsException"
  | 2 => "java/lang/IllegalArgumentException"
  | 3 => "java/lang/UnsupportedOperationException"
  | 4 => "java/util/NoSuchElementException"
  | 5 => "java/lang/IllegalStateException"
  | _ => "java/lang/ArithmeticException"
def q_XC (G : q_G) (x : q_A) (e : Nat) (τ : q_S) : String → State → State → Prop := vx_X (fun _ : Unit => True) (fun E _ t => 0 < e ∧ E = q_exn e ∧ q_Rep G τ x t.heap) (q_free G)
abbrev q_rmX (d : Nat) : Room := { frames := d, cells := 1, slots := 6, locals := 40 * d }
def q_MetX (l : Launch) (y : MethodName) (cc : ByteArray) (maxL : Nat) (ret : Option FieldType) (d : Nat) (G : q_G) (args : List Value) (σ : q_S) (x : q_A) (Qc : Array Value → State → Outcome → State → Prop) (e : Nat) (τ : q_S) : Prop := vx_Met l y [.code y cc maxL ret] (q_rmX d) (va_Pc args (fun U => q_Inv G σ x U)) Qc (q_XC G x e τ) 1 6 (q_free G)
def q_QiX (G : q_G) (x : q_A) (e : Nat) (v : Int32) (σ : q_S) : Array Value → State → Outcome → State → Prop := va_Qi (fun (r : Int32) (_ : Unit) => e = 0 ∧ r = v) (fun _ t => q_Rep G σ x t.heap) (q_free G)
def q_QdX (G : q_G) (x : q_A) (e : Nat) (v : UInt64) (σ : q_S) : Array Value → State → Outcome → State → Prop := va_Qd (fun (r : UInt64) (_ : Unit) => e = 0 ∧ r = v) (fun _ t => q_Rep G σ x t.heap) (q_free G)
def q_MQX (X : q_X) (G : q_G) (x : q_A) (Qc : Array Value → State → Outcome → State → Prop) (e : Nat) (τ : q_S) : State → Prop := match X with
  | (_, _, _, _, s, _, args, below, _, _) => vx_MQ below Qc (q_XC G x e τ) args s 1 6 (q_free G)
def q_noE (X : q_X) : Prop := match X with
  | (_, _, _, _, _, _, _, _, _, c) => ∀ z ∈ c.exceptionTable.toList, False
theorem q_ofX {l : Launch} {y : MethodName} {cc : ByteArray} {maxL : Nat} {ret : Option FieldType} {d : Nat} {G : q_G} {args : List Value} {σ τ : q_S} {x : q_A} {e : Nat} {Qc : Array Value → State → Outcome → State → Prop} (hy : plainName y.cls = true) (hn : (lg_sl args).length ≤ maxL)
    (body : ∀ X : q_X, q_Xl X = l → q_Cx X G y.cls cc maxL d → (q_Xm X).sig.returnType = ret → q_noE X → q_kR X 1 6 → q_Wq X G x maxL (q_MQX X G x Qc e τ) 0 0 0 (lv_args 0 args) [] σ) : q_MetX l y cc maxL ret d G args σ x Qc e τ := by
  refine vx_ofW (cc := cc) (maxL := maxL) (ret := ret) hy rfl ?_
  intro p en s m args' below meth c s₁ B hml hE hv
  obtain ⟨rfl, hAw, hK, hT, hR⟩ := hv
  have hl := lv_entry args (n := maxL) hn
  rw [lg_entry_eq]
  generalize (lg_sl args ++ List.replicate (maxL - (lg_sl args).length) Slot.unset).toArray = ls at hl ⊢
  exact body (p, l, en, (headSpec [.code y cc maxL ret] (q_rmX d)).room, s, m, args.toArray, below, meth, c) rfl ⟨B.exec, B.bytes, hml, findClass_of_methodNamed B.named, B.notSynchronized, ⟨Nat.le_refl _, Nat.le_refl _⟩, hAw, hK, hT⟩ B.returns hE ⟨Nat.le_refl _, Nat.le_refl _⟩ s.heap [] ls hR va_S.rf hl
/-- what the tables say of a throw: the place of 'new', of the text, of the constructor -/
def q_TH (own : String) (ik is ic : Nat) (cls text : String) (names : List String) : Prop := Bundle.fit cls = true ∧ (∀ n ∈ names, Bundle.fit n = true) ∧ q_in (.classLink own ik cls) ∧ q_in (.initialized cls) ∧ (own, is, text) ∈ q_strs ∧ (∀ w ∈ vx_atS own ic cls names, q_in w) ∧ (∀ w ∈ Cond.classLink own ik cls :: Cond.initialized cls :: vx_atS own ic cls names, vx_ot w = true) ∧ names.length ≤ 3
theorem q_Rep.kept {G : q_G} {σ : q_S} {x : q_A} {H H1 : Heap} (h : q_Rep G σ x H) (hq : ∀ q : Nat, q < H.size → H1[q]? = H[q]?) : q_Rep G σ x H1 := va_P.kept h (fun k q hk => hq q.1 ((h k q hk).lt))
section
variable {X : q_X} {G : q_G} {x : q_A} {nL d : Nat} {pc : Nat} {lv : List (Nat × Value)} {st : List Value} {σ : q_S} {own : String} {cc : ByteArray}
theorem q_throwS {Qc : Array Value → State → Outcome → State → Prop} (hx : q_Cx X G own cc nL d) (hE : q_noE X) (hR6 : q_kR X 1 6) (hd7 : 7 ≤ d) (hfl : (q_Xl X).stackTraces = false) {ik is ic : Nat} {cls text : String} {names : List String} (h : q_TH own ik is ic cls text names) (e : Nat) (he : 0 < e) (hc : cls = q_exn e) (hW : (st.map fun v => v.category).sum ≤ 8)
    (d0 : decode cc pc = .ok (.new ik, 3)) (d3 : decode cc (pc + 3) = .ok (.dup, 1)) (d4 : decode cc (pc + 4) = .ok (.ldc is, 2)) (d6 : decode cc (pc + 6) = .ok (.invokespecial ic, 3)) (d9 : decode cc (pc + 9) = .ok (.athrow, 1)) : q_Wq X G x nL (q_MQX X G x Qc e σ) 0 0 pc lv st σ := by
  obtain ⟨p, l, en, R, s, m, args, below, meth, c⟩ := X
  intro H locs ls hR hS hl
  obtain ⟨hexec, hb, hml, hown, hlk, ⟨hr1, hr2⟩, hAw, hK, hT⟩ := hx
  obtain ⟨t1, t2, t3, t4, t5, t6, t7, t8⟩ := h
  obtain ⟨a, ha⟩ := hT.2.2.1 _ t5
  refine vx_throwS (A := q_free G) hexec hb hfl hown t1 t2 (hAw.use t3) (hAw.use t4) ha (fun w hw => hAw.use (t6 w hw)) t7 hT.1 hT.2.1 hS (hl.1.trans hml.symm) d0 d3 d4 d6 d9 (fun z hz => (hE z hz).elim) (by omega) (by omega) (by rw [Nat.zero_add]; exact hR6.1) (by rw [Nat.zero_add]; exact hR6.2) hlk (fun t hv hz hq => ?_) hS.2.2 (by omega) (by omega)
  exact ⟨(), trivial, ⟨he, hc, hR.kept hq⟩, Nat.le_trans hS.1 hz, fun q q1 q2 => (hq q (Nat.lt_of_lt_of_le q1 hS.1)).trans (hS.2.1 q q1 q2)⟩
theorem q_throwSW {Qc : Array Value → State → Outcome → State → Prop} (hx : q_Cx X G own cc nL d) (hE : q_noE X) (hR6 : q_kR X 1 6) (hd7 : 7 ≤ d) (hfl : (q_Xl X).stackTraces = false) {ik is ic : Nat} {cls text : String} {names : List String} (h : q_TH own ik is ic cls text names) (e : Nat) (he : 0 < e) (hc : cls = q_exn e) (hW : (st.map fun v => v.category).sum ≤ 8)
    (d0 : decode cc pc = .ok (.new ik, 3)) (d3 : decode cc (pc + 3) = .ok (.dup, 1)) (d4 : decode cc (pc + 4) = .ok (.ldc_w is, 3)) (d7 : decode cc (pc + 7) = .ok (.invokespecial ic, 3)) (d10 : decode cc (pc + 10) = .ok (.athrow, 1)) : q_Wq X G x nL (q_MQX X G x Qc e σ) 0 0 pc lv st σ := by
  obtain ⟨p, l, en, R, s, m, args, below, meth, c⟩ := X
  intro H locs ls hR hS hl
  obtain ⟨hexec, hb, hml, hown, hlk, ⟨hr1, hr2⟩, hAw, hK, hT⟩ := hx
  obtain ⟨t1, t2, t3, t4, t5, t6, t7, t8⟩ := h
  obtain ⟨a, ha⟩ := hT.2.2.1 _ t5
  refine vx_throwSW (A := q_free G) hexec hb hfl hown t1 t2 (hAw.use t3) (hAw.use t4) ha (fun w hw => hAw.use (t6 w hw)) t7 hT.1 hT.2.1 hS (hl.1.trans hml.symm) d0 d3 d4 d7 d10 (fun z hz => (hE z hz).elim) (by omega) (by omega) (by rw [Nat.zero_add]; exact hR6.1) (by rw [Nat.zero_add]; exact hR6.2) hlk (fun t hv hz hq => ?_) hS.2.2 (by omega) (by omega)
  exact ⟨(), trivial, ⟨he, hc, hR.kept hq⟩, Nat.le_trans hS.1 hz, fun q q1 q2 => (hq q (Nat.lt_of_lt_of_le q1 hS.1)).trans (hS.2.1 q q1 q2)⟩
theorem q_iretX {v : Int32} (hx : q_Cx X G own cc nL d) (hr : (q_Xm X).sig.returnType = some .int) (hd : decode cc pc = .ok (.ireturn, 1)) : q_Wq X G x nL (q_MQX X G x (q_QiX G x 0 v σ) 0 σ) 0 0 pc lv [.int v] σ := by
  obtain ⟨p, l, e, R, s, m, args, below, meth, c⟩ := X
  intro H locs ls hR hS hl
  obtain ⟨hexec, hb, hml, hown, hlk, hroom, hAw, hK, hT⟩ := hx
  refine vx_ret (W.widen (k := 1) (n := 6) (by omega) (by omega) ?_)
  exact W.iret hexec hb hr (fun t ht hW => ⟨⟨v, (), rfl, ⟨rfl, rfl⟩, by show q_Rep G σ x t.heap; rw [ht]; exact hR⟩, hS.F ht⟩) hS.2.2 hd
theorem q_zretX {v : Int32} {ty : FieldType} (hx : q_Cx X G own cc nL d) (hr : (q_Xm X).sig.returnType = some ty) (hn : narrow ty (.int v) = .int v) (hd : decode cc pc = .ok (.ireturn, 1)) : q_Wq X G x nL (q_MQX X G x (q_QiX G x 0 v σ) 0 σ) 0 0 pc lv [.int v] σ := by
  obtain ⟨p, l, e, R, s, m, args, below, meth, c⟩ := X
  intro H locs ls hR hS hl
  obtain ⟨hexec, hb, hml, hown, hlk, hroom, hAw, hK, hT⟩ := hx
  refine vx_ret (W.widen (k := 1) (n := 6) (by omega) (by omega) ?_)
  exact W.zret hexec hb hr hn (fun t ht hW => ⟨⟨v, (), rfl, ⟨rfl, rfl⟩, by show q_Rep G σ x t.heap; rw [ht]; exact hR⟩, hS.F ht⟩) hS.2.2 hd
end
