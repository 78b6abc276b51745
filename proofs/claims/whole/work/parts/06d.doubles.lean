/-! doubles and floats -/
def q_n64 (r : UInt64) : Bool := decide (r &&& 0x7fffffffffffffff ≤ 0x7ff0000000000000)
def q_n32 (r : UInt32) : Bool := decide (r &&& 0x7fffffff ≤ 0x7f800000)
theorem q_n64.v {r : UInt64} (h : q_n64 r = true) : vf_n64 r := by
  have h2 : r &&& 0x7fffffffffffffff ≤ 0x7ff0000000000000 := of_decide_eq_true h
  exact h2
theorem q_n32.v {r : UInt32} (h : q_n32 r = true) : vf_n32 r := by
  have h2 : r &&& 0x7fffffff ≤ 0x7f800000 := of_decide_eq_true h
  exact h2
def q_Qd (G : q_G) (x : q_A) (v : UInt64) (σ : q_S) : Array Value → State → Outcome → State → Prop := va_Qd (fun (r : UInt64) (_ : Unit) => r = v) (fun _ t => q_Rep G σ x t.heap) (q_free G)
def q_Qf (G : q_G) (x : q_A) (v : UInt32) (σ : q_S) : Array Value → State → Outcome → State → Prop := va_Qf (fun (r : UInt32) (_ : Unit) => r = v) (fun _ t => q_Rep G σ x t.heap) (q_free G)
section
variable {p : Program} {l : Launch} {e : Env} {R : Room} {s : State} {m : MethodId} {args : Array Value} {below : List Frame} {meth : Method} {c : Code} {T : State} {locs : List Loc} {cells slots : Nat} {Q : State → Prop} {H : Heap}
theorem q_ldcwF (X : Stand p l e R s m args below meth c T locs cells slots) (hexec : p.tables.exec = Jvm.exec) {own : String} {index : Nat} {b : UInt32} (hown : s.vm.findClass own = some m.cls)
    (hconst : (Cond.constantFloat own index b).before args s = true) {g : JFrame} (hg : g.method = m) (hdg : decode c.code g.pc = .ok (.ldc_w index, 3)) :
    ∀ target, Steps p.tables e below (T.setTop { g with pc := g.pc + 3, stack := .float b :: g.stack }) target → Steps p.tables e below (T.setTop g) target := by
  obtain ⟨k, cf, hk, hcf, hcp⟩ := Cond.constantFloat_spec hown hconst
  obtain ⟨k', hk', he⟩ := X.warmed.alike.2.2 _ _ hk
  intro target hrest
  subst hg
  jvm_step X.here [hexec, hdg, ldc_w.wp_float (s := T) (f := g) X.here.top hk' (by rw [he]; exact hcf) hcp]
  exact hrest
theorem q_lvldcwF {cc : ByteArray} {pc : Nat} {ls : Array Slot} {rest : List Value} (hexec : p.tables.exec = Jvm.exec) (hb : c.code = cc) {own : String} {index : Nat} {v : UInt32} (hown : s.vm.findClass own = some m.cls) (hconst : (Jvm.Cond.constantFloat own index v).before args s = true) (hdg : decode cc pc = .ok (.ldc_w index, 3)) (k : W p l e R s m args below meth c H locs cells slots Q (F0 m (pc + 3) ls (.float v :: rest))) : W p l e R s m args below meth c H locs cells slots Q (F0 m pc ls rest) := by
  intro T hT X
  obtain ⟨t, a, b⟩ := k T hT X
  exact ⟨t, q_ldcwF X hexec hown hconst (g := F0 m pc ls rest) rfl (by rw [hb]; exact hdg) t a, b⟩
end
section
variable {X : q_X} {G : q_G} {x : q_A} {nL d : Nat} {Q : State → Prop} {k n pc : Nat} {lv : List (Nat × Value)} {st : List Value} {σ : q_S} {own : String} {cc : ByteArray}
theorem q_i2d (hx : q_Cx X G own cc nL d) {a : Int32} (hd : decode cc pc = .ok (.i2d, 1)) (kk : q_Wq X G x nL Q k n (pc + 1) lv (.double (FP.i2d a) :: st) σ) : q_Wq X G x nL Q k n pc lv (.int a :: st) σ := by
  obtain ⟨p, l, e, R, s, m, args, below, meth, c⟩ := X
  intro H locs ls hR hS hl
  exact lv_i2d hx.1 hx.2.1 hd (kk H locs ls hR hS hl)
theorem q_i2f (hx : q_Cx X G own cc nL d) {a : Int32} (hd : decode cc pc = .ok (.i2f, 1)) (kk : q_Wq X G x nL Q k n (pc + 1) lv (.float (FP.i2f a) :: st) σ) : q_Wq X G x nL Q k n pc lv (.int a :: st) σ := by
  obtain ⟨p, l, e, R, s, m, args, below, meth, c⟩ := X
  intro H locs ls hR hS hl
  exact lv_i2f hx.1 hx.2.1 hd (kk H locs ls hR hS hl)
theorem q_f2d (hx : q_Cx X G own cc nL d) {a : UInt32} (hd : decode cc pc = .ok (.f2d, 1)) (hne : vf_n64 (FP.f2d a)) (kk : q_Wq X G x nL Q k n (pc + 1) lv (.double (FP.f2d a) :: st) σ) : q_Wq X G x nL Q k n pc lv (.float a :: st) σ := by
  obtain ⟨p, l, e, R, s, m, args, below, meth, c⟩ := X
  intro H locs ls hR hS hl
  exact lv_f2d hx.1 hx.2.1 hd hne (kk H locs ls hR hS hl)
theorem q_ddiv (hx : q_Cx X G own cc nL d) {a b : UInt64} (hd : decode cc pc = .ok (.ddiv, 1)) (hne : vf_n64 (FP.ddiv a b)) (kk : q_Wq X G x nL Q k n (pc + 1) lv (.double (FP.ddiv a b) :: st) σ) : q_Wq X G x nL Q k n pc lv (.double b :: .double a :: st) σ := by
  obtain ⟨p, l, e, R, s, m, args, below, meth, c⟩ := X
  intro H locs ls hR hS hl
  exact lv_ddiv hx.1 hx.2.1 hd hne (kk H locs ls hR hS hl)
theorem q_fdiv (hx : q_Cx X G own cc nL d) {a b : UInt32} (hd : decode cc pc = .ok (.fdiv, 1)) (hne : vf_n32 (FP.fdiv a b)) (kk : q_Wq X G x nL Q k n (pc + 1) lv (.float (FP.fdiv a b) :: st) σ) : q_Wq X G x nL Q k n pc lv (.float b :: .float a :: st) σ := by
  obtain ⟨p, l, e, R, s, m, args, below, meth, c⟩ := X
  intro H locs ls hR hS hl
  exact lv_fdiv hx.1 hx.2.1 hd hne (kk H locs ls hR hS hl)
theorem q_dconst0 (hx : q_Cx X G own cc nL d) (hd : decode cc pc = .ok (.dconst 0, 1)) (kk : q_Wq X G x nL Q k n (pc + 1) lv (.double FP.dconst0 :: st) σ) : q_Wq X G x nL Q k n pc lv st σ := by
  obtain ⟨p, l, e, R, s, m, args, below, meth, c⟩ := X
  intro H locs ls hR hS hl
  exact lv_dconst0 hx.1 hx.2.1 hd (kk H locs ls hR hS hl)
theorem q_ldcwf (hx : q_Cx X G own cc nL d) {i : Nat} {v : UInt32} (hw : q_in (.constantFloat own i v)) (hd : decode cc pc = .ok (.ldc_w i, 3)) (kk : q_Wq X G x nL Q k n (pc + 3) lv (.float v :: st) σ) : q_Wq X G x nL Q k n pc lv st σ := by
  obtain ⟨p, l, e, R, s, m, args, below, meth, c⟩ := X
  intro H locs ls hR hS hl
  obtain ⟨hexec, hb, hml, hown, hlk, hroom, hAw, hK, hT⟩ := hx
  exact q_lvldcwF hexec hb hown (hAw.use hw) hd (kk H locs ls hR hS hl)
theorem q_dret {v : UInt64} (hx : q_Cx X G own cc nL d) (hr : (q_Xm X).sig.returnType = some .double) (hd : decode cc pc = .ok (.dreturn, 1)) : q_Wq X G x nL (q_MQ X G (q_Qd G x v σ)) 0 0 pc lv [.double v] σ := by
  obtain ⟨p, l, e, R, s, m, args, below, meth, c⟩ := X
  intro H locs ls hR hS hl
  obtain ⟨hexec, hb, hml, hown, hlk, hroom, hAw, hK, hT⟩ := hx
  exact W.dret hexec hb hr (fun t ht hW => ⟨⟨v, (), rfl, rfl, by show q_Rep G σ x t.heap; rw [ht]; exact hR⟩, hS.F ht⟩) hS.2.2 hd
theorem q_fret {v : UInt32} (hx : q_Cx X G own cc nL d) (hr : (q_Xm X).sig.returnType = some .float) (hd : decode cc pc = .ok (.freturn, 1)) : q_Wq X G x nL (q_MQ X G (q_Qf G x v σ)) 0 0 pc lv [.float v] σ := by
  obtain ⟨p, l, e, R, s, m, args, below, meth, c⟩ := X
  intro H locs ls hR hS hl
  obtain ⟨hexec, hb, hml, hown, hlk, hroom, hAw, hK, hT⟩ := hx
  exact W.fret hexec hb hr (fun t ht hW => ⟨⟨v, (), rfl, rfl, by show q_Rep G σ x t.heap; rw [ht]; exact hR⟩, hS.F ht⟩) hS.2.2 hd
theorem q_dretX {v : UInt64} (hx : q_Cx X G own cc nL d) (hr : (q_Xm X).sig.returnType = some .double) (hd : decode cc pc = .ok (.dreturn, 1)) : q_Wq X G x nL (q_MQX X G x (q_QdX G x 0 v σ) 0 σ) 0 0 pc lv [.double v] σ := by
  obtain ⟨p, l, e, R, s, m, args, below, meth, c⟩ := X
  intro H locs ls hR hS hl
  obtain ⟨hexec, hb, hml, hown, hlk, hroom, hAw, hK, hT⟩ := hx
  refine vx_ret (W.widen (k := 1) (n := 6) (by omega) (by omega) ?_)
  exact W.dret hexec hb hr (fun t ht hW => ⟨⟨v, (), rfl, ⟨rfl, rfl⟩, by show q_Rep G σ x t.heap; rw [ht]; exact hR⟩, hS.F ht⟩) hS.2.2 hd
end
