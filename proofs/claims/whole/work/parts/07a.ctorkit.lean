/-! constructors: the world as it grows: the cells lo .. hi-1 hold e -/
def q_ue (e : Nat → va_E) (c : Nat) (v : va_E) : Nat → va_E := fun c2 => if c2 = c then v else e c2
def q_lw (G : q_G) (lo hi : Nat) (e : Nat → va_E) : va_W := (List.range (hi - lo)).map (fun i => (G.2.1 + (lo + i), e (lo + i)))
def q_freeC (G : q_G) (lo : Nat) : Nat → Prop := fun q => G.2.1 + lo ≤ q
theorem q_lw_get {G : q_G} {lo hi c : Nat} {e : Nat → va_E} (h1 : lo ≤ c) (h2 : c < hi) : (q_lw G lo hi e)[c - lo]? = some (G.2.1 + c, e c) := by
  unfold q_lw
  rw [List.getElem?_map, List.getElem?_range (by omega)]
  simp only [Option.map_some]
  rw [show lo + (c - lo) = c by omega]
theorem q_lw_of {G : q_G} {lo hi i : Nat} {e : Nat → va_E} {q : Nat × va_E} (h : (q_lw G lo hi e)[i]? = some q) : i < hi - lo ∧ q = (G.2.1 + (lo + i), e (lo + i)) := by
  have hl : i < hi - lo := by
    have h1 := (List.getElem?_eq_some_iff.mp h).1
    simpa [q_lw] using h1
  have h2 := q_lw_get (G := G) (e := e) (show lo ≤ lo + i by omega) (show lo + i < hi by omega)
  rw [show lo + i - lo = i by omega, h] at h2
  exact ⟨hl, Option.some.inj h2⟩
theorem q_lw_D (G : q_G) (lo hi : Nat) (e : Nat → va_E) : va_D (q_freeC G lo) (q_lw G lo hi e) := by
  refine ⟨fun i j p q hi hj hpq => ?_, fun k q hk => ?_⟩
  · obtain ⟨-, rfl⟩ := q_lw_of hi
    obtain ⟨-, rfl⟩ := q_lw_of hj
    have h1 : G.2.1 + (lo + i) = G.2.1 + (lo + j) := hpq
    omega
  · obtain ⟨-, rfl⟩ := q_lw_of hk
    show G.2.1 + lo ≤ G.2.1 + (lo + k)
    omega
theorem q_lw_P {D : va_G} {cl : List vw_C} {G : q_G} {lo hi : Nat} {e : Nat → va_E} {H : Heap} : va_P D cl (q_lw G lo hi e) H ↔ ∀ c, lo ≤ c → c < hi → va_at D cl (G.2.1 + c, e c) H := by
  refine ⟨fun h c h1 h2 => h _ _ (q_lw_get h1 h2), fun h k q hk => ?_⟩
  obtain ⟨h1, rfl⟩ := q_lw_of hk
  exact h (lo + k) (by omega) (by omega)
theorem q_lw_set {G : q_G} {lo hi c : Nat} {e : Nat → va_E} {v : va_E} (h1 : lo ≤ c) (h2 : c < hi) : (q_lw G lo hi e).set (c - lo) (G.2.1 + c, v) = q_lw G lo hi (q_ue e c v) := by
  apply List.ext_getElem?
  intro j
  by_cases hj : j = c - lo
  · subst hj
    rw [List.getElem?_set_self (by simp [q_lw]; omega), q_lw_get h1 h2]
    simp [q_ue]
  · rw [List.getElem?_set_ne (fun z => hj z.symm)]
    by_cases hl : j < hi - lo
    · have e1 := q_lw_get (G := G) (e := e) (show lo ≤ lo + j by omega) (show lo + j < hi by omega)
      have e2 := q_lw_get (G := G) (e := q_ue e c v) (show lo ≤ lo + j by omega) (show lo + j < hi by omega)
      rw [show lo + j - lo = j by omega] at e1 e2
      rw [e1, e2]
      simp [q_ue, show lo + j ≠ c by omega]
    · rw [List.getElem?_eq_none (by simp [q_lw]; omega), List.getElem?_eq_none (by simp [q_lw]; omega)]
/-- what the ints hold when all is made -/
def q_s0 : q_S := fun c k => if c = 0 ∧ k = 10 then -1 else if c = 292 ∧ k = 12 then -1 else 0
def q_fin (G : q_G) (x : q_A) : Nat → va_E := fun c => q_ent G (q_s0 c) x c
/-! words of arrays' classes -/
def q_Ag (U : State) : Prop := (∀ w ∈ lw_tbl, goodWord w = true → w.before #[] U = true) ∧ va_AO RX6 U ∧ va_AO RX2 U
def q_ig (w : Cond) : Prop := w ∈ lw_tbl ∧ goodWord w = true
theorem q_ig.of {w : Cond} (i : Nat) (h : lw_tbl[i]? = some w) (h2 : goodWord w = true) : q_ig w := ⟨List.mem_of_getElem? h, h2⟩
theorem q_Ag.warm {s U : State} (hW : s.WarmedH U.vm) (h : q_Ag s) : q_Ag U := ⟨fun w hw hg => word_at hW (good_of_word hg) (h.1 w hw hg), h.2.1.moved hW.alike, h.2.2.moved hW.alike⟩
theorem q_Ag.use {s : State} {args : Array Value} (h : q_Ag s) {w : Cond} (hw : q_ig w) : w.before args s = true := word_at (State.WarmedH.refl s) (good_of_word hw.2) (h.1 w hw.1 hw.2)
abbrev q_rmC (d kc ks : Nat) : Room := { frames := d, cells := kc, slots := ks, locals := 40 * d }
/-- a constructor's contract: its object is the cell lo, the last that was made; it makes the cells lo + 1 .. lo + n - 1, and all of them hold what they hold when all is made -/
def q_MetC (l : Launch) (y : MethodName) (cc : ByteArray) (maxL d kc ks : Nat) (G : q_G) (x : q_A) (lo n : Nat) (raw : va_E) : Prop :=
  Met l y [.code y cc maxL none] (q_rmC d kc ks) (va_Pc [.ref (G.2.1 + lo)] (fun U => (q_Aw U ∧ q_Ag U) ∧ va_K G.1 q_cl (q_tys G) U ∧ U.heap.size = G.2.1 + (lo + 1) ∧ va_at G.1 q_cl (G.2.1 + lo, raw) U.heap))
    (va_Qv (fun _ : Unit => True) (fun _ t => t.heap.size = G.2.1 + (lo + n) ∧ va_P G.1 q_cl (q_lw G lo (lo + n) (q_fin G x)) t.heap) (q_freeC G lo)) kc ks (q_freeC G lo)
def q_Cc (X : q_X) (G : q_G) (own : String) (cc : ByteArray) (nL d kc ks lo : Nat) : Prop := match X with
  | (p, _, _, R, s, m, _, _, meth, c) => p.tables.exec = Jvm.exec ∧ c.code = cc ∧ c.maxLocals = nL ∧ s.vm.findClass own = some m.cls ∧ meth.locks = false ∧ (d ≤ R.frames ∧ 40 * d ≤ R.locals) ∧ (kc ≤ R.cells ∧ ks ≤ R.slots) ∧ (q_Aw s ∧ q_Ag s) ∧ va_K G.1 q_cl (q_tys G) s ∧ (own ≠ RL → meth.name = "<init>") ∧ G.2.1 + lo ≤ s.heap.size
def q_Wc (X : q_X) (G : q_G) (lo nL : Nat) (Q : State → Prop) (k n pc : Nat) (lv : List (Nat × Value)) (st : List Value) (hi : Nat) (e : Nat → va_E) : Prop := match X with
  | (p, l, en, R, s, m, args, below, meth, c) => ∀ (H : Heap) (locs : List Loc) (ls : Array Slot), H.size = G.2.1 + hi → va_P G.1 q_cl (q_lw G lo hi e) H → va_S (q_freeC G lo) s.heap H locs → lv_has ls nL lv → W p l en R s m args below meth c H locs k n Q (F0 m pc ls st)
def q_MQC (X : q_X) (G : q_G) (x : q_A) (lo n kc ks : Nat) : State → Prop := match X with
  | (_, _, _, _, s, _, args, below, _, _) => MQ below (va_Qv (fun _ : Unit => True) (fun _ t => t.heap.size = G.2.1 + (lo + n) ∧ va_P G.1 q_cl (q_lw G lo (lo + n) (q_fin G x)) t.heap) (q_freeC G lo)) args s kc ks (q_freeC G lo)
theorem q_ofC {l : Launch} {y : MethodName} {cc : ByteArray} {maxL d kc ks lo n : Nat} {G : q_G} {x : q_A} {raw : va_E} (hy : plainName y.cls = true) (hyn : y.name = "<init>") (hn : 1 ≤ maxL)
    (body : ∀ X : q_X, q_Xl X = l → q_Cc X G y.cls cc maxL d kc ks lo → (q_Xm X).sig.returnType = none → q_Wc X G lo maxL (q_MQC X G x lo n kc ks) 0 0 0 [(0, .ref (G.2.1 + lo))] [] (lo + 1) (q_ue (q_fin G x) lo raw)) : q_MetC l y cc maxL d kc ks G x lo n raw := by
  refine Met.ofW (cc := cc) (maxL := maxL) (ret := none) hy rfl ?_
  intro p e s m args' below meth c s₁ B hml hv
  obtain ⟨rfl, hAw, hK, hsz, hat⟩ := hv
  have hl := lv_entry ([.ref (G.2.1 + lo)]) (n := maxL) hn
  rw [lg_entry_eq]
  generalize (lg_sl ([Value.ref (G.2.1 + lo)]) ++ List.replicate (maxL - (lg_sl ([Value.ref (G.2.1 + lo)])).length) Slot.unset).toArray = ls at hl ⊢
  refine body (p, l, e, (headSpec [.code y cc maxL none] (q_rmC d kc ks)).room, s, m, #[.ref (G.2.1 + lo)], below, meth, c) rfl ⟨B.exec, B.bytes, hml, findClass_of_methodNamed B.named, B.notSynchronized, ⟨Nat.le_refl _, Nat.le_refl _⟩, ⟨Nat.le_refl _, Nat.le_refl _⟩, hAw, hK, ?_, by omega⟩ B.returns s.heap [] ls hsz ?_ va_S.rf hl
  · intro _; rw [(name_of_methodNamed B.named B.method).1]; exact hyn
  · refine q_lw_P.mpr (fun c h1 h2 => ?_)
    have hc : c = lo := by omega
    subst hc
    simpa [q_ue] using hat
section
variable {X : q_X} {G : q_G} {x : q_A} {lo nL d kc ks : Nat} {Q : State → Prop} {k n pc : Nat} {lv : List (Nat × Value)} {st : List Value} {hi : Nat} {e : Nat → va_E} {own : String} {cc : ByteArray}
theorem q_Wc.to {e2 : Nat → va_E} (h : ∀ c, lo ≤ c → c < hi → e c = e2 c) (kk : q_Wc X G lo nL Q k n pc lv st hi e2) : q_Wc X G lo nL Q k n pc lv st hi e := by
  obtain ⟨p, l, en, R, s, m, args, below, meth, c⟩ := X
  intro H locs ls hz hP hS hl
  refine kk H locs ls hz (q_lw_P.mpr (fun c h1 h2 => ?_)) hS hl
  rw [← h c h1 h2]
  exact q_lw_P.mp hP c h1 h2
theorem qk_iconst {i : Int} {v : Int32} (hx : q_Cc X G own cc nL d kc ks lo) (hd : decode cc pc = .ok (.iconst i, 1)) (hv : Int32.ofInt i = v) (kk : q_Wc X G lo nL Q k n (pc + 1) lv (.int v :: st) hi e) : q_Wc X G lo nL Q k n pc lv st hi e := by
  obtain ⟨p, l, en, R, s, m, args, below, meth, c⟩ := X
  intro H locs ls hz hP hS hl
  exact lv_iconst hx.1 hx.2.1 hd hv (kk H locs ls hz hP hS hl)
theorem qk_bipush {i : Int} {v : Int32} (hx : q_Cc X G own cc nL d kc ks lo) (hd : decode cc pc = .ok (.bipush i, 2)) (hv : (Int8.ofInt i).toInt32 = v) (kk : q_Wc X G lo nL Q k n (pc + 2) lv (.int v :: st) hi e) : q_Wc X G lo nL Q k n pc lv st hi e := by
  obtain ⟨p, l, en, R, s, m, args, below, meth, c⟩ := X
  intro H locs ls hz hP hS hl
  exact lv_bipush hx.1 hx.2.1 hd hv (kk H locs ls hz hP hS hl)
theorem qk_sipush {i : Int} {v : Int32} (hx : q_Cc X G own cc nL d kc ks lo) (hd : decode cc pc = .ok (.sipush i, 3)) (hv : (Int16.ofInt i).toInt32 = v) (kk : q_Wc X G lo nL Q k n (pc + 3) lv (.int v :: st) hi e) : q_Wc X G lo nL Q k n pc lv st hi e := by
  obtain ⟨p, l, en, R, s, m, args, below, meth, c⟩ := X
  intro H locs ls hz hP hS hl
  exact lv_sipush hx.1 hx.2.1 hd hv (kk H locs ls hz hP hS hl)
theorem qk_aload_n {i : Fin 4} {v : Nat} (hx : q_Cc X G own cc nL d kc ks lo) (hd : decode cc pc = .ok (.aload_n i, 1)) (j : Nat) (hj : lv[j]? = some (i.val, .ref v)) (kk : q_Wc X G lo nL Q k n (pc + 1) lv (.ref v :: st) hi e) : q_Wc X G lo nL Q k n pc lv st hi e := by
  obtain ⟨p, l, en, R, s, m, args, below, meth, c⟩ := X
  intro H locs ls hz hP hS hl
  exact lv_aload_n hx.1 hx.2.1 hd rfl (lv_at hl j hj) (kk H locs ls hz hP hS hl)
theorem qk_iload_n {i : Fin 4} {v : Int32} (hx : q_Cc X G own cc nL d kc ks lo) (hd : decode cc pc = .ok (.iload_n i, 1)) (j : Nat) (hj : lv[j]? = some (i.val, .int v)) (kk : q_Wc X G lo nL Q k n (pc + 1) lv (.int v :: st) hi e) : q_Wc X G lo nL Q k n pc lv st hi e := by
  obtain ⟨p, l, en, R, s, m, args, below, meth, c⟩ := X
  intro H locs ls hz hP hS hl
  exact lv_iload_n hx.1 hx.2.1 hd rfl (lv_at hl j hj) (kk H locs ls hz hP hS hl)
theorem qk_istore_n {i : Fin 4} {v : Int32} (hx : q_Cc X G own cc nL d kc ks lo) (lv2 : List (Nat × Value)) (hd : decode cc pc = .ok (.istore_n i, 1)) (hn : i.val < nL) (hl2 : (i.val, .int v) :: lv.filter (fun q => !(q.1 == i.val) && !(q.1 + 1 == i.val && q.2.category == 2)) = lv2) (kk : q_Wc X G lo nL Q k n (pc + 1) lv2 st hi e) : q_Wc X G lo nL Q k n pc lv (.int v :: st) hi e := by
  obtain ⟨p, l, en, R, s, m, args, below, meth, c⟩ := X
  intro H locs ls hz hP hS hl
  exact lv_istore_n hx.1 hx.2.1 hd rfl hl hn hl2 (fun ls hl => kk H locs ls hz hP hS hl)
theorem qk_iinc {i : Nat} {z : Int} {a v : Int32} (hx : q_Cc X G own cc nL d kc ks lo) (lv2 : List (Nat × Value)) (hd : decode cc pc = .ok (.iinc i z, 3)) (j : Nat) (hj : lv[j]? = some (i, .int a)) (hv : a + Int32.ofInt z = v) (hn : i < nL) (hl2 : (i, Value.int v) :: lv.filter (fun q => !(q.1 == i) && !(q.1 + 1 == i && q.2.category == 2)) = lv2) (kk : q_Wc X G lo nL Q k n (pc + 3) lv2 st hi e) : q_Wc X G lo nL Q k n pc lv st hi e := by
  obtain ⟨p, l, en, R, s, m, args, below, meth, c⟩ := X
  intro H locs ls hz hP hS hl
  exact lv_iinc hx.1 hx.2.1 hd hl hj hv hn hl2 (fun ls hl => kk H locs ls hz hP hS hl)
theorem qk_goto {off : Int} (hx : q_Cc X G own cc nL d kc ks lo) (tgt : Nat) (hd : decode cc pc = .ok (.goto off, 3)) (ht : (pc : Int) + off = (tgt : Int)) (kk : q_Wc X G lo nL Q k n tgt lv st hi e) : q_Wc X G lo nL Q k n pc lv st hi e := by
  obtain ⟨p, l, en, R, s, m, args, below, meth, c⟩ := X
  intro H locs ls hz hP hS hl
  exact lv_goto hx.1 hx.2.1 hd ht (kk H locs ls hz hP hS hl)
theorem qk_icmp_ge {a b : Int32} {off : Int} (hx : q_Cc X G own cc nL d kc ks lo) (tgt : Nat) (hd : decode cc pc = .ok (.if_icmp .ge off, 3)) (ht : (pc : Int) + off = (tgt : Int)) (kt : b ≤ a → q_Wc X G lo nL Q k n tgt lv st hi e) (kf : ¬ b ≤ a → q_Wc X G lo nL Q k n (pc + 3) lv st hi e) : q_Wc X G lo nL Q k n pc lv (.int b :: .int a :: st) hi e := by
  obtain ⟨p, l, en, R, s, m, args, below, meth, c⟩ := X
  intro H locs ls hz hP hS hl
  exact lv_icmp_ge hx.1 hx.2.1 hd ht (fun h => kt (by first | exact h | exact Int32.not_lt.mp h) H locs ls hz hP hS hl) (fun h => kf (by first | exact h | exact Int32.not_le.mpr h) H locs ls hz hP hS hl)
theorem qk_obj {idx : Nat} {a : Nat} (hx : q_Cc X G own cc nL d kc ks lo) (hd1 : 1 ≤ d) (hL : q_in (.methodLink own idx Lib.objectInit)) (hI : q_in (.instanceMethod Lib.objectInit)) (hC : q_in (.code Lib.objectInit ⟨#[0xb1]⟩ 1 none)) (hW : (st.map fun v => v.category).sum ≤ 8) (hd : decode cc pc = .ok (.invokespecial idx, 3)) (kk : q_Wc X G lo nL Q k n (pc + 3) lv st hi e) : q_Wc X G lo nL Q k n pc lv (.ref a :: st) hi e := by
  obtain ⟨p, l, en, R, s, m, args, below, meth, c⟩ := X
  intro H locs ls hz hP hS hl
  obtain ⟨hexec, hb, hml, hown, hlk, ⟨hr1, hr2⟩, hkr, ⟨hAw, hAg⟩, hK, hin, hlo⟩ := hx
  have hroom2 : 2 * (F0 m pc ls (.ref a :: st)).monitorRoom + (st.map fun v => v.category).sum ≤ 8 := lv_room hW
  refine W.objInit hexec hb hown (hAw.use hL) (hAw.use hI) (hAw.use hC) rfl (by rw [hml]; exact hl.1) rfl hd (by omega) (by omega) ?_
  exact kk H locs ls hz hP hS hl
theorem qk_ret (hx : q_Cc X G own cc nL d kc ks lo) (hr : (q_Xm X).sig.returnType = none) {n1 : Nat} (hk : k ≤ kc) (hn : n ≤ ks) (hd : decode cc pc = .ok (.return_, 1)) (hhi : hi = lo + n1) (he : ∀ c, lo ≤ c → c < hi → e c = q_fin G x c) : q_Wc X G lo nL (q_MQC X G x lo n1 kc ks) k n pc lv [] hi e := by
  obtain ⟨p, l, en, R, s, m, args, below, meth, c⟩ := X
  intro H locs ls hz hP hS hl
  obtain ⟨hexec, hb, hml, hown, hlk, hroom, hkr, ⟨hAw, hAg⟩, hK, hin, hlo⟩ := hx
  subst hhi
  refine W.widen hk hn ?_
  refine W.vret hexec hb hr (fun t ht hW => ⟨⟨(), rfl, trivial, by rw [ht]; exact hz, by rw [ht]; exact q_lw_P.mpr (fun c h1 h2 => by rw [← he c h1 h2]; exact q_lw_P.mp hP c h1 h2)⟩, hS.F ht⟩) hS.2.2 hd
end
section
variable {X : q_X} {G : q_G} {x : q_A} {lo nL d kc ks : Nat} {Q : State → Prop} {k n pc : Nat} {lv : List (Nat × Value)} {st : List Value} {hi : Nat} {e : Nat → va_E} {own : String} {cc : ByteArray}
theorem qk_dup {a : Value} (hx : q_Cc X G own cc nL d kc ks lo) (hd : decode cc pc = .ok (.dup, 1)) (hc : a.category = 1) (kk : q_Wc X G lo nL Q k n (pc + 1) lv (a :: a :: st) hi e) : q_Wc X G lo nL Q k n pc lv (a :: st) hi e := by
  obtain ⟨p, l, en, R, s, m, args, below, meth, c⟩ := X
  intro H locs ls hz hP hS hl
  exact lv_dup hx.1 hx.2.1 hd hc (kk H locs ls hz hP hS hl)
theorem qk_get {idx ci f c : Nat} {fs : List Value} {v : Value} (hx : q_Cc X G own cc nL d kc ks lo) (L : q_FL own idx ci f) (hd : decode cc pc = .ok (.getfield idx, 3)) (h1 : lo ≤ c) (h2 : c < hi) (he : e c = .inr (ci, fs)) (hv : fs[f]? = some v) (kk : q_Wc X G lo nL Q k n (pc + 3) lv (v :: st) hi e) : q_Wc X G lo nL Q k n pc lv (.ref (G.2.1 + c) :: st) hi e := by
  obtain ⟨p, l, en, R, s, m, args, below, meth, c0⟩ := X
  intro H locs ls hz hP hS hl
  obtain ⟨C, T, N, g1, g2, g3, g4, g5⟩ := L
  obtain ⟨hexec, hb, hml, hown, hlk, hroom, hkr, ⟨hAw, hAg⟩, hK, hin, hlo⟩ := hx
  have hts : ∀ w ∈ u_ws C T N, w.before args s = true := fun w hw => hAw.use (g4 w hw)
  have hg : (q_lw G lo hi e)[c - lo]? = some (G.2.1 + c, .inr (ci, fs)) := by rw [q_lw_get h1 h2, he]
  rcases g5 with g5 | ⟨host, g5⟩
  · exact va_get (D := G.1) (cl := q_cl) (ref := C) hexec hb hts (fun _ h => h) hown hK hP (c - lo) hg g1 f g2 (hAw.use g5) (fun y hy => by rw [g3] at hy; exact hy) hv hd (kk H locs ls hz hP hS hl)
  · exact va_getN (D := G.1) (cl := q_cl) (ref := C) hexec hb hts (fun _ h => h) hown hK hP (c - lo) hg g1 f g2 (hAw.use g5) (fun y hy => by rw [g3] at hy; exact hy) hv hd (kk H locs ls hz hP hS hl)
theorem qk_alen {c N t : Nat} {f : Nat → Option Nat} {ty : FieldType} {v : Int32} (hx : q_Cc X G own cc nL d kc ks lo) (hd : decode cc pc = .ok (.arraylength, 1)) (h1 : lo ≤ c) (h2 : c < hi) (ht : (q_tys G)[t]? = some (G.2.2.1 t, ty)) (he : e c = .inl (G.2.2.1 t, N, .inr (.inr (.inr (.inr f))))) (hv : Int32.ofNat N = v) (kk : q_Wc X G lo nL Q k n (pc + 1) lv (.int v :: st) hi e) : q_Wc X G lo nL Q k n pc lv (.ref (G.2.1 + c) :: st) hi e := by
  obtain ⟨p, l, en, R, s, m, args, below, meth, c0⟩ := X
  intro H locs ls hz hP hS hl
  obtain ⟨hexec, hb, hml, hown, hlk, hroom, hkr, ⟨hAw, hAg⟩, hK, hin, hlo⟩ := hx
  have hg : (q_lw G lo hi e)[c - lo]? = some (G.2.1 + c, .inl (G.2.2.1 t, N, .inr (.inr (.inr (.inr f))))) := by rw [q_lw_get h1 h2, he]
  exact va_alen hexec hb hK hP (c - lo) t hg ht hv hd (kk H locs ls hz hP hS hl)
/-- a field of the object itself: final, or not -/
theorem qk_put {idx ci f c N : Nat} {C : String} {T : u_T} {fs : List Value} {ty : FieldType} {ty0 : Nat → FieldType} {v : Value} {e2 : Nat → va_E} (hx : q_Cc X G own cc nL d kc ks lo) (hcl : q_cl[ci]? = some (C, T, N)) (hin : ∀ w ∈ u_ws C T N, q_in w) (hty : ∀ k, k < N → parseFieldDescriptor (T k).2.2.1 = some (ty0 k)) (hnm : ∀ a, a < N → ∀ b, b < N → a ≠ b → (T a).2.1 ≠ (T b).2.1)
    (hf : f < N) (hlink : q_in (.fieldLink own idx C (T f).2.1 (T f).2.2.1)) (hC : (T f).1 = C) (hCo : C = own) (hnl : own ≠ RL) (hpd : parseFieldDescriptor (T f).2.2.1 = some ty) (hn : narrow ty v = v) (hfit : fits ty v = true) (hlen : f < fs.length) (h1 : lo ≤ c) (h2 : c < hi) (he : e c = .inr (ci, fs)) (hd : decode cc pc = .ok (.putfield idx, 3))
    (ha : e2 c = .inr (ci, fs.set f v)) (hb2 : ∀ c2, c2 ≠ c → e2 c2 = e c2) (kk : q_Wc X G lo nL Q k n (pc + 3) lv st hi e2) : q_Wc X G lo nL Q k n pc lv (v :: .ref (G.2.1 + c) :: st) hi e := by
  obtain ⟨p, l, en, R, s, m, args, below, meth, c0⟩ := X
  intro H locs ls hz hP hS hl
  obtain ⟨hexec, hb, hml, hown, hlk, hroom, hkr, ⟨hAw, hAg⟩, hK, hini, hlo⟩ := hx
  have hts : ∀ w ∈ u_ws C T N, w.before args s = true := fun w hw => hAw.use (hin w hw)
  have hap := va_apart (own := own) hts (fun _ h => h) ty0 hty hnm hK hcl
  have hg : (q_lw G lo hi e)[c - lo]? = some (G.2.1 + c, .inr (ci, fs)) := by rw [q_lw_get h1 h2, he]
  obtain ⟨r, r1, cell, w1, w2, w3, w4⟩ := hP _ _ hg
  cases Option.some.inj (r1.symm.trans hcl)
  obtain ⟨hSl, hfc, kC, hkC, hkind⟩ := hK.1 ci _ hcl
  obtain ⟨cf, kf, fi, fd, hi0, hsl⟩ := hSl f hf
  have hlay := hts _ (u_in_lay hf)
  unfold u_lay at hlay
  have hst := (u_facts hfc hkC (u_lays hts (fun _ h => h) hf) hi0).1
  have hsame : s.fieldFound? C (T f).2.1 (T f).2.2.1 = some (cf, kf, fi, fd) := by rw [← hC]; exact hi0
  have hend : ∀ H' : Heap, H'[G.2.1 + c]? = some (cell.setSlot fd.slot v) → H'.size = H.size → (∀ q, q ≠ G.2.1 + c → H'[q]? = H[q]?) → W p l en R s m args below meth c0 H' (locs ++ [⟨G.2.1 + c, fd.slot⟩]) k n Q (F0 m (pc + 3) ls st) := by
    intro H' z1 z2 z3
    refine kk H' _ ls (z2.trans hz) (q_lw_P.mpr (fun c2 g1 g2 => ?_)) (hS.put z2 z3 (show G.2.1 + lo ≤ G.2.1 + c by omega)) hl
    by_cases hc2 : c2 = c
    · subst hc2
      rw [ha]
      rw [hsl] at z1
      exact ⟨_, hcl, t_OB.to (V := updV (vp_V fs) f v) ⟨_, z1, w2, w3, t_set w4 hap hf v⟩ (fun j _ => vp_updV_set hlen v j)⟩
    · rw [hb2 c2 hc2]
      exact (q_lw_P.mp hP c2 g1 g2).kept (z3 _ (show G.2.1 + c2 ≠ G.2.1 + c by omega))
  by_cases hfin : (T f).2.2.2 = true
  · rw [if_pos hfin] at hlay
    have hcf : m.cls = cf := by
      obtain ⟨_, _, c', _, _, _, -, -, hf', -, -, -, hown2, -⟩ := Cond.laysFinal_spec hlay
      have e1 : c' = cf := by have := hi0.symm.trans hf'; simp at this; exact this.1.symm
      rw [hC, hCo] at hown2
      rw [← e1]; exact Option.some.inj (hown.symm.trans hown2)
    have h6 := u_fits hfc hkC hkind (Or.inr hlay) hi0 hpd hn hfit
    exact W.putFinK hexec hb hown (hAw.use hlink) hsame hst hcf (hini hnl) (by rw [w2]; exact h6) w1 w3 (by rw [hsl]; exact k2_hasslot (w4 f hf)) rfl rfl hd hend
  · rw [if_neg hfin] at hlay
    have h6 := u_store hfc hkC hkind hlay hi0 hpd hn hfit
    exact W.putK hexec hb (f := fd) ⟨hown, hAw.use hlink, ⟨_, _, _, hsame⟩, hst⟩ (by rw [w2]; exact h6) w1 w3 (by rw [hsl]; exact k2_hasslot (w4 f hf)) rfl rfl hd hend
/-- an array of numbers, all 0, as it stays until all is made -/
theorem qk_na {t N : Nat} {at1 : ArrayType} {ty : FieldType} {i : Int32} {r : Nat → Int32} (hx : q_Cc X G own cc nL d kc ks lo) (hty : newarray.typeOf at1 = ty) (hw : q_ig (.arrayClass ty)) (ht : (q_tys G)[t]? = some (G.2.2.1 t, ty)) (hRA : ∀ (U : State) (cA : ClassId), va_RA U cA ty = (U.vm.findClass ("[" ++ ty.toString) = some cA)) (hdf : defaultValue ty = .int 0) (hi0 : ¬ i < 0) (hN : i.toNatClampNeg = N) (hby : N * componentBytes ty ≤ 536870912) (hk : k + 1 ≤ kc) (hn : n + N ≤ ks) (hd : decode cc pc = .ok (.newarray at1, 2)) (hlh : lo ≤ hi) (he : e hi = .inl (G.2.2.1 t, N, .inl r)) (hr0 : ∀ j, r j = 0)
    (kk : q_Wc X G lo nL Q (k + 1) (n + N) (pc + 2) lv (.ref (G.2.1 + hi) :: st) (hi + 1) e) : q_Wc X G lo nL Q k n pc lv (.int i :: st) hi e := by
  obtain ⟨p, l, en, R, s, m, args, below, meth, c0⟩ := X
  intro H locs ls hz hP hS hl
  obtain ⟨hexec, hb, hml, hown, hlk, hroom, ⟨hkr1, hkr2⟩, ⟨hAw, hAg⟩, hK, hini, hlo⟩ := hx
  subst hty
  refine va_newaK hexec hb (hAg.use hw) rfl hd rfl hi0 hN hby (by omega) (by omega) rfl fun H1 cA e1 z1 o1 hAr hNm => ?_
  have hRt := (hK.2 t _ ht).2
  rw [hRA] at hRt
  have hcA : cA = G.2.2.1 t := Option.some.inj (hNm.symm.trans hRt)
  subst hcA
  rw [hz] at e1 z1 o1 ⊢
  refine kk H1 locs ls (by omega) (q_lw_P.mpr (fun c g1 g2 => ?_)) ⟨Nat.le_trans hS.1 (by omega), fun y h1 h2 => (o1 y (by have := hS.1; omega)).trans (hS.2.1 y h1 h2), hS.2.2⟩ hl
  by_cases hc : c = hi
  · subst hc
    rw [he]
    show H1[G.2.1 + c]? = some (vp_cell _ _)
    rw [e1, hdf, vp_cell_i]
    congr 2
    funext j
    rw [hr0]
  · exact (q_lw_P.mp hP c g1 (by omega)).kept (o1 _ (by omega))
/-- an array of references, all null -/
theorem qk_ana {t N idx : Nat} {C : String} {i : Int32} (hx : q_Cc X G own cc nL d kc ks lo) (hcl : q_in (.classLink own idx C)) (hov : C = RX6 ∨ C = RX2) (ht : (q_tys G)[t]? = some (G.2.2.1 t, .object C)) (hi0 : ¬ i < 0) (hN : i.toNatClampNeg = N) (hby : N * 4 ≤ 536870912) (hk : k + 1 ≤ kc) (hn : n + N ≤ ks) (hd : decode cc pc = .ok (.anewarray idx, 3)) (hlh : lo ≤ hi) (he : e hi = .inl (G.2.2.1 t, N, .inr (.inr (.inr (.inr (fun _ => none))))))
    (kk : q_Wc X G lo nL Q (k + 1) (n + N) (pc + 3) lv (.ref (G.2.1 + hi) :: st) (hi + 1) e) : q_Wc X G lo nL Q k n pc lv (.int i :: st) hi e := by
  obtain ⟨p, l, en, R, s, m, args, below, meth, c0⟩ := X
  intro H locs ls hz hP hS hl
  obtain ⟨hexec, hb, hml, hown, hlk, hroom, ⟨hkr1, hkr2⟩, ⟨hAw, hAg⟩, hK, hini, hlo⟩ := hx
  subst hN
  have hovw : (Cond.arrayOver (.object C)).before args s = true := by
    rcases hov with h | h
    · rw [h]; exact hAg.2.1.use
    · rw [h]; exact hAg.2.2.use
  refine W.anew hexec hb hown (hAw.use hcl) hovw rfl hd rfl hi0 hby (by omega) (by omega) fun cA kA comp g1 g2 g3 g4 => ?_
  obtain ⟨kA2, comp2, r1, r2, r3, r4⟩ := (hK.2 t _ ht).2
  have hcA : cA = G.2.2.1 t := Option.some.inj (g1.symm.trans r4)
  subst hcA
  have o1 : ∀ q, q < H.size → (H.push ({ cls := G.2.2.1 t, slots := Array.replicate i.toNatClampNeg .null, vm := .none } : Cell))[q]? = H[q]? := fun q hq => by rw [Array.getElem?_push, if_neg (Nat.ne_of_lt hq)]
  have e1 : (H.push ({ cls := G.2.2.1 t, slots := Array.replicate i.toNatClampNeg .null, vm := .none } : Cell))[H.size]? = some (arrV (G.2.2.1 t) i.toNatClampNeg (fun _ => .null)) := by rw [← arrV_new]; simp
  have z1 : (H.push ({ cls := G.2.2.1 t, slots := Array.replicate i.toNatClampNeg .null, vm := .none } : Cell)).size = H.size + 1 := by simp
  generalize H.push ({ cls := G.2.2.1 t, slots := Array.replicate i.toNatClampNeg .null, vm := .none } : Cell) = H1 at o1 e1 z1 ⊢
  rw [hz] at e1 z1 o1 ⊢
  refine kk H1 locs ls (by omega) (q_lw_P.mpr (fun c g1 g2 => ?_)) ⟨Nat.le_trans hS.1 (by omega), fun y h1 h2 => (o1 y (by have := hS.1; omega)).trans (hS.2.1 y h1 h2), hS.2.2⟩ hl
  by_cases hc : c = hi
  · subst hc
    rw [he]
    show H1[G.2.1 + c]? = some (vp_cell _ _)
    rw [e1, vp_cell_q]
    rfl
  · exact (q_lw_P.mp hP c g1 (by omega)).kept (o1 _ (by omega))
/-- an object is put into an array of references -/
theorem qk_aast {t N c cv ci : Nat} {r : vw_C} {vs : List Value} {f : Nat → Option Nat} {i : Int32} {e2 : Nat → va_E} (hx : q_Cc X G own cc nL d kc ks lo) (ht : (q_tys G)[t]? = some (G.2.2.1 t, .object r.1)) (hcl : q_cl[ci]? = some r) (h1 : lo ≤ c) (h2 : c < hi) (he : e c = .inl (G.2.2.1 t, N, .inr (.inr (.inr (.inr f))))) (h3 : lo ≤ cv) (h4 : cv < hi) (hev : e cv = .inr (ci, vs)) (hin : vp_in i N) (hd : decode cc pc = .ok (.aastore, 1))
    (ha : e2 c = .inl (G.2.2.1 t, N, .inr (.inr (.inr (.inr (va_up f i.toNatClampNeg (some (G.2.1 + cv)))))))) (hb2 : ∀ c2, c2 ≠ c → e2 c2 = e c2) (kk : q_Wc X G lo nL Q k n (pc + 1) lv st hi e2) : q_Wc X G lo nL Q k n pc lv (.ref (G.2.1 + cv) :: .int i :: .ref (G.2.1 + c) :: st) hi e := by
  obtain ⟨p, l, en, R, s, m, args, below, meth, c0⟩ := X
  intro H locs ls hz hP hS hl
  obtain ⟨hexec, hb, hml, hown, hlk, hroom, hkr, ⟨hAw, hAg⟩, hK, hini, hlo⟩ := hx
  have hlt : i.toNatClampNeg < N := Nat.not_le.mp fun q => hin (Or.inr q)
  have h0 : ¬ i < 0 := fun q => hin (Or.inl q)
  have hg : H[G.2.1 + c]? = some (vp_cell (G.2.2.1 t) (N, .inr (.inr (.inr (.inr f))))) := by
    have := q_lw_P.mp hP c h1 h2
    rw [he] at this
    exact this
  have hgv := q_lw_P.mp hP cv h3 h4
  rw [hev] at hgv
  obtain ⟨r', hr', cellV, g1, g2, g3, -⟩ := hgv
  have hcls := (hK.1 ci r hcl).2
  obtain ⟨kA, comp, k1, k2, k3, -⟩ := (hK.2 t _ ht).2
  have hcomp : comp = G.1.1 ci := Option.some.inj (k3.symm.trans hcls.1)
  subst hcomp
  obtain ⟨kC, hkC, -⟩ := hcls.2
  refine W.aast hexec hb hg (fun q h => by cases h) (fun h => by cases h) k1 k2 rfl hkC ⟨h0, by show _ < (arrV _ _ _).slots.size; rw [arrV_size]; exact hlt⟩ g1 (fun q h => by rw [g3] at h; cases h) (by rw [g2]; exact hkC) (by rw [g2]; exact va_assign hcls) rfl rfl hd fun H1 z1 z2 z3 => ?_
  refine kk H1 _ ls (z2.trans hz) (q_lw_P.mpr (fun c2 q1 q2 => ?_)) (hS.put z2 z3 (show G.2.1 + lo ≤ G.2.1 + c by omega)) hl
  by_cases hc2 : c2 = c
  · subst hc2
    rw [ha]
    show H1[G.2.1 + c2]? = some (vp_cell _ _)
    rw [z1, vp_cell_q, vp_cell_q, arrV_store]
    congr 2
    funext q
    by_cases hq : q = i.toNatClampNeg
    · subst hq
      simp [updV, va_up, va_rf]
    · simp [updV, va_up, hq]
  · rw [hb2 c2 hc2]
    exact (q_lw_P.mp hP c2 q1 q2).kept (z3 _ (show G.2.1 + c2 ≠ G.2.1 + c by omega))
/-- new, dup, the constructor's call: its cells come, as they stay until all is made -/
theorem qk_mk {idx ix2 ci N n1 maxL d2 kc1 ks1 : Nat} {C : String} {T : u_T} {ty : Nat → FieldType} {fs : List Value} {y : MethodName} {bytes : ByteArray} (hx : q_Cc X G own cc nL d kc ks lo) (hin : ∀ w ∈ u_ws C T N, q_in w) (hty : ∀ k, k < N → parseFieldDescriptor (T k).2.2.1 = some (ty k)) (hcl : q_in (.classLink own idx C)) (hins : q_in (.instantiable C N)) (hini1 : q_in (.initialized C)) (hc : q_cl[ci]? = some (C, T, N)) (hfs : ∀ j, j < N → defaultValue (ty j) = vp_V fs j)
    (hM : q_MetC (q_Xl X) y bytes maxL d2 kc1 ks1 G x hi n1 (.inr (ci, fs))) (hL : q_ML own ix2 y) (hN : q_Mn y bytes maxL none 0) (hyn : y.name = "<init>") (him : q_in (.instanceMethod y)) (hd2 : d2 + 1 ≤ d) (hk : k + 1 + kc1 ≤ kc) (hn : n + N + ks1 ≤ ks) (hW : (st.map fun v => v.category).sum ≤ 7) (d0 : decode cc pc = .ok (.new idx, 3)) (d3 : decode cc (pc + 3) = .ok (.dup, 1)) (d4 : decode cc (pc + 4) = .ok (.invokespecial ix2, 3)) (hlh : lo ≤ hi) (hn1 : 1 ≤ n1) (hfin : ∀ c, hi ≤ c → c < hi + n1 → e c = q_fin G x c)
    (kk : q_Wc X G lo nL Q (k + 1 + kc1) (n + N + ks1) (pc + 7) lv (.ref (G.2.1 + hi) :: st) (hi + n1) e) : q_Wc X G lo nL Q k n pc lv st hi e := by
  obtain ⟨p, l, en, R, s, m, args, below, meth, c0⟩ := X
  intro H locs ls hz hP hS hl
  obtain ⟨hexec, hb, hml, hown, hlk, ⟨hr1, hr2⟩, ⟨hkr1, hkr2⟩, ⟨hAw, hAg⟩, hK, hini, hlo⟩ := hx
  have hts : ∀ w ∈ u_ws C T N, w.before args s = true := fun w hw => hAw.use (hin w hw)
  have hKn := hK.1 ci _ hc
  refine W.newcK hexec hb hown (hAw.use hcl) (hAw.use hins) (hAw.use hini1) rfl d0 (by omega) (by omega) hKn.2.1 rfl fun H1 kC hkC e1 z1 o1 => ?_
  rw [hz] at e1 z1 o1 ⊢
  refine lv_dup hexec hb d3 rfl ?_
  obtain ⟨n1', n2, n3, n4, n5⟩ := hN
  have hcw : (Cond.code y bytes maxL none).before args s = true := hAw.use n1'
  have hat : va_at G.1 q_cl (G.2.1 + hi, .inr (ci, fs)) H1 := ⟨_, hc, (u_born ty hts (fun _ h => h) hKn hkC e1 hty).to hfs⟩
  have hp : PreS s H1 (va_Pc [.ref (G.2.1 + hi)] (fun U => (q_Aw U ∧ q_Ag U) ∧ va_K G.1 q_cl (q_tys G) U ∧ U.heap.size = G.2.1 + (hi + 1) ∧ va_at G.1 q_cl (G.2.1 + hi, .inr (ci, fs)) U.heap)) [.ref (G.2.1 + hi)] := ⟨fun a U g mk q => ⟨q.1, ⟨q_Aw.same (u := U) rfl q.2.1.1, q_Ag.warm (s := U) (State.WarmedH.refl U) q.2.1.2⟩, va_K.moved (u := U) (U := U.calling g mk a) (Vm.Alike.refl U.vm) q.2.2.1, q.2.2.2⟩, fun U hU hW => ⟨rfl, ⟨hAw.warm hW, hAg.warm hW⟩, va_K.moved hW.alike hK, by rw [hU]; omega, by rw [hU]; exact hat⟩⟩
  have hrl : 8 + (maxL + 11) + (q_rmC d2 kc1 ks1).locals ≤ R.locals := by
    show 8 + (maxL + 11) + 40 * d2 ≤ R.locals
    omega
  have hrf : (q_rmC d2 kc1 ks1).frames + 1 ≤ R.frames := by
    show d2 + 1 ≤ R.frames
    omega
  have hS1 : va_S (q_freeC G lo) s.heap H1 locs := ⟨Nat.le_trans hS.1 (by omega), fun y h1 h2 => (o1 y (by have := hS.1; omega)).trans (hS.2.1 y h1 h2), hS.2.2⟩
  have hfr : ∀ q, q_freeC G hi q → q_freeC G lo q := fun q h => by
    have h : G.2.1 + hi ≤ q := h
    show G.2.1 + lo ≤ q
    omega
  have hrun : va_Run p l en R s m args below meth c0 H1 locs (k + 1) (n + N) kc1 ks1 (F0 m (pc + 4) ls (.ref (G.2.1 + hi) :: .ref (G.2.1 + hi) :: st)) (.ref (G.2.1 + hi) :: st) (va_Qv (fun _ : Unit => True) (fun _ t => t.heap.size = G.2.1 + (hi + n1) ∧ va_P G.1 q_cl (q_lw G hi (hi + n1) (q_fin G x)) t.heap) (q_freeC G hi) #[.ref (G.2.1 + hi)]) (q_freeC G hi) := by
    have hWs : ((.ref (G.2.1 + hi) :: st).map fun v : Value => v.category).sum ≤ 8 := by
      have : ((.ref (G.2.1 + hi) :: st).map fun v : Value => v.category).sum = 1 + (st.map fun v => v.category).sum := rfl
      omega
    rcases hL with hL | ⟨host, hL⟩
    · exact va_runI (Ts := []) (As := []) ⟨hexec, hb, hml, hown, fun w h => by cases h⟩ hM ⟨⟨rfl, rfl, hrf, hrl, q_good hcw, List.mem_cons_self, hcw, hAw.use n2, n3, n4, hAw.use hL⟩, hyn, hAw.use him⟩ hp rfl rfl hl.1 rfl (lv_room (m := m) (pc := pc + 4) (ls := ls) hWs) d4 ⟨by omega, by omega⟩
    · exact va_runIN (Ts := []) (As := []) (host := host) ⟨hexec, hb, hml, hown, fun w h => by cases h⟩ hM ⟨⟨⟨rfl, rfl, hrf, hrl, q_good hcw, List.mem_cons_self⟩, hcw, hAw.use n2, n3, n4, hAw.use hL⟩, hyn, hAw.use him⟩ hp rfl rfl hl.1 rfl (lv_room (m := m) (pc := pc + 4) (ls := ls) hWs) d4 ⟨by omega, by omega⟩
  refine va_callv hrun hS1 (fun q _ h => hfr q h) hfr (fun u t H2 locs2 ht hvm hp2 hB hz2 hk2 hS2 => ?_)
  obtain ⟨y1, y2⟩ := hB
  rw [ht] at y1 y2
  refine kk H2 locs2 ls y1 (q_lw_P.mpr (fun c g1 g2 => ?_)) hS2 hl
  by_cases hch : c < hi
  · refine (q_lw_P.mp hP c g1 hch).kept ?_
    show H2[G.2.1 + c]? = H[G.2.1 + c]?
    rw [hk2 _ (by omega) (fun h => by have h : G.2.1 + hi ≤ G.2.1 + c := h; omega), o1 _ (by omega)]
  · rw [hfin c (by omega) g2]
    exact q_lw_P.mp y2 c (by omega) g2
end
/-! what a constructor has made, its own object still under way -/
def q_ko (G : q_G) (x : q_A) (lo ci : Nat) (fs : List Value) : Nat → va_E := q_ue (q_fin G x) lo (.inr (ci, fs))
def q_ka (G : q_G) (x : q_A) (lo ci : Nat) (fs : List Value) (A : Nat) (E : va_E) : Nat → va_E := q_ue (q_ue (q_fin G x) A E) lo (.inr (ci, fs))
theorem q_ko_at {G : q_G} {x : q_A} {lo ci : Nat} {fs : List Value} : q_ko G x lo ci fs lo = .inr (ci, fs) := if_pos rfl
theorem q_ko_ne {G : q_G} {x : q_A} {lo ci c : Nat} {fs : List Value} (h : c ≠ lo) : q_ko G x lo ci fs c = q_fin G x c := if_neg h
theorem q_ka_at {G : q_G} {x : q_A} {lo ci A : Nat} {E : va_E} {fs : List Value} : q_ka G x lo ci fs A E lo = .inr (ci, fs) := if_pos rfl
theorem q_ka_arr {G : q_G} {x : q_A} {lo ci A : Nat} {E : va_E} {fs : List Value} (h : A ≠ lo) : q_ka G x lo ci fs A E A = E := (if_neg h).trans (if_pos rfl)
theorem q_ka_ne {G : q_G} {x : q_A} {lo ci A c : Nat} {E : va_E} {fs : List Value} (h : c ≠ lo) (h2 : c ≠ A) : q_ka G x lo ci fs A E c = q_fin G x c := (if_neg h).trans (if_neg h2)
theorem q_ka_same {G : q_G} {x : q_A} {lo ci A c : Nat} {E : va_E} {fs fs2 : List Value} (h : c ≠ lo) : q_ka G x lo ci fs A E c = q_ka G x lo ci fs2 A E c := (if_neg h).trans (if_neg h).symm
theorem q_ka_same2 {G : q_G} {x : q_A} {lo ci A c : Nat} {E E2 : va_E} {fs : List Value} (h : c ≠ A) : q_ka G x lo ci fs A E c = q_ka G x lo ci fs A E2 c := by
  unfold q_ka q_ue
  split
  · rfl
  · simp [h]
theorem q_ka_in {G : q_G} {x : q_A} {lo ci A c : Nat} {E : va_E} {fs : List Value} (h : c ≠ A) : q_ue (q_fin G x) lo (.inr (ci, fs)) c = q_ka G x lo ci fs A E c := by
  unfold q_ka q_ue
  split
  · rfl
  · simp [h]
theorem q_ko_fin {G : q_G} {x : q_A} {lo ci : Nat} {fs : List Value} (h : .inr (ci, fs) = q_fin G x lo) (c : Nat) : q_ko G x lo ci fs c = q_fin G x c := by
  unfold q_ko q_ue
  split
  · rename_i hc; rw [hc]; exact h
  · rfl
theorem q_ka_fin {G : q_G} {x : q_A} {lo ci A : Nat} {E : va_E} {fs : List Value} (h : .inr (ci, fs) = q_fin G x lo) (h2 : E = q_fin G x A) (c : Nat) : q_ka G x lo ci fs A E c = q_fin G x c := by
  unfold q_ka q_ue
  split
  · rename_i hc; rw [hc]; exact h
  · split
    · rename_i hc; rw [hc]; exact h2
    · rfl
theorem q_s0_f {c n : Nat} (h : q_kd c = n) (h2 : n ≠ 9 ∧ n ≠ 10) : q_s0 c = fun _ => 0 := by
  funext k
  unfold q_s0
  rw [if_neg (fun z => by
    obtain ⟨rfl, -⟩ := z
    exact h2.1 (h.symm.trans (by decide +kernel))), if_neg (fun z => by
    obtain ⟨rfl, -⟩ := z
    exact h2.2 (h.symm.trans (by decide +kernel)))]
theorem q_s0_k {c n : Nat} (h : q_kd c = n) (h2 : n ≠ 9 ∧ n ≠ 10) (k : Nat) : q_s0 c k = 0 := by rw [q_s0_f h h2]
def q_kp (G : q_G) (A i : Nat) : Nat → Option Nat := fun j => if j < i then some (G.2.1 + (A + (8 + 3 * j))) else none
def q_kh (G : q_G) (i : Nat) : Nat → Option Nat := fun j => if j < i then some (G.2.1 + (80 + 25 * j)) else none
theorem q_kp0 {G : q_G} {A : Nat} : q_kp G A 0 = fun _ => none := by funext j; simp [q_kp]
theorem q_kh0 {G : q_G} : q_kh G 0 = fun _ => none := by funext j; simp [q_kh]
theorem q_kp_up {G : q_G} {A i cv : Nat} {i2 : Int32} (h : cv = A + (8 + 3 * i)) (h2 : i2.toNatClampNeg = i) : va_up (q_kp G A i) i2.toNatClampNeg (some (G.2.1 + cv)) = q_kp G A (i + 1) := by
  funext j
  rw [h2, h]
  unfold va_up q_kp
  by_cases h1 : j = i
  · subst h1; simp
  · rw [if_neg h1]
    by_cases h3 : j < i
    · rw [if_pos h3, if_pos (by omega)]
    · rw [if_neg h3, if_neg (by omega)]
theorem q_kh_up {G : q_G} {i cv : Nat} {i2 : Int32} (h : cv = 80 + 25 * i) (h2 : i2.toNatClampNeg = i) : va_up (q_kh G i) i2.toNatClampNeg (some (G.2.1 + cv)) = q_kh G (i + 1) := by
  funext j
  rw [h2, h]
  unfold va_up q_kh
  by_cases h1 : j = i
  · subst h1; simp
  · rw [if_neg h1]
    by_cases h3 : j < i
    · rw [if_pos h3, if_pos (by omega)]
    · rw [if_neg h3, if_neg (by omega)]
