/-! the eight texts of Commands, and the methods of String that are called on them -/
def q_sl (c : Nat) : Int32 := Int32.ofNat (q_len.getD c 0)
def q_sb (c : Nat) (k : Nat) : Int32 := (q_byt.getD c []).getD k 0
def q_sc (c : Nat) (i : Int32) : Int32 := ((q_sb c i.toNatClampNeg &&& 255).toUInt32 % 65536).toInt32
def q_nr (v : Value) : Prop := v = .null ∨ ∃ t : Nat, v = .ref t
def q_Qs (G : q_G) (x : q_A) (v : Nat) (σ : q_S) : Array Value → State → Outcome → State → Prop := va_Qr (fun (_ : Unit) => True) (fun _ a t => a = G.2.2.2.1 v ∧ q_Rep G σ x t.heap) (q_free G)
theorem q_lt8 {c : Nat} (h : c < 8) : q_len.getD c 0 < 100 := by
  have : ∀ c, c < 8 → q_len.getD c 0 < 100 := by decide +kernel
  exact this c h
section
variable {X : q_X} {G : q_G} {x : q_A} {nL d : Nat} {Q : State → Prop} {k n pc : Nat} {lv : List (Nat × Value)} {st : List Value} {σ : q_S} {own : String} {cc : ByteArray}
theorem q_ishr (hx : q_Cx X G own cc nL d) {a b : Int32} (hd : decode cc pc = .ok (.ishr, 1)) (kk : q_Wq X G x nL Q k n (pc + 1) lv (.int (a >>> (b &&& 31)) :: st) σ) : q_Wq X G x nL Q k n pc lv (.int b :: .int a :: st) σ := by
  obtain ⟨p, l, e, R, s, m, args, below, meth, c⟩ := X
  intro H locs ls hR hS hl
  exact lv_ishr hx.1 hx.2.1 hd (kk H locs ls hR hS hl)
theorem q_getsC (hx : q_Cx X G own cc nL d) {i : Nat} (hw : q_in (.fieldLink own i "java/lang/String" "COMPACT_STRINGS" "Z")) (hd : decode cc pc = .ok (.getstatic i, 3)) (kk : q_Wq X G x nL Q k n (pc + 3) lv (.int 1 :: st) σ) : q_Wq X G x nL Q k n pc lv st σ := by
  obtain ⟨p, l, e, R, s, m, args, below, meth, c⟩ := X
  intro H locs ls hR hS hl
  obtain ⟨hexec, hb, hml, hown, hlk, hroom, hAw, hK, hT⟩ := hx
  exact va_gets hexec hb hT.2.2.2.2.2.1 hS hown (hAw.use hw) (fun _ h => h) hd (kk H locs ls hR hS hl)
theorem q_getsP (hx : q_Cx X G own cc nL d) {i : Nat} (hw : q_in (.fieldLink own i "jdk/internal/util/Preconditions" "SIOOBE_FORMATTER" "Ljava/util/function/BiFunction;")) (hd : decode cc pc = .ok (.getstatic i, 3)) (kk : ∀ v : Value, q_nr v → q_Wq X G x nL Q k n (pc + 3) lv (v :: st) σ) : q_Wq X G x nL Q k n pc lv st σ := by
  obtain ⟨p, l, e, R, s, m, args, below, meth, c⟩ := X
  intro H locs ls hR hS hl
  obtain ⟨hexec, hb, hml, hown, hlk, hroom, hAw, hK, hT⟩ := hx
  rcases hT.2.2.2.2.2.2 with hZ | ⟨t, hZ⟩
  · exact va_gets hexec hb hZ hS hown (hAw.use hw) (fun _ h => h) hd (kk _ (Or.inl rfl) H locs ls hR hS hl)
  · exact va_gets hexec hb hZ hS hown (hAw.use hw) (fun _ h => h) hd (kk _ (Or.inr ⟨t, rfl⟩) H locs ls hR hS hl)
theorem q_getV (hx : q_Cx X G own cc nL d) {i c : Nat} (hc : c < 8) (hw : q_in (.fieldLink own i "java/lang/String" "value" "[B")) (hd : decode cc pc = .ok (.getfield i, 3)) (kk : q_Wq X G x nL Q k n (pc + 3) lv (.ref (G.2.2.2.2 c) :: st) σ) : q_Wq X G x nL Q k n pc lv (.ref (G.2.2.2.1 c) :: st) σ := by
  obtain ⟨p, l, e, R, s, m, args, below, meth, c0⟩ := X
  intro H locs ls hR hS hl
  obtain ⟨hexec, hb, hml, hown, hlk, hroom, hAw, hK, hT⟩ := hx
  exact vk_getf hexec hb (hT.2.2.2.1.1 c hc).2.2.1 hS hown (hAw.use hw) (fun _ h => h) hd (kk H locs ls hR hS hl)
theorem q_getCo (hx : q_Cx X G own cc nL d) {i c : Nat} (hc : c < 8) (hw : q_in (.fieldLink own i "java/lang/String" "coder" "B")) (hd : decode cc pc = .ok (.getfield i, 3)) (kk : q_Wq X G x nL Q k n (pc + 3) lv (.int 0 :: st) σ) : q_Wq X G x nL Q k n pc lv (.ref (G.2.2.2.1 c) :: st) σ := by
  obtain ⟨p, l, e, R, s, m, args, below, meth, c0⟩ := X
  intro H locs ls hR hS hl
  obtain ⟨hexec, hb, hml, hown, hlk, hroom, hAw, hK, hT⟩ := hx
  exact vk_getf hexec hb (hT.2.2.2.1.1 c hc).2.1 hS hown (hAw.use hw) (fun _ h => h) hd (kk H locs ls hR hS hl)
theorem q_alenT (hx : q_Cx X G own cc nL d) {c : Nat} (hc : c < 8) (hd : decode cc pc = .ok (.arraylength, 1)) (kk : q_Wq X G x nL Q k n (pc + 1) lv (.int (q_sl c) :: st) σ) : q_Wq X G x nL Q k n pc lv (.ref (G.2.2.2.2 c) :: st) σ := by
  obtain ⟨p, l, e, R, s, m, args, below, meth, c0⟩ := X
  intro H locs ls hR hS hl
  obtain ⟨hexec, hb, hml, hown, hlk, hroom, hAw, hK, hT⟩ := hx
  exact va_tlen hexec hb (hT.2.2.2.1.1 c hc).2.2.2 hS rfl hd (kk H locs ls hR hS hl)
theorem q_baldT (hx : q_Cx X G own cc nL d) {c : Nat} {i : Int32} (hc : c < 8) (hi : vp_in i (q_len.getD c 0)) (hd : decode cc pc = .ok (.baload, 1)) (kk : q_Wq X G x nL Q k n (pc + 1) lv (.int (q_sb c i.toNatClampNeg) :: st) σ) : q_Wq X G x nL Q k n pc lv (.int i :: .ref (G.2.2.2.2 c) :: st) σ := by
  obtain ⟨p, l, e, R, s, m, args, below, meth, c0⟩ := X
  intro H locs ls hR hS hl
  obtain ⟨hexec, hb, hml, hown, hlk, hroom, hAw, hK, hT⟩ := hx
  exact va_tb hexec hb (hT.2.2.2.1.1 c hc).2.2.2 hS hi rfl hd (kk H locs ls hR hS hl)
theorem q_ldcs (hx : q_Cx X G "DreamPlots$Commands" cc nL d) {i c : Nat} {tx : String} (hf : q_forms[c]? = some (i, tx)) (hd : decode cc pc = .ok (.ldc i, 2)) (kk : q_Wq X G x nL Q k n (pc + 2) lv (.ref (G.2.2.2.1 c) :: st) σ) : q_Wq X G x nL Q k n pc lv st σ := by
  obtain ⟨p, l, e, R, s, m, args, below, meth, c0⟩ := X
  intro H locs ls hR hS hl
  obtain ⟨hexec, hb, hml, hown, hlk, hroom, hAw, hK, hT⟩ := hx
  exact va_ldcS hexec hb hown (hT.2.2.2.2.1 c _ hf) hd (kk H locs ls hR hS hl)
theorem q_sret {v : Nat} {C : String} (hx : q_Cx X G own cc nL d) (hr : (q_Xm X).sig.returnType = some (.object C)) (hd : decode cc pc = .ok (.areturn, 1)) : q_Wq X G x nL (q_MQ X G (q_Qs G x v σ)) 0 0 pc lv [.ref (G.2.2.2.1 v)] σ := by
  obtain ⟨p, l, e, R, s, m, args, below, meth, c⟩ := X
  intro H locs ls hR hS hl
  obtain ⟨hexec, hb, hml, hown, hlk, hroom, hAw, hK, hT⟩ := hx
  exact W.aret hexec hb hr (Or.inl ⟨C, rfl⟩) (Or.inr ⟨_, rfl⟩) (fun t ht hW => ⟨⟨(), G.2.2.2.1 v, rfl, trivial, rfl, by show q_Rep G σ x t.heap; rw [ht]; exact hR⟩, hS.F ht⟩) hS.2.2 hd
theorem q_runVs {y : MethodName} {bytes : ByteArray} {maxL np d2 idx c1 : Nat} {ret : Option FieldType} {As rest : List Value} {Qc : Array Value → State → Outcome → State → Prop} {p : Program} {l : Launch} {e : Env} {R : Room} {s : State} {m : MethodId} {args : Array Value} {below : List Frame} {meth : Method} {c : Code} {H : Heap} {locs : List Loc} {ls : Array Slot}
    (hx : q_Cx (p, l, e, R, s, m, args, below, meth, c) G own cc nL d) (hM : q_Met l y bytes maxL ret d2 G (.ref (G.2.2.2.1 c1) :: As) σ x Qc) (hL : q_in (.methodLink own idx y)) (hN : q_Mn y bytes maxL ret np) (hi : q_in (.instanceMethod y)) (hs : q_in (.selects y.cls y y)) (hd2 : d2 + 1 ≤ d) (hn : As.length = np) (hW : (rest.map fun v => v.category).sum ≤ 8) (hd : decode cc pc = .ok (.invokevirtual idx, 3)) (hkR : k ≤ R.cells ∧ n ≤ R.slots) (hc1 : c1 < 8) (hC : y.cls = "java/lang/String") (hR : q_Rep G σ x H) (hS : va_S (q_free G) s.heap H locs) (hl : lv_has ls nL lv) :
    va_Run p l e R s m args below meth c H locs k n 0 0 (F0 m pc ls (As.reverse ++ .ref (G.2.2.2.1 c1) :: rest)) rest (Qc (Value.ref (G.2.2.2.1 c1) :: As).toArray) (q_free G) := by
  obtain ⟨hexec, hb, hml, hown, hlk, ⟨hr1, hr2⟩, hAw, hK, hT⟩ := hx
  obtain ⟨n1, n2, n3, n4, n5⟩ := hN
  have hc : (Cond.code y bytes maxL ret).before args s = true := hAw.use n1
  have hrecv := vk_recv hT.2.2.2.1 hc1 hS
  rw [← hC] at hrecv
  have hp : PreV s H y.cls (G.2.2.2.1 c1) (va_Pc (.ref (G.2.2.2.1 c1) :: As) (fun U => q_Inv G σ x U)) As := ⟨fun a U g mk q => ⟨q.1, q.2.blind⟩, hrecv, fun U hU hW => ⟨rfl, q_pre hAw hK hT hR hS U hU hW⟩⟩
  have hrl : 8 + (maxL + 11) + (q_rm d2).locals ≤ R.locals := by
    show 8 + (maxL + 11) + 40 * d2 ≤ R.locals
    omega
  have hrf : (q_rm d2).frames + 1 ≤ R.frames := by
    show d2 + 1 ≤ R.frames
    omega
  exact va_runV (Ts := []) ⟨hexec, hb, hml, hown, fun w h => by cases h⟩ hM ⟨⟨rfl, rfl, hrf, hrl, q_good hc, List.mem_cons_self, hc, hAw.use n2, n3, n4, hAw.use hL⟩, hAw.use hi, hAw.use hs⟩ hp rfl hn hl.1 rfl (lv_room (pc := pc) (ls := ls) hW) hd hkR
theorem q_callVsi {y : MethodName} {bytes : ByteArray} {maxL np d2 idx : Nat} {ret : Option FieldType} {As rest : List Value} {c1 : Nat} {v : Int32} {τ : q_S} (hx : q_Cx X G own cc nL d) (hkR : q_kR X k n) (hM : q_Met (q_Xl X) y bytes maxL ret d2 G (.ref (G.2.2.2.1 c1) :: As) σ x (q_Qi G x v τ)) (hL : q_in (.methodLink own idx y)) (hN : q_Mn y bytes maxL ret np) (hi : q_in (.instanceMethod y)) (hs : q_in (.selects y.cls y y)) (hd2 : d2 + 1 ≤ d) (hn : As.length = np) (hW : (rest.map fun v => v.category).sum ≤ 8) (hd : decode cc pc = .ok (.invokevirtual idx, 3)) (hc1 : c1 < 8) (hC : y.cls = "java/lang/String") (hst0 : st = As.reverse ++ .ref (G.2.2.2.1 c1) :: rest) (kk : q_Wq X G x nL Q k n (pc + 3) lv (.int v :: rest) τ) : q_Wq X G x nL Q k n pc lv st σ := by
  obtain ⟨p, l, e, R, s, m, args, below, meth, c⟩ := X
  subst hst0
  intro H locs ls hR hS hl
  refine va_calli (q_runVs hx hM hL hN hi hs hd2 hn hW hd hkR hc1 hC hR hS hl) hS (fun q _ h => h) (fun q h => h) (fun r u t H1 locs1 ht hvm hp hB hz hk hS1 => ?_)
  subst hp
  rw [ht] at hB
  exact kk H1 locs1 ls hB hS1 hl
theorem q_callSs {y : MethodName} {bytes : ByteArray} {maxL np d2 idx : Nat} {ret : Option FieldType} {As rest : List Value} {v : Nat} {τ : q_S} (hx : q_Cx X G own cc nL d) (hkR : q_kR X k n) (hM : q_Met (q_Xl X) y bytes maxL ret d2 G As σ x (q_Qs G x v τ)) (hL : q_ML own idx y) (hN : q_Mn y bytes maxL ret np) (hst : q_in (.static y)) (hd2 : d2 + 1 ≤ d) (hn : As.length = np) (hW : (rest.map fun v => v.category).sum ≤ 8) (hd : decode cc pc = .ok (.invokestatic idx, 3)) (hst0 : st = As.reverse ++ rest) (kk : q_Wq X G x nL Q k n (pc + 3) lv (.ref (G.2.2.2.1 v) :: rest) τ) : q_Wq X G x nL Q k n pc lv st σ := by
  obtain ⟨p, l, e, R, s, m, args, below, meth, c⟩ := X
  subst hst0
  intro H locs ls hR hS hl
  refine va_callr (q_runS hx hM hL hN hst hd2 hn hW hd hkR hR hS hl) hS (fun q _ h => h) (fun q h => h) (fun u r t H1 locs1 ht hvm hp hB hz hk hS1 => ?_)
  obtain ⟨rfl, hB⟩ := hB
  rw [ht] at hB
  exact kk H1 locs1 ls hB hS1 hl
end
theorem q_mn_J3_checkIndex_8e157 : q_Mn yJ3_checkIndex_8e157 cJ3_checkIndex_8e157 3 (some .int) 3 := q_Mn.of (q_in.of 1118 (by decide +kernel) (by decide +kernel)) (q_in.of 103 (by decide +kernel) (by decide +kernel)) ⟨by decide +kernel, by decide +kernel⟩ (by decide +kernel) (by decide)
theorem q_ms_J3_checkIndex_8e157 : q_in (.static yJ3_checkIndex_8e157) := (q_in.of 1117 (by decide +kernel) (by decide +kernel))
theorem q_mn_J0_checkIndex_df160 : q_Mn yJ0_checkIndex_df160 cJ0_checkIndex_df160 2 (none) 2 := q_Mn.of (q_in.of 1113 (by decide +kernel) (by decide +kernel)) (q_in.of 99 (by decide +kernel) (by decide +kernel)) ⟨by decide +kernel, by decide +kernel⟩ (by decide +kernel) (by decide)
theorem q_ms_J0_checkIndex_df160 : q_in (.static yJ0_checkIndex_df160) := (q_in.of 1112 (by decide +kernel) (by decide +kernel))
theorem q_mn_J1_charAt_3b067 : q_Mn yJ1_charAt_3b067 cJ1_charAt_3b067 2 (some .char) 2 := q_Mn.of (q_in.of 1110 (by decide +kernel) (by decide +kernel)) (q_in.of 102 (by decide +kernel) (by decide +kernel)) ⟨by decide +kernel, by decide +kernel⟩ (by decide +kernel) (by decide)
theorem q_ms_J1_charAt_3b067 : q_in (.static yJ1_charAt_3b067) := (q_in.of 1109 (by decide +kernel) (by decide +kernel))
theorem q_mn_J0_isLatin1_aae02 : q_Mn yJ0_isLatin1_aae02 cJ0_isLatin1_aae02 1 (some .boolean) 0 := q_Mn.of (q_in.of 1107 (by decide +kernel) (by decide +kernel)) (q_in.of 99 (by decide +kernel) (by decide +kernel)) ⟨by decide +kernel, by decide +kernel⟩ (by decide +kernel) (by decide)
theorem q_mi_J0_isLatin1_aae02 : q_in (.instanceMethod yJ0_isLatin1_aae02) := (q_in.of 1105 (by decide +kernel) (by decide +kernel))
theorem q_se_J0_isLatin1_aae02 : q_in (.selects yJ0_isLatin1_aae02.cls yJ0_isLatin1_aae02 yJ0_isLatin1_aae02) := (q_in.of 1106 (by decide +kernel) (by decide +kernel))
theorem q_mn_J0_coder_7d493 : q_Mn yJ0_coder_7d493 cJ0_coder_7d493 1 (some .byte) 0 := q_Mn.of (q_in.of 1097 (by decide +kernel) (by decide +kernel)) (q_in.of 99 (by decide +kernel) (by decide +kernel)) ⟨by decide +kernel, by decide +kernel⟩ (by decide +kernel) (by decide)
theorem q_mi_J0_coder_7d493 : q_in (.instanceMethod yJ0_coder_7d493) := (q_in.of 1095 (by decide +kernel) (by decide +kernel))
theorem q_se_J0_coder_7d493 : q_in (.selects yJ0_coder_7d493.cls yJ0_coder_7d493 yJ0_coder_7d493) := (q_in.of 1096 (by decide +kernel) (by decide +kernel))
theorem q_mn_J0_length_8abf5 : q_Mn yJ0_length_8abf5 cJ0_length_8abf5 1 (some .int) 0 := q_Mn.of (q_in.of 1093 (by decide +kernel) (by decide +kernel)) (q_in.of 99 (by decide +kernel) (by decide +kernel)) ⟨by decide +kernel, by decide +kernel⟩ (by decide +kernel) (by decide)
theorem q_mi_J0_length_8abf5 : q_in (.instanceMethod yJ0_length_8abf5) := (q_in.of 1091 (by decide +kernel) (by decide +kernel))
theorem q_se_J0_length_8abf5 : q_in (.selects yJ0_length_8abf5.cls yJ0_length_8abf5 yJ0_length_8abf5) := (q_in.of 1092 (by decide +kernel) (by decide +kernel))
theorem q_mn_J0_charAt_5068e : q_Mn yJ0_charAt_5068e cJ0_charAt_5068e 2 (some .char) 1 := q_Mn.of (q_in.of 1103 (by decide +kernel) (by decide +kernel)) (q_in.of 99 (by decide +kernel) (by decide +kernel)) ⟨by decide +kernel, by decide +kernel⟩ (by decide +kernel) (by decide)
theorem q_mi_J0_charAt_5068e : q_in (.instanceMethod yJ0_charAt_5068e) := (q_in.of 1101 (by decide +kernel) (by decide +kernel))
theorem q_se_J0_charAt_5068e : q_in (.selects yJ0_charAt_5068e.cls yJ0_charAt_5068e yJ0_charAt_5068e) := (q_in.of 1102 (by decide +kernel) (by decide +kernel))
theorem q_jw_compact : q_in (.fieldLink RJ0 38 "java/lang/String" "COMPACT_STRINGS" "Z") := (q_in.of 1098 (by decide +kernel) (by decide +kernel))
theorem q_jw_sioobe : q_in (.fieldLink RJ0 1053 "jdk/internal/util/Preconditions" "SIOOBE_FORMATTER" "Ljava/util/function/BiFunction;") := (q_in.of 1114 (by decide +kernel) (by decide +kernel))
theorem q_jw_value : q_in (.fieldLink RJ0 9 "java/lang/String" "value" "[B") := (q_in.of 1875 (by decide +kernel) (by decide +kernel))
theorem q_jw_coder : q_in (.fieldLink RJ0 15 "java/lang/String" "coder" "B") := (q_in.of 1876 (by decide +kernel) (by decide +kernel))
theorem q_jw_335 : q_in (.methodLink RJ0 335 yJ0_coder_7d493) := (q_in.of 1094 (by decide +kernel) (by decide +kernel))
theorem q_jw_492 : q_in (.methodLink RJ0 492 yJ0_isLatin1_aae02) := (q_in.of 1104 (by decide +kernel) (by decide +kernel))
theorem q_jw_495 : q_ML RJ0 495 yJ1_charAt_3b067 := .inl (q_in.of 1108 (by decide +kernel) (by decide +kernel))
theorem q_jw_1059 : q_ML RJ0 1059 yJ3_checkIndex_8e157 := .inl (q_in.of 1116 (by decide +kernel) (by decide +kernel))
theorem q_jw_9 : q_ML RJ1 9 yJ0_checkIndex_df160 := .inl (q_in.of 1111 (by decide +kernel) (by decide +kernel))
theorem q_jw_C80 : q_in (.methodLink RX1 80 yJ0_length_8abf5) := (q_in.of 1090 (by decide +kernel) (by decide +kernel))
theorem q_jw_C86 : q_in (.methodLink RX1 86 yJ0_charAt_5068e) := (q_in.of 1100 (by decide +kernel) (by decide +kernel))
theorem c_J3_checkIndex_8e157 (l : Launch) (G : q_G) (x : q_A) (σ : q_S) (i n : Int32) (v : Value) (hv : q_nr v) (h0 : ¬ i < 0) (h1 : i < n) : q_Met l yJ3_checkIndex_8e157 cJ3_checkIndex_8e157 3 (some .int) 1 G [.int i, .int n, v] σ x (q_Qi G x i σ) := by
  refine q_of (by decide) ?_ (fun X hl0 hx hr => ?_)
  · rcases hv with rfl | ⟨t, rfl⟩ <;> exact Nat.le_of_ble_eq_true rfl
  subst hl0
  have hx : q_Cx X G RJ3 cJ3_checkIndex_8e157 3 1 := hx
  have hlv : lv_args 0 [.int i, .int n, v] = [(0, .int i), (1, .int n), (2, v)] := by rcases hv with rfl | ⟨t, rfl⟩ <;> rfl
  rw [hlv]
  refine q_iload_n hx dJ3_checkIndex_8e157_0 0 rfl ?_
  refine q_if_lt hx 9 dJ3_checkIndex_8e157_1 (by decide) (fun h => absurd h h0) (fun _ => ?_)
  refine q_iload_n hx dJ3_checkIndex_8e157_4 0 rfl ?_
  refine q_iload_n hx dJ3_checkIndex_8e157_5 1 rfl ?_
  refine q_icmp_lt hx 16 dJ3_checkIndex_8e157_6 (by decide) (fun _ => ?_) (fun h => absurd h1 h)
  refine q_iload_n hx dJ3_checkIndex_8e157_16 0 rfl ?_
  exact q_iret hx hr dJ3_checkIndex_8e157_17
theorem c_J0_checkIndex_df160 (l : Launch) (G : q_G) (x : q_A) (σ : q_S) (i n : Int32) (h0 : ¬ i < 0) (h1 : i < n) : q_Met l yJ0_checkIndex_df160 cJ0_checkIndex_df160 2 none 2 G [.int i, .int n] σ x (q_Qv G x σ) := by
  refine q_of (by decide) (Nat.le_of_ble_eq_true rfl) (fun X hl0 hx hr => ?_)
  subst hl0
  have hx : q_Cx X G RJ0 cJ0_checkIndex_df160 2 2 := hx
  show q_Wq X G x 2 (q_MQ X G (q_Qv G x σ)) 0 0 0 [(0, .int i), (1, .int n)] [] σ
  refine q_iload_n hx dJ0_checkIndex_df160_0 0 rfl ?_
  refine q_iload_n hx dJ0_checkIndex_df160_1 1 rfl ?_
  refine q_getsP hx q_jw_sioobe dJ0_checkIndex_df160_2 (fun v hv => ?_)
  refine q_callSi (As := [.int i, .int n, v]) (rest := []) hx q_kR0 (c_J3_checkIndex_8e157 (q_Xl X) G x σ i n v hv h0 h1) q_jw_1059 q_mn_J3_checkIndex_8e157 q_ms_J3_checkIndex_8e157 (by decide) rfl (Nat.le_of_ble_eq_true rfl) dJ0_checkIndex_df160_5 rfl ?_
  refine q_pop hx dJ0_checkIndex_df160_8 rfl ?_
  exact q_vret hx hr dJ0_checkIndex_df160_9
theorem c_J1_charAt_3b067 (l : Launch) (G : q_G) (x : q_A) (σ : q_S) (c : Nat) (hc : c < 8) (i : Int32) (hi : ¬ (i < 0 ∨ q_len.getD c 0 ≤ i.toNatClampNeg)) : q_Met l yJ1_charAt_3b067 cJ1_charAt_3b067 2 (some .char) 3 G [.ref (G.2.2.2.2 c), .int i] σ x (q_Qi G x (q_sc c i) σ) := by
  refine q_of (by decide) (Nat.le_of_ble_eq_true rfl) (fun X hl0 hx hr => ?_)
  subst hl0
  have hx : q_Cx X G RJ1 cJ1_charAt_3b067 2 3 := hx
  have h0 : ¬ i < 0 := fun h => hi (Or.inl h)
  have h1 : i < q_sl c := by
    have hl := q_lt8 hc
    rcases pk_ix i (n := q_len.getD c 0) (by omega) with h | h | ⟨j, hj, rfl⟩
    · exact absurd h h0
    · exfalso
      refine hi (Or.inr ?_)
      have h2 := Int32.le_iff_toInt_le.mp h
      rw [nI_toInt (by omega)] at h2
      show q_len.getD c 0 ≤ i.toInt.toNat
      omega
    · show Int32.ofNat j < Int32.ofNat (q_len.getD c 0)
      rw [Int32.lt_iff_toInt_lt, Int32.toInt_ofNat_of_lt (by omega), Int32.toInt_ofNat_of_lt (by omega)]
      omega
  show q_Wq X G x 2 (q_MQ X G (q_Qi G x (q_sc c i) σ)) 0 0 0 [(0, .ref (G.2.2.2.2 c)), (1, .int i)] [] σ
  refine q_iload_n hx dJ1_charAt_3b067_0 1 rfl ?_
  refine q_aload_n hx dJ1_charAt_3b067_1 0 rfl ?_
  refine q_alenT hx hc dJ1_charAt_3b067_2 ?_
  refine q_callSv (As := [.int i, .int (q_sl c)]) (rest := []) hx q_kR0 (c_J0_checkIndex_df160 (q_Xl X) G x σ i (q_sl c) h0 h1) q_jw_9 q_mn_J0_checkIndex_df160 q_ms_J0_checkIndex_df160 (by decide) rfl (Nat.le_of_ble_eq_true rfl) dJ1_charAt_3b067_3 rfl ?_
  refine q_aload_n hx dJ1_charAt_3b067_6 0 rfl ?_
  refine q_iload_n hx dJ1_charAt_3b067_7 1 rfl ?_
  refine q_baldT hx hc hi dJ1_charAt_3b067_8 ?_
  refine q_sipush (v := 255) hx dJ1_charAt_3b067_9 (by decide) ?_
  refine q_iand hx dJ1_charAt_3b067_12 ?_
  refine q_i2c hx dJ1_charAt_3b067_13 ?_
  exact q_zret hx hr (pk_nc _) dJ1_charAt_3b067_14
theorem c_J0_isLatin1_aae02 (l : Launch) (G : q_G) (x : q_A) (σ : q_S) (c : Nat) (hc : c < 8) : q_Met l yJ0_isLatin1_aae02 cJ0_isLatin1_aae02 1 (some .boolean) 1 G [.ref (G.2.2.2.1 c)] σ x (q_Qi G x 1 σ) := by
  refine q_of (by decide) (Nat.le_of_ble_eq_true rfl) (fun X hl0 hx hr => ?_)
  subst hl0
  have hx : q_Cx X G RJ0 cJ0_isLatin1_aae02 1 1 := hx
  show q_Wq X G x 1 (q_MQ X G (q_Qi G x 1 σ)) 0 0 0 [(0, .ref (G.2.2.2.1 c))] [] σ
  refine q_getsC hx q_jw_compact dJ0_isLatin1_aae02_0 ?_
  refine q_if_eq hx 17 dJ0_isLatin1_aae02_3 (by decide) (fun h => absurd h (by decide)) (fun _ => ?_)
  refine q_aload_n hx dJ0_isLatin1_aae02_6 0 rfl ?_
  refine q_getCo hx hc q_jw_coder dJ0_isLatin1_aae02_7 ?_
  refine q_if_ne hx 17 dJ0_isLatin1_aae02_10 (by decide) (fun h => absurd rfl h) (fun _ => ?_)
  refine q_iconst (v := 1) hx dJ0_isLatin1_aae02_13 (by decide) ?_
  refine q_goto hx 18 dJ0_isLatin1_aae02_14 (by decide) ?_
  exact q_zret hx hr rfl dJ0_isLatin1_aae02_18
theorem c_J0_coder_7d493 (l : Launch) (G : q_G) (x : q_A) (σ : q_S) (c : Nat) (hc : c < 8) : q_Met l yJ0_coder_7d493 cJ0_coder_7d493 1 (some .byte) 1 G [.ref (G.2.2.2.1 c)] σ x (q_Qi G x 0 σ) := by
  refine q_of (by decide) (Nat.le_of_ble_eq_true rfl) (fun X hl0 hx hr => ?_)
  subst hl0
  have hx : q_Cx X G RJ0 cJ0_coder_7d493 1 1 := hx
  show q_Wq X G x 1 (q_MQ X G (q_Qi G x 0 σ)) 0 0 0 [(0, .ref (G.2.2.2.1 c))] [] σ
  refine q_getsC hx q_jw_compact dJ0_coder_7d493_0 ?_
  refine q_if_eq hx 13 dJ0_coder_7d493_3 (by decide) (fun h => absurd h (by decide)) (fun _ => ?_)
  refine q_aload_n hx dJ0_coder_7d493_6 0 rfl ?_
  refine q_getCo hx hc q_jw_coder dJ0_coder_7d493_7 ?_
  refine q_goto hx 14 dJ0_coder_7d493_10 (by decide) ?_
  exact q_zret hx hr rfl dJ0_coder_7d493_14
theorem c_J0_length_8abf5 (l : Launch) (G : q_G) (x : q_A) (σ : q_S) (c : Nat) (hc : c < 8) : q_Met l yJ0_length_8abf5 cJ0_length_8abf5 1 (some .int) 2 G [.ref (G.2.2.2.1 c)] σ x (q_Qi G x (q_sl c) σ) := by
  refine q_of (by decide) (Nat.le_of_ble_eq_true rfl) (fun X hl0 hx hr => ?_)
  subst hl0
  have hx : q_Cx X G RJ0 cJ0_length_8abf5 1 2 := hx
  show q_Wq X G x 1 (q_MQ X G (q_Qi G x (q_sl c) σ)) 0 0 0 [(0, .ref (G.2.2.2.1 c))] [] σ
  refine q_aload_n hx dJ0_length_8abf5_0 0 rfl ?_
  refine q_getV hx hc q_jw_value dJ0_length_8abf5_1 ?_
  refine q_alenT hx hc dJ0_length_8abf5_4 ?_
  refine q_aload_n hx dJ0_length_8abf5_5 0 rfl ?_
  refine q_callVsi (As := []) (rest := [.int (q_sl c)]) hx q_kR0 (c_J0_coder_7d493 (q_Xl X) G x σ c hc) q_jw_335 q_mn_J0_coder_7d493 q_mi_J0_coder_7d493 q_se_J0_coder_7d493 (by decide) rfl (Nat.le_of_ble_eq_true rfl) dJ0_length_8abf5_6 hc rfl rfl ?_
  refine q_ishr hx dJ0_length_8abf5_9 ?_
  have e : q_sl c >>> ((0 : Int32) &&& 31) = q_sl c := by
    have : ∀ c, c < 8 → q_sl c >>> ((0 : Int32) &&& 31) = q_sl c := by decide +kernel
    exact this c hc
  rw [e]
  exact q_iret hx hr dJ0_length_8abf5_10
theorem c_J0_charAt_5068e (l : Launch) (G : q_G) (x : q_A) (σ : q_S) (c : Nat) (hc : c < 8) (i : Int32) (hi : ¬ (i < 0 ∨ q_len.getD c 0 ≤ i.toNatClampNeg)) : q_Met l yJ0_charAt_5068e cJ0_charAt_5068e 2 (some .char) 4 G [.ref (G.2.2.2.1 c), .int i] σ x (q_Qi G x (q_sc c i) σ) := by
  refine q_of (by decide) (Nat.le_of_ble_eq_true rfl) (fun X hl0 hx hr => ?_)
  subst hl0
  have hx : q_Cx X G RJ0 cJ0_charAt_5068e 2 4 := hx
  show q_Wq X G x 2 (q_MQ X G (q_Qi G x (q_sc c i) σ)) 0 0 0 [(0, .ref (G.2.2.2.1 c)), (1, .int i)] [] σ
  refine q_aload_n hx dJ0_charAt_5068e_0 0 rfl ?_
  refine q_callVsi (As := []) (rest := []) hx q_kR0 (c_J0_isLatin1_aae02 (q_Xl X) G x σ c hc) q_jw_492 q_mn_J0_isLatin1_aae02 q_mi_J0_isLatin1_aae02 q_se_J0_isLatin1_aae02 (by decide) rfl (Nat.le_of_ble_eq_true rfl) dJ0_charAt_5068e_1 hc rfl rfl ?_
  refine q_if_eq hx 16 dJ0_charAt_5068e_4 (by decide) (fun h => absurd h (by decide)) (fun _ => ?_)
  refine q_aload_n hx dJ0_charAt_5068e_7 0 rfl ?_
  refine q_getV hx hc q_jw_value dJ0_charAt_5068e_8 ?_
  refine q_iload_n hx dJ0_charAt_5068e_11 1 rfl ?_
  refine q_callSi (As := [.ref (G.2.2.2.2 c), .int i]) (rest := []) hx q_kR0 (c_J1_charAt_3b067 (q_Xl X) G x σ c hc i hi) q_jw_495 q_mn_J1_charAt_3b067 q_ms_J1_charAt_3b067 (by decide) rfl (Nat.le_of_ble_eq_true rfl) dJ0_charAt_5068e_12 rfl ?_
  refine q_zret hx hr ?_ dJ0_charAt_5068e_15
  exact pk_nc _
