/-! the world: every object and array of the class and of the reference has a number (its place in the order of making); what the ints hold is a function of number and place -/
abbrev q_S : Type := Nat → Nat → Int32
abbrev q_A : Type := Int64 × UInt64
abbrev q_G : Type := va_G × Nat × (Nat → ClassId) × (Nat → Nat) × (Nat → Nat)
def q_up (σ : q_S) (c k : Nat) (v : Int32) : q_S := fun c2 => if c2 = c then upd (σ c) k v else σ c2
def q_row (σ : q_S) (c : Nat) (r : Nat → Int32) : q_S := fun c2 => if c2 = c then r else σ c2
def q_dream : List Nat := [2, 10005, 40000, 6, 10016, 10016, 5, 10008, 10008, 10008, 6, 10016, 10016, 6, 10016, 10016, 6, 10016, 10016, 6, 10016, 10016, 6, 10016, 10016]
def q_kdL : List Nat := [9, 8, 2, 10005, 40000, 6, 10016, 10016, 5, 10008, 10008, 10008, 6, 10016, 10016, 6, 10016, 10016, 6, 10016, 10016, 6, 10016, 10016, 6, 10016, 10016, 7, 2, 10005, 40000, 6, 10016, 10016, 5, 10008, 10008, 10008, 6, 10016, 10016, 6, 10016, 10016, 6, 10016, 10016, 6, 10016, 10016, 6, 10016, 10016, 3, 50000, 2, 10005, 40000, 6, 10016, 10016, 5, 10008, 10008, 10008, 6, 10016, 10016, 6, 10016, 10016, 6, 10016, 10016, 6, 10016, 10016, 6, 10016, 10016, 2, 10005, 40000, 6, 10016, 10016, 5, 10008, 10008, 10008, 6, 10016, 10016, 6, 10016, 10016, 6, 10016, 10016, 6, 10016, 10016, 6, 10016, 10016, 2, 10005, 40000, 6, 10016, 10016, 5, 10008, 10008, 10008, 6, 10016, 10016, 6, 10016, 10016, 6, 10016, 10016, 6, 10016, 10016, 6, 10016, 10016, 2, 10005, 40000, 6, 10016, 10016, 5, 10008, 10008, 10008, 6, 10016, 10016, 6, 10016, 10016, 6, 10016, 10016, 6, 10016, 10016, 6, 10016, 10016, 2, 10005, 40000, 6, 10016, 10016, 5, 10008, 10008, 10008, 6, 10016, 10016, 6, 10016, 10016, 6, 10016, 10016, 6, 10016, 10016, 6, 10016, 10016, 2, 10005, 40000, 6, 10016, 10016, 5, 10008, 10008, 10008, 6, 10016, 10016, 6, 10016, 10016, 6, 10016, 10016, 6, 10016, 10016, 6, 10016, 10016, 2, 10005, 40000, 6, 10016, 10016, 5, 10008, 10008, 10008, 6, 10016, 10016, 6, 10016, 10016, 6, 10016, 10016, 6, 10016, 10016, 6, 10016, 10016, 2, 10005, 40000, 6, 10016, 10016, 5, 10008, 10008, 10008, 6, 10016, 10016, 6, 10016, 10016, 6, 10016, 10016, 6, 10016, 10016, 6, 10016, 10016, 2, 10005, 40000, 6, 10016, 10016, 5, 10008, 10008, 10008, 6, 10016, 10016, 6, 10016, 10016, 6, 10016, 10016, 6, 10016, 10016, 6, 10016, 10016, 0, 10096, 10005, 20060, 1, 10010, 10010, 10010, 10010, 10003, 4, 20039, 10, 10220, 10220, 10220, 11760, 30117, 10005, 10060, 10032, 10096, 10060, 60000, 70000]
def q_kd (c : Nat) : Nat := q_kdL.getD c 99
abbrev q_NC : Nat := 305
theorem q_kdL_len : q_kdL.length = 305 := by decide +kernel
theorem q_kd_lt {c n : Nat} (h : q_kd c = n) (hn : n ≠ 99) : c < q_NC := by
  refine Nat.lt_of_not_le fun h2 => hn ?_
  have h3 : 305 ≤ c := h2
  have h4 := q_kdL_len
  rw [← h]
  unfold q_kd
  rw [List.getD_eq_getElem?_getD, List.getElem?_eq_none (by omega)]
  rfl
abbrev q_cl : List vw_C := [(RX0, TX0, 2), (RX1, TX1, 6), (RX2, TX2, 7), (RX3, TX3, 4), (RX4, TX4, 2), (RX5, TX5, 4), (RX6, TX6, 9), (RX7, TX7, 4), (RX8, TX8, 2), (RX9, TX9, 12), (RX10, TX10, 30)]
def q_f0 (B : Nat) (r : Nat → Int32) (c : Nat) : List Value := [.ref (B + 281), .ref (B + 282)]
def q_f1 (B : Nat) (r : Nat → Int32) (c : Nat) : List Value := [.int (r 0), .ref (B + 285), .ref (B + 286), .ref (B + 287), .ref (B + 288), .ref (B + 289)]
def q_f2 (B : Nat) (r : Nat → Int32) (c : Nat) : List Value := [.int (r 0), .ref (B + (c + 1)), .ref (B + (c + 2)), .ref (B + (c + 3)), .ref (B + (c + 6)), .int (r 5), .int (r 6)]
def q_f3 (B : Nat) (r : Nat → Int32) (c : Nat) : List Value := [.ref (B + 54), .ref (B + 55), .int (r 2), .int (r 3)]
def q_f4 (B : Nat) (r : Nat → Int32) (c : Nat) : List Value := [.ref (B + 291), .int (r 1)]
def q_f5 (B : Nat) (r : Nat → Int32) (c : Nat) : List Value := [.int (r 0), .ref (B + (c + 1)), .ref (B + (c + 2)), .ref (B + (c + 3))]
def q_f6 (B : Nat) (r : Nat → Int32) (c : Nat) : List Value := [.int (r 0), .int (r 1), .int (r 2), .int (r 3), .int (r 4), .int (r 5), .int (r 6), .ref (B + (c + 1)), .ref (B + (c + 2))]
def q_f7 (B : Nat) (r : Nat → Int32) (c : Nat) : List Value := [.int (r 0), .int (r 1), .int (r 2), .int (r 3)]
def q_f8 (B : Nat) (r : Nat → Int32) (c : Nat) : List Value := [.ref (B + 2), .ref (B + 27)]
def q_f9 (B : Nat) (r : Nat → Int32) (c : Nat) : List Value := [.ref (B + 1), .ref (B + 2), .ref (B + 27), .ref (B + 28), .int (r 4), .ref (B + 53), .ref (B + 280), .ref (B + 283), .int (r 8), .ref (B + 284), .int (r 10), .ref (B + 290)]
def q_f10 (B : Nat) (r : Nat → Int32) (c : Nat) : List Value := [.ref (B + 293), .ref (B + 294), .ref (B + 295), .ref (B + 296), .int (r 4), .int (r 5), .int (r 6), .int (r 7), .int (r 8), .int (r 9), .int (r 10), .int (r 11), .int (r 12), .int (r 13), .int (r 14), .int (r 15), .ref (B + 297), .int (r 17), .ref (B + 298), .ref (B + 299), .ref (B + 300), .ref (B + 301), .int (r 22), .int (r 23), .int (r 24), .int (r 25), .int (r 26), .int (r 27), .ref (B + 302), .int (r 29)]
def q_ent (G : q_G) (r : Nat → Int32) (x : q_A) (c : Nat) : va_E :=
  if q_kd c = 0 then .inr (0, q_f0 G.2.1 r c) else
  if q_kd c = 1 then .inr (1, q_f1 G.2.1 r c) else
  if q_kd c = 2 then .inr (2, q_f2 G.2.1 r c) else
  if q_kd c = 3 then .inr (3, q_f3 G.2.1 r c) else
  if q_kd c = 4 then .inr (4, q_f4 G.2.1 r c) else
  if q_kd c = 5 then .inr (5, q_f5 G.2.1 r c) else
  if q_kd c = 6 then .inr (6, q_f6 G.2.1 r c) else
  if q_kd c = 7 then .inr (7, q_f7 G.2.1 r c) else
  if q_kd c = 8 then .inr (8, q_f8 G.2.1 r c) else
  if q_kd c = 9 then .inr (9, q_f9 G.2.1 r c) else
  if q_kd c = 10 then .inr (10, q_f10 G.2.1 r c) else
  if q_kd c = 40000 then .inl (G.2.2.1 3, 5, .inr (.inr (.inr (.inr (fun j => if j < 5 then some (G.2.1 + (c + (8 + 3 * j))) else none))))) else
  if q_kd c = 50000 then .inl (G.2.2.1 4, 8, .inr (.inr (.inr (.inr (fun j => if j < 8 then some (G.2.1 + (80 + 25 * j)) else none))))) else
  if q_kd c = 60000 then .inl (G.2.2.1 5, 1, .inr (.inl (fun _ => x.1))) else
  if q_kd c = 70000 then .inl (G.2.2.1 6, 1, .inr (.inr (.inr (.inl (fun _ => x.2))))) else
  .inl (G.2.2.1 (q_kd c / 10000 - 1), q_kd c % 10000, .inl r)
theorem q_e0 {G : q_G} {r : Nat → Int32} {x : q_A} {c : Nat} (h : q_kd c = 0) : q_ent G r x c = .inr (0, q_f0 G.2.1 r c) := by simp [q_ent, h]
theorem q_e1 {G : q_G} {r : Nat → Int32} {x : q_A} {c : Nat} (h : q_kd c = 1) : q_ent G r x c = .inr (1, q_f1 G.2.1 r c) := by simp [q_ent, h]
theorem q_e2 {G : q_G} {r : Nat → Int32} {x : q_A} {c : Nat} (h : q_kd c = 2) : q_ent G r x c = .inr (2, q_f2 G.2.1 r c) := by simp [q_ent, h]
theorem q_e3 {G : q_G} {r : Nat → Int32} {x : q_A} {c : Nat} (h : q_kd c = 3) : q_ent G r x c = .inr (3, q_f3 G.2.1 r c) := by simp [q_ent, h]
theorem q_e4 {G : q_G} {r : Nat → Int32} {x : q_A} {c : Nat} (h : q_kd c = 4) : q_ent G r x c = .inr (4, q_f4 G.2.1 r c) := by simp [q_ent, h]
theorem q_e5 {G : q_G} {r : Nat → Int32} {x : q_A} {c : Nat} (h : q_kd c = 5) : q_ent G r x c = .inr (5, q_f5 G.2.1 r c) := by simp [q_ent, h]
theorem q_e6 {G : q_G} {r : Nat → Int32} {x : q_A} {c : Nat} (h : q_kd c = 6) : q_ent G r x c = .inr (6, q_f6 G.2.1 r c) := by simp [q_ent, h]
theorem q_e7 {G : q_G} {r : Nat → Int32} {x : q_A} {c : Nat} (h : q_kd c = 7) : q_ent G r x c = .inr (7, q_f7 G.2.1 r c) := by simp [q_ent, h]
theorem q_e8 {G : q_G} {r : Nat → Int32} {x : q_A} {c : Nat} (h : q_kd c = 8) : q_ent G r x c = .inr (8, q_f8 G.2.1 r c) := by simp [q_ent, h]
theorem q_e9 {G : q_G} {r : Nat → Int32} {x : q_A} {c : Nat} (h : q_kd c = 9) : q_ent G r x c = .inr (9, q_f9 G.2.1 r c) := by simp [q_ent, h]
theorem q_e10 {G : q_G} {r : Nat → Int32} {x : q_A} {c : Nat} (h : q_kd c = 10) : q_ent G r x c = .inr (10, q_f10 G.2.1 r c) := by simp [q_ent, h]
theorem q_ea0 {G : q_G} {r : Nat → Int32} {x : q_A} {c n : Nat} (h : q_kd c = 10000 + n) (hn : n < 10000) : q_ent G r x c = .inl (G.2.2.1 0, n, .inl r) := by
  unfold q_ent
  rw [h, if_neg (show ¬ 10000 + n = 0 by omega), if_neg (show ¬ 10000 + n = 1 by omega), if_neg (show ¬ 10000 + n = 2 by omega), if_neg (show ¬ 10000 + n = 3 by omega), if_neg (show ¬ 10000 + n = 4 by omega), if_neg (show ¬ 10000 + n = 5 by omega), if_neg (show ¬ 10000 + n = 6 by omega), if_neg (show ¬ 10000 + n = 7 by omega), if_neg (show ¬ 10000 + n = 8 by omega), if_neg (show ¬ 10000 + n = 9 by omega), if_neg (show ¬ 10000 + n = 10 by omega), if_neg (show ¬ 10000 + n = 40000 by omega), if_neg (show ¬ 10000 + n = 50000 by omega), if_neg (show ¬ 10000 + n = 60000 by omega), if_neg (show ¬ 10000 + n = 70000 by omega)]
  rw [show (10000 + n) / 10000 - 1 = 0 by omega, show (10000 + n) % 10000 = n by omega]
theorem q_ea1 {G : q_G} {r : Nat → Int32} {x : q_A} {c n : Nat} (h : q_kd c = 20000 + n) (hn : n < 10000) : q_ent G r x c = .inl (G.2.2.1 1, n, .inl r) := by
  unfold q_ent
  rw [h, if_neg (show ¬ 20000 + n = 0 by omega), if_neg (show ¬ 20000 + n = 1 by omega), if_neg (show ¬ 20000 + n = 2 by omega), if_neg (show ¬ 20000 + n = 3 by omega), if_neg (show ¬ 20000 + n = 4 by omega), if_neg (show ¬ 20000 + n = 5 by omega), if_neg (show ¬ 20000 + n = 6 by omega), if_neg (show ¬ 20000 + n = 7 by omega), if_neg (show ¬ 20000 + n = 8 by omega), if_neg (show ¬ 20000 + n = 9 by omega), if_neg (show ¬ 20000 + n = 10 by omega), if_neg (show ¬ 20000 + n = 40000 by omega), if_neg (show ¬ 20000 + n = 50000 by omega), if_neg (show ¬ 20000 + n = 60000 by omega), if_neg (show ¬ 20000 + n = 70000 by omega)]
  rw [show (20000 + n) / 10000 - 1 = 1 by omega, show (20000 + n) % 10000 = n by omega]
theorem q_ea2 {G : q_G} {r : Nat → Int32} {x : q_A} {c n : Nat} (h : q_kd c = 30000 + n) (hn : n < 10000) : q_ent G r x c = .inl (G.2.2.1 2, n, .inl r) := by
  unfold q_ent
  rw [h, if_neg (show ¬ 30000 + n = 0 by omega), if_neg (show ¬ 30000 + n = 1 by omega), if_neg (show ¬ 30000 + n = 2 by omega), if_neg (show ¬ 30000 + n = 3 by omega), if_neg (show ¬ 30000 + n = 4 by omega), if_neg (show ¬ 30000 + n = 5 by omega), if_neg (show ¬ 30000 + n = 6 by omega), if_neg (show ¬ 30000 + n = 7 by omega), if_neg (show ¬ 30000 + n = 8 by omega), if_neg (show ¬ 30000 + n = 9 by omega), if_neg (show ¬ 30000 + n = 10 by omega), if_neg (show ¬ 30000 + n = 40000 by omega), if_neg (show ¬ 30000 + n = 50000 by omega), if_neg (show ¬ 30000 + n = 60000 by omega), if_neg (show ¬ 30000 + n = 70000 by omega)]
  rw [show (30000 + n) / 10000 - 1 = 2 by omega, show (30000 + n) % 10000 = n by omega]
theorem q_ep {G : q_G} {r : Nat → Int32} {x : q_A} {c : Nat} (h : q_kd c = 40000) : q_ent G r x c = .inl (G.2.2.1 3, 5, .inr (.inr (.inr (.inr (fun j => if j < 5 then some (G.2.1 + (c + (8 + 3 * j))) else none))))) := by simp [q_ent, h]
theorem q_ed {G : q_G} {r : Nat → Int32} {x : q_A} {c : Nat} (h : q_kd c = 50000) : q_ent G r x c = .inl (G.2.2.1 4, 8, .inr (.inr (.inr (.inr (fun j => if j < 8 then some (G.2.1 + (80 + 25 * j)) else none))))) := by simp [q_ent, h]
theorem q_el {G : q_G} {r : Nat → Int32} {x : q_A} {c : Nat} (h : q_kd c = 60000) : q_ent G r x c = .inl (G.2.2.1 5, 1, .inr (.inl (fun _ => x.1))) := by simp [q_ent, h]
theorem q_edb {G : q_G} {r : Nat → Int32} {x : q_A} {c : Nat} (h : q_kd c = 70000) : q_ent G r x c = .inl (G.2.2.1 6, 1, .inr (.inr (.inr (.inl (fun _ => x.2))))) := by simp [q_ent, h]
theorem q_s1_0 (B : Nat) (r : Nat → Int32) (c : Nat) (v : Int32) : (q_f1 B r c).set 0 (.int v) = q_f1 B (upd r 0 v) c := by simp [q_f1, upd]
theorem q_s2_0 (B : Nat) (r : Nat → Int32) (c : Nat) (v : Int32) : (q_f2 B r c).set 0 (.int v) = q_f2 B (upd r 0 v) c := by simp [q_f2, upd]
theorem q_s2_5 (B : Nat) (r : Nat → Int32) (c : Nat) (v : Int32) : (q_f2 B r c).set 5 (.int v) = q_f2 B (upd r 5 v) c := by simp [q_f2, upd]
theorem q_s2_6 (B : Nat) (r : Nat → Int32) (c : Nat) (v : Int32) : (q_f2 B r c).set 6 (.int v) = q_f2 B (upd r 6 v) c := by simp [q_f2, upd]
theorem q_s3_2 (B : Nat) (r : Nat → Int32) (c : Nat) (v : Int32) : (q_f3 B r c).set 2 (.int v) = q_f3 B (upd r 2 v) c := by simp [q_f3, upd]
theorem q_s3_3 (B : Nat) (r : Nat → Int32) (c : Nat) (v : Int32) : (q_f3 B r c).set 3 (.int v) = q_f3 B (upd r 3 v) c := by simp [q_f3, upd]
theorem q_s4_1 (B : Nat) (r : Nat → Int32) (c : Nat) (v : Int32) : (q_f4 B r c).set 1 (.int v) = q_f4 B (upd r 1 v) c := by simp [q_f4, upd]
theorem q_s5_0 (B : Nat) (r : Nat → Int32) (c : Nat) (v : Int32) : (q_f5 B r c).set 0 (.int v) = q_f5 B (upd r 0 v) c := by simp [q_f5, upd]
theorem q_s6_0 (B : Nat) (r : Nat → Int32) (c : Nat) (v : Int32) : (q_f6 B r c).set 0 (.int v) = q_f6 B (upd r 0 v) c := by simp [q_f6, upd]
theorem q_s6_1 (B : Nat) (r : Nat → Int32) (c : Nat) (v : Int32) : (q_f6 B r c).set 1 (.int v) = q_f6 B (upd r 1 v) c := by simp [q_f6, upd]
theorem q_s6_2 (B : Nat) (r : Nat → Int32) (c : Nat) (v : Int32) : (q_f6 B r c).set 2 (.int v) = q_f6 B (upd r 2 v) c := by simp [q_f6, upd]
theorem q_s6_3 (B : Nat) (r : Nat → Int32) (c : Nat) (v : Int32) : (q_f6 B r c).set 3 (.int v) = q_f6 B (upd r 3 v) c := by simp [q_f6, upd]
theorem q_s6_4 (B : Nat) (r : Nat → Int32) (c : Nat) (v : Int32) : (q_f6 B r c).set 4 (.int v) = q_f6 B (upd r 4 v) c := by simp [q_f6, upd]
theorem q_s6_5 (B : Nat) (r : Nat → Int32) (c : Nat) (v : Int32) : (q_f6 B r c).set 5 (.int v) = q_f6 B (upd r 5 v) c := by simp [q_f6, upd]
theorem q_s6_6 (B : Nat) (r : Nat → Int32) (c : Nat) (v : Int32) : (q_f6 B r c).set 6 (.int v) = q_f6 B (upd r 6 v) c := by simp [q_f6, upd]
theorem q_s7_0 (B : Nat) (r : Nat → Int32) (c : Nat) (v : Int32) : (q_f7 B r c).set 0 (.int v) = q_f7 B (upd r 0 v) c := by simp [q_f7, upd]
theorem q_s7_1 (B : Nat) (r : Nat → Int32) (c : Nat) (v : Int32) : (q_f7 B r c).set 1 (.int v) = q_f7 B (upd r 1 v) c := by simp [q_f7, upd]
theorem q_s7_2 (B : Nat) (r : Nat → Int32) (c : Nat) (v : Int32) : (q_f7 B r c).set 2 (.int v) = q_f7 B (upd r 2 v) c := by simp [q_f7, upd]
theorem q_s7_3 (B : Nat) (r : Nat → Int32) (c : Nat) (v : Int32) : (q_f7 B r c).set 3 (.int v) = q_f7 B (upd r 3 v) c := by simp [q_f7, upd]
theorem q_s9_4 (B : Nat) (r : Nat → Int32) (c : Nat) (v : Int32) : (q_f9 B r c).set 4 (.int v) = q_f9 B (upd r 4 v) c := by simp [q_f9, upd]
theorem q_s9_8 (B : Nat) (r : Nat → Int32) (c : Nat) (v : Int32) : (q_f9 B r c).set 8 (.int v) = q_f9 B (upd r 8 v) c := by simp [q_f9, upd]
theorem q_s9_10 (B : Nat) (r : Nat → Int32) (c : Nat) (v : Int32) : (q_f9 B r c).set 10 (.int v) = q_f9 B (upd r 10 v) c := by simp [q_f9, upd]
theorem q_s10_4 (B : Nat) (r : Nat → Int32) (c : Nat) (v : Int32) : (q_f10 B r c).set 4 (.int v) = q_f10 B (upd r 4 v) c := by simp [q_f10, upd]
theorem q_s10_5 (B : Nat) (r : Nat → Int32) (c : Nat) (v : Int32) : (q_f10 B r c).set 5 (.int v) = q_f10 B (upd r 5 v) c := by simp [q_f10, upd]
theorem q_s10_6 (B : Nat) (r : Nat → Int32) (c : Nat) (v : Int32) : (q_f10 B r c).set 6 (.int v) = q_f10 B (upd r 6 v) c := by simp [q_f10, upd]
theorem q_s10_7 (B : Nat) (r : Nat → Int32) (c : Nat) (v : Int32) : (q_f10 B r c).set 7 (.int v) = q_f10 B (upd r 7 v) c := by simp [q_f10, upd]
theorem q_s10_8 (B : Nat) (r : Nat → Int32) (c : Nat) (v : Int32) : (q_f10 B r c).set 8 (.int v) = q_f10 B (upd r 8 v) c := by simp [q_f10, upd]
theorem q_s10_9 (B : Nat) (r : Nat → Int32) (c : Nat) (v : Int32) : (q_f10 B r c).set 9 (.int v) = q_f10 B (upd r 9 v) c := by simp [q_f10, upd]
theorem q_s10_10 (B : Nat) (r : Nat → Int32) (c : Nat) (v : Int32) : (q_f10 B r c).set 10 (.int v) = q_f10 B (upd r 10 v) c := by simp [q_f10, upd]
theorem q_s10_11 (B : Nat) (r : Nat → Int32) (c : Nat) (v : Int32) : (q_f10 B r c).set 11 (.int v) = q_f10 B (upd r 11 v) c := by simp [q_f10, upd]
theorem q_s10_12 (B : Nat) (r : Nat → Int32) (c : Nat) (v : Int32) : (q_f10 B r c).set 12 (.int v) = q_f10 B (upd r 12 v) c := by simp [q_f10, upd]
theorem q_s10_13 (B : Nat) (r : Nat → Int32) (c : Nat) (v : Int32) : (q_f10 B r c).set 13 (.int v) = q_f10 B (upd r 13 v) c := by simp [q_f10, upd]
theorem q_s10_14 (B : Nat) (r : Nat → Int32) (c : Nat) (v : Int32) : (q_f10 B r c).set 14 (.int v) = q_f10 B (upd r 14 v) c := by simp [q_f10, upd]
theorem q_s10_15 (B : Nat) (r : Nat → Int32) (c : Nat) (v : Int32) : (q_f10 B r c).set 15 (.int v) = q_f10 B (upd r 15 v) c := by simp [q_f10, upd]
theorem q_s10_17 (B : Nat) (r : Nat → Int32) (c : Nat) (v : Int32) : (q_f10 B r c).set 17 (.int v) = q_f10 B (upd r 17 v) c := by simp [q_f10, upd]
theorem q_s10_22 (B : Nat) (r : Nat → Int32) (c : Nat) (v : Int32) : (q_f10 B r c).set 22 (.int v) = q_f10 B (upd r 22 v) c := by simp [q_f10, upd]
theorem q_s10_23 (B : Nat) (r : Nat → Int32) (c : Nat) (v : Int32) : (q_f10 B r c).set 23 (.int v) = q_f10 B (upd r 23 v) c := by simp [q_f10, upd]
theorem q_s10_24 (B : Nat) (r : Nat → Int32) (c : Nat) (v : Int32) : (q_f10 B r c).set 24 (.int v) = q_f10 B (upd r 24 v) c := by simp [q_f10, upd]
theorem q_s10_25 (B : Nat) (r : Nat → Int32) (c : Nat) (v : Int32) : (q_f10 B r c).set 25 (.int v) = q_f10 B (upd r 25 v) c := by simp [q_f10, upd]
theorem q_s10_26 (B : Nat) (r : Nat → Int32) (c : Nat) (v : Int32) : (q_f10 B r c).set 26 (.int v) = q_f10 B (upd r 26 v) c := by simp [q_f10, upd]
theorem q_s10_27 (B : Nat) (r : Nat → Int32) (c : Nat) (v : Int32) : (q_f10 B r c).set 27 (.int v) = q_f10 B (upd r 27 v) c := by simp [q_f10, upd]
theorem q_s10_29 (B : Nat) (r : Nat → Int32) (c : Nat) (v : Int32) : (q_f10 B r c).set 29 (.int v) = q_f10 B (upd r 29 v) c := by simp [q_f10, upd]
def q_wl (G : q_G) (σ : q_S) (x : q_A) : va_W := (List.range q_NC).map (fun c => (G.2.1 + c, q_ent G (σ c) x c))
theorem q_wl_get {G : q_G} {σ : q_S} {x : q_A} {c : Nat} (h : c < q_NC) : (q_wl G σ x)[c]? = some (G.2.1 + c, q_ent G (σ c) x c) := by
  unfold q_wl
  rw [List.getElem?_map, List.getElem?_range h]
  rfl
theorem q_wl_of {G : q_G} {σ : q_S} {x : q_A} {c : Nat} {q : Nat × va_E} (h : (q_wl G σ x)[c]? = some q) : c < q_NC ∧ q = (G.2.1 + c, q_ent G (σ c) x c) := by
  have hl : c < q_NC := by
    have h1 := (List.getElem?_eq_some_iff.mp h).1
    simpa [q_wl] using h1
  rw [q_wl_get hl] at h
  exact ⟨hl, (Option.some.inj h).symm⟩
theorem q_row_self (σ : q_S) (c : Nat) (r : Nat → Int32) : q_row σ c r c = r := by simp [q_row]
theorem q_row_ne {σ : q_S} {c c2 : Nat} {r : Nat → Int32} (h : c2 ≠ c) : q_row σ c r c2 = σ c2 := by simp [q_row, h]
theorem q_up_row (σ : q_S) (c k : Nat) (v : Int32) : q_up σ c k v = q_row σ c (upd (σ c) k v) := rfl
theorem q_wl_set {G : q_G} {σ : q_S} {x : q_A} {c : Nat} {r : Nat → Int32} {e : va_E} (h : c < q_NC) (he : e = q_ent G r x c) : (q_wl G σ x).set c (G.2.1 + c, e) = q_wl G (q_row σ c r) x := by
  apply List.ext_getElem?
  intro j
  by_cases hj : j = c
  · subst hj
    rw [List.getElem?_set_self (by simpa [q_wl] using h), q_wl_get h, q_row_self, he]
  · rw [List.getElem?_set_ne (fun z => hj z.symm)]
    by_cases hl : j < q_NC
    · rw [q_wl_get hl, q_wl_get hl, q_row_ne hj]
    · rw [List.getElem?_eq_none (by simpa [q_wl] using hl), List.getElem?_eq_none (by simpa [q_wl] using hl)]
/-- the cells that may change: all that were made since the law began -/
def q_free (G : q_G) : Nat → Prop := fun q => G.2.1 ≤ q
theorem q_wl_D (G : q_G) (σ : q_S) (x : q_A) : va_D (q_free G) (q_wl G σ x) := by
  refine ⟨fun i j p q hi hj hpq => ?_, fun k q hk => ?_⟩
  · obtain ⟨-, rfl⟩ := q_wl_of hi
    obtain ⟨-, rfl⟩ := q_wl_of hj
    exact Nat.add_left_cancel hpq
  · obtain ⟨-, rfl⟩ := q_wl_of hk
    exact Nat.le_add_right _ _
def q_Rep (G : q_G) (σ : q_S) (x : q_A) (H : Heap) : Prop := va_P G.1 q_cl (q_wl G σ x) H
def q_tys (G : q_G) : List (ClassId × FieldType) := [(G.2.2.1 0, .int), (G.2.2.1 1, .char), (G.2.2.1 2, .boolean), (G.2.2.1 3, .object "DreamPlots$Plot"), (G.2.2.1 4, .object "DreamPlots$Dream"), (G.2.2.1 5, .long), (G.2.2.1 6, .double)]
/-! words -/
def q_ok (w : Cond) : Bool := w.onTables && (w.keepsH || w.keepsFace)
def q_Aw (U : State) : Prop := ∀ w ∈ lw_tbl, q_ok w = true → w.before #[] U = true
theorem q_Aw.warm {s U : State} (hW : s.WarmedH U.vm) (h : q_Aw s) : q_Aw U := by
  intro w hw hk
  have h1 := h w hw hk
  simp only [q_ok, Bool.and_eq_true, Bool.or_eq_true] at hk
  obtain ⟨ht, hk | hk⟩ := hk
  · have h2 := Cond.onTables_warmH (args' := #[]) (T := U) hW ht hk h1
    rwa [State.setVm_self] at h2
  · exact Cond.onTables_atFace hW (by simp [ht, hk]) h1
theorem q_Aw.use {s : State} {args : Array Value} (h : q_Aw s) {w : Cond} (hw : w ∈ lw_tbl ∧ q_ok w = true) : w.before args s = true := by
  have h1 := h w hw.1 hw.2
  have h2 := hw.2
  simp only [q_ok, Bool.and_eq_true] at h2
  exact va_Nw.use h2.1 h1
def q_in (w : Cond) : Prop := w ∈ lw_tbl ∧ q_ok w = true
theorem q_in.of {w : Cond} (i : Nat) (h : lw_tbl[i]? = some w) (h2 : q_ok w = true) : q_in w := ⟨List.mem_of_getElem? h, h2⟩

