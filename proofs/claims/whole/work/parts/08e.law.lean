def w_ok_0 (σ : q_S) (a b c : Int32) (K : q_S → Prop) : Prop := ∃ (e : Nat) (v : Int32) (w : Int32) (τ : q_S) (υ : q_S), (f_X9_sleeper σ (a) = some (e, v, τ)) ∧ (e = 0 ∨ e = 2 ∨ e = 3) ∧ (f_X10_sleeper τ (a) = some (w, υ)) ∧ (f_X10_thrown υ = q_cd [2, 3] e) ∧ (e = 0 → v = w) ∧ K υ
def w_ok_1 (σ : q_S) (a b c : Int32) (K : q_S → Prop) : Prop := ∃ (e : Nat) (v : Int32) (w : Int32) (τ : q_S) (υ : q_S), (f_X9_peg σ (a) (b) (c) = some (e, v, τ)) ∧ (e = 0 ∨ e = 1 ∨ e = 2 ∨ e = 3) ∧ (f_X10_peg τ (a) (b) (c) = some (w, υ)) ∧ (f_X10_thrown υ = q_cd [1, 2, 3] e) ∧ (e = 0 → v = w) ∧ K υ
def w_ok_2 (σ : q_S) (a b c : Int32) (K : q_S → Prop) : Prop := ∃ (e : Nat) (v : Int32) (w : Int32) (τ : q_S) (υ : q_S), (f_X9_plot σ (a) (b) (c) = some (e, v, τ)) ∧ (e = 0 ∨ e = 1 ∨ e = 3) ∧ (f_X10_plot τ (a) (b) (c) = some (w, υ)) ∧ (f_X10_thrown υ = q_cd [1, 3] e) ∧ (e = 0 → v = w) ∧ K υ
def w_ok_3 (σ : q_S) (a b c : Int32) (K : q_S → Prop) : Prop := ∃ (e : Nat) (v : Int32) (w : Int32) (τ : q_S) (υ : q_S), (f_X9_chain σ (a) (((b).toUInt32 % 65536).toInt32) (c) = some (e, v, τ)) ∧ (e = 0 ∨ e = 1 ∨ e = 2 ∨ e = 3) ∧ (f_X10_chain τ (a) (((b).toUInt32 % 65536).toInt32) (c) = some (w, υ)) ∧ (f_X10_thrown υ = q_cd [1, 2, 3] e) ∧ (e = 0 → v = w) ∧ K υ
def w_ok_4 (σ : q_S) (a b c : Int32) (K : q_S → Prop) : Prop := ∃ (e : Nat) (v : Int32) (w : Int32) (τ : q_S) (υ : q_S), (f_X9_bend σ (a) (b) (c) = some (e, v, τ)) ∧ (e = 0 ∨ e = 1 ∨ e = 2 ∨ e = 3) ∧ (f_X10_bend τ (a) (b) (c) = some (w, υ)) ∧ (f_X10_thrown υ = q_cd [1, 2, 3] e) ∧ (e = 0 → v = w) ∧ K υ
def w_ok_5 (σ : q_S) (a b c : Int32) (K : q_S → Prop) : Prop := ∃ (e : Nat) (v : Int32) (w : Int32) (τ : q_S) (υ : q_S), (f_X9_drop σ (a) = some (e, v, τ)) ∧ (e = 0 ∨ e = 1 ∨ e = 3) ∧ (f_X10_drop τ (a) = some (w, υ)) ∧ (f_X10_thrown υ = q_cd [1, 3] e) ∧ (e = 0 → v = w) ∧ K υ
def w_ok_6 (σ : q_S) (a b c : Int32) (K : q_S → Prop) : Prop := ∃ (e : Nat) (v : Int32) (w : Int32) (τ : q_S) (υ : q_S), (f_X9_deep σ (a) (b) = some (e, v, τ)) ∧ (e = 0 ∨ e = 1 ∨ e = 2 ∨ e = 3) ∧ (f_X10_deep τ (a) (b) = some (w, υ)) ∧ (f_X10_thrown υ = q_cd [1, 2, 3] e) ∧ (e = 0 → v = w) ∧ K υ
def w_ok_7 (σ : q_S) (a b c : Int32) (K : q_S → Prop) : Prop := ∃ (e : Nat) (v : Int32) (w : Int32) (τ : q_S) (υ : q_S), (f_X9_dusk σ (a) = some (e, v, τ)) ∧ (e = 0 ∨ e = 2) ∧ (f_X10_dusk τ (a) = some (w, υ)) ∧ (f_X10_thrown υ = q_cd [2] e) ∧ (e = 0 → v = w) ∧ K υ
def w_ok_8 (σ : q_S) (a b c : Int32) (K : q_S → Prop) : Prop := ∃ (e : Nat) (v : Int32) (w : Int32) (τ : q_S) (υ : q_S), (f_X9_sleeperOf σ (a) (b) = some (e, v, τ)) ∧ (e = 0 ∨ e = 1 ∨ e = 2) ∧ (f_X10_sleeperOf τ (a) (b) = some (w, υ)) ∧ (f_X10_thrown υ = q_cd [1, 2] e) ∧ (e = 0 → v = w) ∧ K υ
def w_ok_9 (σ : q_S) (a b c : Int32) (K : q_S → Prop) : Prop := ∃ (e : Nat) (v : Int32) (w : Int32) (υ : q_S), (f_X9_chainOf σ (a) (b) (c) = some (e, v)) ∧ (e = 0 ∨ e = 1 ∨ e = 2) ∧ (f_X10_chainOf σ (a) (b) (c) = some (w, υ)) ∧ (f_X10_thrown υ = q_cd [1, 2] e) ∧ (e = 0 → v = w) ∧ K υ
def w_ok_10 (σ : q_S) (a b c : Int32) (K : q_S → Prop) : Prop := ∃ (e : Nat) (v : Int32) (w : Int32) (υ : q_S), (f_X9_pegOf σ (a) (b) = some (e, v)) ∧ (e = 0 ∨ e = 1 ∨ e = 2) ∧ (f_X10_pegOf σ (a) (b) = some (w, υ)) ∧ (f_X10_thrown υ = q_cd [1, 2] e) ∧ (e = 0 → v = w) ∧ K υ
def w_ok_11 (σ : q_S) (a b c : Int32) (K : q_S → Prop) : Prop := ∃ (e : Nat) (v : Int32) (w : Int32) (υ : q_S), (f_X9_owner σ (a) (b) = some (e, v)) ∧ (e = 0 ∨ e = 1) ∧ (f_X10_owner σ (a) (b) = some (w, υ)) ∧ (f_X10_thrown υ = q_cd [1] e) ∧ (e = 0 → v = w) ∧ K υ
def w_ok_12 (σ : q_S) (a b c : Int32) (K : q_S → Prop) : Prop := ∃ (e : Nat) (v : Int32) (w : Int32) (υ : q_S), (f_X9_isInside σ (a) (b) (c) = some (e, v)) ∧ (e = 0 ∨ e = 1) ∧ (f_X10_isInside σ (a) (b) (c) = some (w, υ)) ∧ (f_X10_thrown υ = q_cd [1] e) ∧ (e = 0 → v = w) ∧ K υ
def w_ok_13 (σ : q_S) (a b c : Int32) (K : q_S → Prop) : Prop := ∃ (e : Nat) (v : Int32) (w : Int32) (υ : q_S), (f_X9_area σ (a) = some (e, v)) ∧ (e = 0 ∨ e = 1) ∧ (f_X10_area σ (a) = some (w, υ)) ∧ (f_X10_thrown υ = q_cd [1] e) ∧ (e = 0 → v = w) ∧ K υ
def w_ok_14 (σ : q_S) (a b c : Int32) (K : q_S → Prop) : Prop := ∃ (e : Nat) (v : Int32) (w : Int32) (υ : q_S), (f_X9_areaAgain σ (a) = some (e, v)) ∧ (e = 0 ∨ e = 1) ∧ (f_X10_areaAgain σ (a) = some (w, υ)) ∧ (f_X10_thrown υ = q_cd [1] e) ∧ (e = 0 → v = w) ∧ K υ
def w_ok_15 (σ : q_S) (a b c : Int32) (K : q_S → Prop) : Prop := ∃ (e : Nat) (v : Int32) (w : Int32) (τ : q_S) (υ : q_S), (f_X9_border σ (a) (b) = some (e, v, τ)) ∧ (e = 0 ∨ e = 1) ∧ (f_X10_border τ (a) (b) = some (w, υ)) ∧ (f_X10_thrown υ = q_cd [1] e) ∧ (e = 0 → v = w) ∧ K υ
def w_ok_16 (σ : q_S) (a b c : Int32) (K : q_S → Prop) : Prop := ∃ (e : Nat) (v : Int32) (w : Int32) (τ : q_S) (υ : q_S), (f_X9_borderAgain σ (a) (b) = some (e, v, τ)) ∧ (e = 0 ∨ e = 1) ∧ (f_X10_borderAgain τ (a) (b) = some (w, υ)) ∧ (f_X10_thrown υ = q_cd [1] e) ∧ (e = 0 → v = w) ∧ K υ
def w_ok_17 (σ : q_S) (a b c : Int32) (K : q_S → Prop) : Prop := ∃ (e : Nat) (v : Int32) (w : Int32) (τ : q_S) (υ : q_S), (f_X9_fence σ (a) = some (e, v, τ)) ∧ (e = 0 ∨ e = 1) ∧ (f_X10_fence τ (a) = some (w, υ)) ∧ (f_X10_thrown υ = q_cd [1] e) ∧ (e = 0 → v = w) ∧ K υ
def w_ok_18 (σ : q_S) (a b c : Int32) (K : q_S → Prop) : Prop := ∃ (e : Nat) (v : Int32) (w : Int32) (υ : q_S), (f_X9_closes σ (a) = (e, v)) ∧ (e = 0 ∨ e = 1 ∨ e = 4) ∧ (f_X10_closes σ (a) = some (w, υ)) ∧ (f_X10_thrown υ = q_cd [1, 4] e) ∧ (e = 0 → v = w) ∧ K υ
def w_ok_19 (σ : q_S) (a b c : Int32) (K : q_S → Prop) : Prop := ∃ (e : Nat) (v : Int32) (w : Int32) (τ : q_S) (υ : q_S), (f_X9_would σ (a) (b) = some (e, v, τ)) ∧ (e = 0 ∨ e = 1 ∨ e = 2) ∧ (f_X10_would τ (a) (b) = some (w, υ)) ∧ (f_X10_thrown υ = q_cd [1, 2] e) ∧ (e = 0 → v = w) ∧ K υ
def w_ok_20 (σ : q_S) (a b c : Int32) (K : q_S → Prop) : Prop := ∃ (e : Nat) (v : Int32) (w : Int32) (τ : q_S) (υ : q_S), (f_X9_ranked σ (a) = some (e, v, τ)) ∧ (e = 0 ∨ e = 4) ∧ (f_X10_ranked τ (a) = some (w, υ)) ∧ (f_X10_thrown υ = q_cd [4] e) ∧ (e = 0 → v = w) ∧ K υ
def w_ok_21 (σ : q_S) (a b c : Int32) (K : q_S → Prop) : Prop := ∃ (e : Nat) (v : Int32) (w : Int32) (υ : q_S), (f_X9_nextLit σ = some (e, v)) ∧ (e = 0 ∨ e = 4) ∧ (f_X10_nextLit σ = some (w, υ)) ∧ (f_X10_thrown υ = q_cd [4] e) ∧ (e = 0 → v = w) ∧ K υ
def w_ok_22 (σ : q_S) (a b c : Int32) (K : q_S → Prop) : Prop := ∃ (v : Int32) (w : Int32) (τ : q_S) (υ : q_S), (f_X9_isWell σ = some (v, τ)) ∧ (f_X10_isWell τ = (w, υ)) ∧ (v = w) ∧ K υ
def w_ok_23 (σ : q_S) (a b c : Int32) (K : q_S → Prop) : Prop := ∃ (e : Nat) (v : Int32) (w : Int32) (τ : q_S) (υ : q_S), (f_X9_type σ (((a).toUInt32 % 65536).toInt32) = some (e, v, τ)) ∧ (e = 0 ∨ e = 5) ∧ (f_X10_type τ (((a).toUInt32 % 65536).toInt32) = some (w, υ)) ∧ (f_X10_thrown υ = q_cd [5] e) ∧ (e = 0 → v = w) ∧ K υ
def w_ok_24 (σ : q_S) (a b c : Int32) (K : q_S → Prop) : Prop := ∃ (e : Nat) (v : Int32) (w : Int32) (τ : q_S) (υ : q_S), (f_X9_read σ = some (e, v, τ)) ∧ (e = 0 ∨ e = 2 ∨ e = 3) ∧ (f_X10_read τ = some (w, υ)) ∧ (f_X10_thrown υ = q_cd [2, 3] e) ∧ (e = 0 → v = w) ∧ K υ
def w_ok_25 (σ : q_S) (a b c : Int32) (K : q_S → Prop) : Prop := ∃ (e : Nat) (v : Int32) (w : Int32) (υ : q_S), (f_X9_errorPosition σ = (e, v)) ∧ (e = 0 ∨ e = 4) ∧ (f_X10_errorPosition σ = (w, υ)) ∧ (f_X10_thrown υ = q_cd [4] e) ∧ (e = 0 → v = w) ∧ K υ
def w_ok_26 (σ : q_S) (a b c : Int32) (K : q_S → Prop) : Prop := ∃ (e : Nat) (v : Int32) (w : Int32) (υ : q_S), (f_X9_refusal σ (q_bz (a)) (q_bz (b)) = (e, v)) ∧ (e = 0 ∨ e = 4) ∧ (f_X10_refusal σ (q_bz (a)) (q_bz (b)) = (w, υ)) ∧ (f_X10_thrown υ = q_cd [4] e) ∧ (e = 0 → v = w) ∧ K υ
def w_ok_27 (σ : q_S) (a b c : Int32) (K : q_S → Prop) : Prop := ∃ (e : Nat) (v : Int32) (w : Int32) (τ : q_S) (υ : q_S), (f_X9_show σ (a) = some (e, v, τ)) ∧ (e = 0 ∨ e = 1) ∧ (f_X10_show τ (a) = some (w, υ)) ∧ (f_X10_thrown υ = q_cd [1] e) ∧ (e = 0 → v = w) ∧ K υ
def w_ok_28 (σ : q_S) (a b c : Int32) (K : q_S → Prop) : Prop := ∃ (e : Nat) (v : Int32) (w : Int32) (τ : q_S) (υ : q_S), (f_X9_tell σ (a) = some (e, v, τ)) ∧ (e = 0 ∨ e = 1) ∧ (f_X10_tell τ (a) = some (w, υ)) ∧ (f_X10_thrown υ = q_cd [1] e) ∧ (e = 0 → v = w) ∧ K υ
def w_ok_29 (σ : q_S) (a b c : Int32) (K : q_S → Prop) : Prop := ∃ (e : Nat) (v : Int32) (w : Int32) (υ : q_S), (f_X9_written σ (a) = some (e, v)) ∧ (e = 0 ∨ e = 4) ∧ (f_X10_written σ (a) = some (w, υ)) ∧ (f_X10_thrown υ = q_cd [4] e) ∧ (e = 0 → v = w) ∧ K υ
def w_ok_30 (σ : q_S) (a b c : Int32) (K : q_S → Prop) : Prop := ∃ (e : Nat) (v : Int32) (w : Int32) (τ : q_S) (υ : q_S), (f_X9_account σ (a) = some (e, v, τ)) ∧ (e = 0 ∨ e = 2) ∧ (f_X10_account τ (a) = some (w, υ)) ∧ (f_X10_thrown υ = q_cd [2] e) ∧ (e = 0 → v = w) ∧ K υ
def w_ok_31 (σ : q_S) (a b c : Int32) (K : q_S → Prop) : Prop := ∃ (e : Nat) (v : UInt64) (w : UInt64) (υ : q_S), (f_X9_meanDepth σ = some (e, v)) ∧ (e = 0 ∨ e = 6) ∧ (f_X10_meanDepth σ = some (w, υ)) ∧ (f_X10_thrown υ = q_cd [6] e) ∧ (e = 0 → v = w) ∧ (e = 0 → q_n64 v = true) ∧ K υ
def w_ok_32 (σ : q_S) (a b c : Int32) (K : q_S → Prop) : Prop := ∃ (v : UInt32) (w : UInt32) (τ : q_S) (υ : q_S), (f_X9_ownedShare σ = some (v, τ)) ∧ (f_X10_ownedShare τ = some (w, υ)) ∧ (v = w) ∧ (q_n64 (FP.f2d v) = true) ∧ K υ
def w_ok_33 (σ : q_S) (a b c : Int32) (K : q_S → Prop) : Prop := ∃ (e : Nat) (v : Int32) (w : Int32) (τ : q_S) (υ : q_S), (f_X9_undo σ = some (e, v, τ)) ∧ (e = 0 ∨ e = 5) ∧ (f_X10_undo τ = some (w, υ)) ∧ (f_X10_thrown υ = q_cd [5] e) ∧ (e = 0 → v = w) ∧ K υ
def w_ok_34 (σ : q_S) (a b c : Int32) (K : q_S → Prop) : Prop := ∃ (v : Int32) (w : Int32) (τ : q_S) (υ : q_S), (f_X9_save σ = some (v, τ)) ∧ (f_X10_save τ = some (w, υ)) ∧ (v = w) ∧ K υ
def w_ok_35 (σ : q_S) (a b c : Int32) (K : q_S → Prop) : Prop := ∃ (e : Nat) (v : Int32) (w : Int32) (τ : q_S) (υ : q_S), (f_X9_restore σ = some (e, v, τ)) ∧ (e = 0 ∨ e = 5) ∧ (f_X10_restore τ = some (w, υ)) ∧ (f_X10_thrown υ = q_cd [5] e) ∧ (e = 0 → v = w) ∧ K υ
/-- what is to be shown of the two programs, a call after the other -/
def w_ok (σ : q_S) (o a b c : Int32) (K : q_S → Prop) : Prop := (o &&& 63 = 0 → w_ok_0 σ a b c K) ∧ (o &&& 63 = 1 → w_ok_1 σ a b c K) ∧ (o &&& 63 = 2 → w_ok_2 σ a b c K) ∧ (o &&& 63 = 3 → w_ok_3 σ a b c K) ∧ (o &&& 63 = 4 → w_ok_4 σ a b c K) ∧ (o &&& 63 = 5 → w_ok_5 σ a b c K) ∧ (o &&& 63 = 6 → w_ok_6 σ a b c K) ∧ (o &&& 63 = 7 → w_ok_7 σ a b c K) ∧ (o &&& 63 = 8 → w_ok_8 σ a b c K) ∧ (o &&& 63 = 9 → w_ok_9 σ a b c K) ∧ (o &&& 63 = 10 → w_ok_10 σ a b c K) ∧ (o &&& 63 = 11 → w_ok_11 σ a b c K) ∧ (o &&& 63 = 12 → w_ok_12 σ a b c K) ∧ (o &&& 63 = 13 → w_ok_13 σ a b c K) ∧ (o &&& 63 = 14 → w_ok_14 σ a b c K) ∧ (o &&& 63 = 15 → w_ok_15 σ a b c K) ∧ (o &&& 63 = 16 → w_ok_16 σ a b c K) ∧ (o &&& 63 = 17 → w_ok_17 σ a b c K) ∧ (o &&& 63 = 18 → w_ok_18 σ a b c K) ∧ (o &&& 63 = 19 → w_ok_19 σ a b c K) ∧ (o &&& 63 = 20 → w_ok_20 σ a b c K) ∧ (o &&& 63 = 21 → w_ok_21 σ a b c K) ∧ (o &&& 63 = 22 → w_ok_22 σ a b c K) ∧ (o &&& 63 = 23 → w_ok_23 σ a b c K) ∧ (o &&& 63 = 24 → w_ok_24 σ a b c K) ∧ (o &&& 63 = 25 → w_ok_25 σ a b c K) ∧ (o &&& 63 = 26 → w_ok_26 σ a b c K) ∧ (o &&& 63 = 27 → w_ok_27 σ a b c K) ∧ (o &&& 63 = 28 → w_ok_28 σ a b c K) ∧ (o &&& 63 = 29 → w_ok_29 σ a b c K) ∧ (o &&& 63 = 30 → w_ok_30 σ a b c K) ∧ (o &&& 63 = 31 → w_ok_31 σ a b c K) ∧ (o &&& 63 = 32 → w_ok_32 σ a b c K) ∧ (o &&& 63 = 33 → w_ok_33 σ a b c K) ∧ (o &&& 63 = 34 → w_ok_34 σ a b c K) ∧ (o &&& 63 = 35 → w_ok_35 σ a b c K) ∧ ((¬ o &&& 63 = 0 ∧ ¬ o &&& 63 = 1 ∧ ¬ o &&& 63 = 2 ∧ ¬ o &&& 63 = 3 ∧ ¬ o &&& 63 = 4 ∧ ¬ o &&& 63 = 5 ∧ ¬ o &&& 63 = 6 ∧ ¬ o &&& 63 = 7 ∧ ¬ o &&& 63 = 8 ∧ ¬ o &&& 63 = 9 ∧ ¬ o &&& 63 = 10 ∧ ¬ o &&& 63 = 11 ∧ ¬ o &&& 63 = 12 ∧ ¬ o &&& 63 = 13 ∧ ¬ o &&& 63 = 14 ∧ ¬ o &&& 63 = 15 ∧ ¬ o &&& 63 = 16 ∧ ¬ o &&& 63 = 17 ∧ ¬ o &&& 63 = 18 ∧ ¬ o &&& 63 = 19 ∧ ¬ o &&& 63 = 20 ∧ ¬ o &&& 63 = 21 ∧ ¬ o &&& 63 = 22 ∧ ¬ o &&& 63 = 23 ∧ ¬ o &&& 63 = 24 ∧ ¬ o &&& 63 = 25 ∧ ¬ o &&& 63 = 26 ∧ ¬ o &&& 63 = 27 ∧ ¬ o &&& 63 = 28 ∧ ¬ o &&& 63 = 29 ∧ ¬ o &&& 63 = 30 ∧ ¬ o &&& 63 = 31 ∧ ¬ o &&& 63 = 32 ∧ ¬ o &&& 63 = 33 ∧ ¬ o &&& 63 = 34 ∧ ¬ o &&& 63 = 35) → K σ)
set_option maxHeartbeats 8000000 in
set_option maxRecDepth 100000 in
theorem w_turn {X : q_X} {G : q_G} {x : q_A} {Q : State → Prop} {k n b L i : Nat} {xs : Nat → Int32} {σ : q_S} {K : q_S → Prop} (hx : q_Cx X G RL cL_law 10 20) (hNc : q_NcX X) (hs : q_Sc X G b L xs) (hkR : q_kR X (k + 1) (n + 6)) (hfl : (q_Xl X).stackTraces = false) (hiL : i + 4 ≤ L) (hL : L ≤ 2048) (hok : w_ok σ (xs i) (xs (i + 1)) (xs (i + 2)) (xs (i + 3)) K) (kk : ∀ (x : q_A) (υ : q_S), K υ → q_Wq X G x 10 Q (k + 1) (n + 6) 2353 [(0, .ref b), (1, .ref (G.2.1 + 0)), (2, .ref (G.2.1 + 292)), (3, .ref (G.2.1 + 303)), (4, .ref (G.2.1 + 304)), (5, .int (Int32.ofNat i))] [] υ) : q_Wq X G x 10 Q k n 37 [(0, .ref b), (1, .ref (G.2.1 + 0)), (2, .ref (G.2.1 + 292)), (3, .ref (G.2.1 + 303)), (4, .ref (G.2.1 + 304)), (5, .int (Int32.ofNat i))] [] σ := by
  obtain ⟨h0, h1, h2, h3, h4, h5, h6, h7, h8, h9, h10, h11, h12, h13, h14, h15, h16, h17, h18, h19, h20, h21, h22, h23, h24, h25, h26, h27, h28, h29, h30, h31, h32, h33, h34, h35, hd⟩ := hok
  refine q_aload_n hx dL_law_37 0 rfl ?_
  refine q_iload hx dL_law_38 5 rfl ?_
  refine q_sld (j := i) hx hs (q_ix0 (by omega)).1 (q_ix0 (by omega)).2 (by omega) dL_law_40 ?_
  refine q_bipush (v := 63) hx dL_law_41 (by decide) ?_
  refine q_iand hx dL_law_43 ?_
  by_cases g0 : xs i &&& 63 = 0
  · obtain ⟨e, v, w, τ, υ, qh1, qhe, qh2, qh3, qh4, hK⟩ := h0 g0
    refine q_tin hx 204 dL_law_44 (by rw [g0] <;> decide) (by rw [g0] <;> decide) (by rw [g0] <;> rfl) (by decide) ?_
    exact w_case_0 hx hNc hs hkR hfl hiL hL qh1 qhe qh2 qh3 qh4 (fun x => kk x _ hK)
  by_cases g1 : xs i &&& 63 = 1
  · obtain ⟨e, v, w, τ, υ, qh1, qhe, qh2, qh3, qh4, hK⟩ := h1 g1
    refine q_tin hx 260 dL_law_44 (by rw [g1] <;> decide) (by rw [g1] <;> decide) (by rw [g1] <;> rfl) (by decide) ?_
    exact w_case_1 hx hNc hs hkR hfl hiL hL qh1 qhe qh2 qh3 qh4 (fun x => kk x _ hK)
  by_cases g2 : xs i &&& 63 = 2
  · obtain ⟨e, v, w, τ, υ, qh1, qhe, qh2, qh3, qh4, hK⟩ := h2 g2
    refine q_tin hx 340 dL_law_44 (by rw [g2] <;> decide) (by rw [g2] <;> decide) (by rw [g2] <;> rfl) (by decide) ?_
    exact w_case_2 hx hNc hs hkR hfl hiL hL qh1 qhe qh2 qh3 qh4 (fun x => kk x _ hK)
  by_cases g3 : xs i &&& 63 = 3
  · obtain ⟨e, v, w, τ, υ, qh1, qhe, qh2, qh3, qh4, hK⟩ := h3 g3
    refine q_tin hx 420 dL_law_44 (by rw [g3] <;> decide) (by rw [g3] <;> decide) (by rw [g3] <;> rfl) (by decide) ?_
    exact w_case_3 hx hNc hs hkR hfl hiL hL qh1 qhe qh2 qh3 qh4 (fun x => kk x _ hK)
  by_cases g4 : xs i &&& 63 = 4
  · obtain ⟨e, v, w, τ, υ, qh1, qhe, qh2, qh3, qh4, hK⟩ := h4 g4
    refine q_tin hx 502 dL_law_44 (by rw [g4] <;> decide) (by rw [g4] <;> decide) (by rw [g4] <;> rfl) (by decide) ?_
    exact w_case_4 hx hNc hs hkR hfl hiL hL qh1 qhe qh2 qh3 qh4 (fun x => kk x _ hK)
  by_cases g5 : xs i &&& 63 = 5
  · obtain ⟨e, v, w, τ, υ, qh1, qhe, qh2, qh3, qh4, hK⟩ := h5 g5
    refine q_tin hx 582 dL_law_44 (by rw [g5] <;> decide) (by rw [g5] <;> decide) (by rw [g5] <;> rfl) (by decide) ?_
    exact w_case_5 hx hNc hs hkR hfl hiL hL qh1 qhe qh2 qh3 qh4 (fun x => kk x _ hK)
  by_cases g6 : xs i &&& 63 = 6
  · obtain ⟨e, v, w, τ, υ, qh1, qhe, qh2, qh3, qh4, hK⟩ := h6 g6
    refine q_tin hx 638 dL_law_44 (by rw [g6] <;> decide) (by rw [g6] <;> decide) (by rw [g6] <;> rfl) (by decide) ?_
    exact w_case_6 hx hNc hs hkR hfl hiL hL qh1 qhe qh2 qh3 qh4 (fun x => kk x _ hK)
  by_cases g7 : xs i &&& 63 = 7
  · obtain ⟨e, v, w, τ, υ, qh1, qhe, qh2, qh3, qh4, hK⟩ := h7 g7
    refine q_tin hx 706 dL_law_44 (by rw [g7] <;> decide) (by rw [g7] <;> decide) (by rw [g7] <;> rfl) (by decide) ?_
    exact w_case_7 hx hNc hs hkR hfl hiL hL qh1 qhe qh2 qh3 qh4 (fun x => kk x _ hK)
  by_cases g8 : xs i &&& 63 = 8
  · obtain ⟨e, v, w, τ, υ, qh1, qhe, qh2, qh3, qh4, hK⟩ := h8 g8
    refine q_tin hx 762 dL_law_44 (by rw [g8] <;> decide) (by rw [g8] <;> decide) (by rw [g8] <;> rfl) (by decide) ?_
    exact w_case_8 hx hNc hs hkR hfl hiL hL qh1 qhe qh2 qh3 qh4 (fun x => kk x _ hK)
  by_cases g9 : xs i &&& 63 = 9
  · obtain ⟨e, v, w, υ, qh1, qhe, qh2, qh3, qh4, hK⟩ := h9 g9
    refine q_tin hx 830 dL_law_44 (by rw [g9] <;> decide) (by rw [g9] <;> decide) (by rw [g9] <;> rfl) (by decide) ?_
    exact w_case_9 hx hNc hs hkR hfl hiL hL qh1 qhe qh2 qh3 qh4 (fun x => kk x _ hK)
  by_cases g10 : xs i &&& 63 = 10
  · obtain ⟨e, v, w, υ, qh1, qhe, qh2, qh3, qh4, hK⟩ := h10 g10
    refine q_tin hx 910 dL_law_44 (by rw [g10] <;> decide) (by rw [g10] <;> decide) (by rw [g10] <;> rfl) (by decide) ?_
    exact w_case_10 hx hNc hs hkR hfl hiL hL qh1 qhe qh2 qh3 qh4 (fun x => kk x _ hK)
  by_cases g11 : xs i &&& 63 = 11
  · obtain ⟨e, v, w, υ, qh1, qhe, qh2, qh3, qh4, hK⟩ := h11 g11
    refine q_tin hx 978 dL_law_44 (by rw [g11] <;> decide) (by rw [g11] <;> decide) (by rw [g11] <;> rfl) (by decide) ?_
    exact w_case_11 hx hNc hs hkR hfl hiL hL qh1 qhe qh2 qh3 qh4 (fun x => kk x _ hK)
  by_cases g12 : xs i &&& 63 = 12
  · obtain ⟨e, v, w, υ, qh1, qhe, qh2, qh3, qh4, hK⟩ := h12 g12
    refine q_tin hx 1046 dL_law_44 (by rw [g12] <;> decide) (by rw [g12] <;> decide) (by rw [g12] <;> rfl) (by decide) ?_
    exact w_case_12 hx hNc hs hkR hfl hiL hL qh1 qhe qh2 qh3 qh4 (fun x => kk x _ hK)
  by_cases g13 : xs i &&& 63 = 13
  · obtain ⟨e, v, w, υ, qh1, qhe, qh2, qh3, qh4, hK⟩ := h13 g13
    refine q_tin hx 1133 dL_law_44 (by rw [g13] <;> decide) (by rw [g13] <;> decide) (by rw [g13] <;> rfl) (by decide) ?_
    exact w_case_13 hx hNc hs hkR hfl hiL hL qh1 qhe qh2 qh3 qh4 (fun x => kk x _ hK)
  by_cases g14 : xs i &&& 63 = 14
  · obtain ⟨e, v, w, υ, qh1, qhe, qh2, qh3, qh4, hK⟩ := h14 g14
    refine q_tin hx 1189 dL_law_44 (by rw [g14] <;> decide) (by rw [g14] <;> decide) (by rw [g14] <;> rfl) (by decide) ?_
    exact w_case_14 hx hNc hs hkR hfl hiL hL qh1 qhe qh2 qh3 qh4 (fun x => kk x _ hK)
  by_cases g15 : xs i &&& 63 = 15
  · obtain ⟨e, v, w, τ, υ, qh1, qhe, qh2, qh3, qh4, hK⟩ := h15 g15
    refine q_tin hx 1245 dL_law_44 (by rw [g15] <;> decide) (by rw [g15] <;> decide) (by rw [g15] <;> rfl) (by decide) ?_
    exact w_case_15 hx hNc hs hkR hfl hiL hL qh1 qhe qh2 qh3 qh4 (fun x => kk x _ hK)
  by_cases g16 : xs i &&& 63 = 16
  · obtain ⟨e, v, w, τ, υ, qh1, qhe, qh2, qh3, qh4, hK⟩ := h16 g16
    refine q_tin hx 1313 dL_law_44 (by rw [g16] <;> decide) (by rw [g16] <;> decide) (by rw [g16] <;> rfl) (by decide) ?_
    exact w_case_16 hx hNc hs hkR hfl hiL hL qh1 qhe qh2 qh3 qh4 (fun x => kk x _ hK)
  by_cases g17 : xs i &&& 63 = 17
  · obtain ⟨e, v, w, τ, υ, qh1, qhe, qh2, qh3, qh4, hK⟩ := h17 g17
    refine q_tin hx 1381 dL_law_44 (by rw [g17] <;> decide) (by rw [g17] <;> decide) (by rw [g17] <;> rfl) (by decide) ?_
    exact w_case_17 hx hNc hs hkR hfl hiL hL qh1 qhe qh2 qh3 qh4 (fun x => kk x _ hK)
  by_cases g18 : xs i &&& 63 = 18
  · obtain ⟨e, v, w, υ, qh1, qhe, qh2, qh3, qh4, hK⟩ := h18 g18
    refine q_tin hx 1437 dL_law_44 (by rw [g18] <;> decide) (by rw [g18] <;> decide) (by rw [g18] <;> rfl) (by decide) ?_
    exact w_case_18 hx hNc hs hkR hfl hiL hL qh1 qhe qh2 qh3 qh4 (fun x => kk x _ hK)
  by_cases g19 : xs i &&& 63 = 19
  · obtain ⟨e, v, w, τ, υ, qh1, qhe, qh2, qh3, qh4, hK⟩ := h19 g19
    refine q_tin hx 1493 dL_law_44 (by rw [g19] <;> decide) (by rw [g19] <;> decide) (by rw [g19] <;> rfl) (by decide) ?_
    exact w_case_19 hx hNc hs hkR hfl hiL hL qh1 qhe qh2 qh3 qh4 (fun x => kk x _ hK)
  by_cases g20 : xs i &&& 63 = 20
  · obtain ⟨e, v, w, τ, υ, qh1, qhe, qh2, qh3, qh4, hK⟩ := h20 g20
    refine q_tin hx 1561 dL_law_44 (by rw [g20] <;> decide) (by rw [g20] <;> decide) (by rw [g20] <;> rfl) (by decide) ?_
    exact w_case_20 hx hNc hs hkR hfl hiL hL qh1 qhe qh2 qh3 qh4 (fun x => kk x _ hK)
  by_cases g21 : xs i &&& 63 = 21
  · obtain ⟨e, v, w, υ, qh1, qhe, qh2, qh3, qh4, hK⟩ := h21 g21
    refine q_tin hx 1617 dL_law_44 (by rw [g21] <;> decide) (by rw [g21] <;> decide) (by rw [g21] <;> rfl) (by decide) ?_
    exact w_case_21 hx hNc hs hkR hfl hiL hL qh1 qhe qh2 qh3 qh4 (fun x => kk x _ hK)
  by_cases g22 : xs i &&& 63 = 22
  · obtain ⟨v, w, τ, υ, qh1, qh2, qh4, hK⟩ := h22 g22
    refine q_tin hx 1661 dL_law_44 (by rw [g22] <;> decide) (by rw [g22] <;> decide) (by rw [g22] <;> rfl) (by decide) ?_
    exact w_case_22 hx hNc hs hkR hfl hiL hL qh1 qh2 qh4 (fun x => kk x _ hK)
  by_cases g23 : xs i &&& 63 = 23
  · obtain ⟨e, v, w, τ, υ, qh1, qhe, qh2, qh3, qh4, hK⟩ := h23 g23
    refine q_tin hx 1674 dL_law_44 (by rw [g23] <;> decide) (by rw [g23] <;> decide) (by rw [g23] <;> rfl) (by decide) ?_
    exact w_case_23 hx hNc hs hkR hfl hiL hL qh1 qhe qh2 qh3 qh4 (fun x => kk x _ hK)
  by_cases g24 : xs i &&& 63 = 24
  · obtain ⟨e, v, w, τ, υ, qh1, qhe, qh2, qh3, qh4, hK⟩ := h24 g24
    refine q_tin hx 1732 dL_law_44 (by rw [g24] <;> decide) (by rw [g24] <;> decide) (by rw [g24] <;> rfl) (by decide) ?_
    exact w_case_24 hx hNc hs hkR hfl hiL hL qh1 qhe qh2 qh3 qh4 (fun x => kk x _ hK)
  by_cases g25 : xs i &&& 63 = 25
  · obtain ⟨e, v, w, υ, qh1, qhe, qh2, qh3, qh4, hK⟩ := h25 g25
    refine q_tin hx 1776 dL_law_44 (by rw [g25] <;> decide) (by rw [g25] <;> decide) (by rw [g25] <;> rfl) (by decide) ?_
    exact w_case_25 hx hNc hs hkR hfl hiL hL qh1 qhe qh2 qh3 qh4 (fun x => kk x _ hK)
  by_cases g26 : xs i &&& 63 = 26
  · obtain ⟨e, v, w, υ, qh1, qhe, qh2, qh3, qh4, hK⟩ := h26 g26
    refine q_tin hx 1820 dL_law_44 (by rw [g26] <;> decide) (by rw [g26] <;> decide) (by rw [g26] <;> rfl) (by decide) ?_
    exact w_case_26 hx hNc hs hkR hfl hiL hL qh1 qhe qh2 qh3 qh4 (fun x => kk x _ hK)
  by_cases g27 : xs i &&& 63 = 27
  · obtain ⟨e, v, w, τ, υ, qh1, qhe, qh2, qh3, qh4, hK⟩ := h27 g27
    refine q_tin hx 1920 dL_law_44 (by rw [g27] <;> decide) (by rw [g27] <;> decide) (by rw [g27] <;> rfl) (by decide) ?_
    exact w_case_27 hx hNc hs hkR hfl hiL hL qh1 qhe qh2 qh3 qh4 (fun x => kk x _ hK)
  by_cases g28 : xs i &&& 63 = 28
  · obtain ⟨e, v, w, τ, υ, qh1, qhe, qh2, qh3, qh4, hK⟩ := h28 g28
    refine q_tin hx 1976 dL_law_44 (by rw [g28] <;> decide) (by rw [g28] <;> decide) (by rw [g28] <;> rfl) (by decide) ?_
    exact w_case_28 hx hNc hs hkR hfl hiL hL qh1 qhe qh2 qh3 qh4 (fun x => kk x _ hK)
  by_cases g29 : xs i &&& 63 = 29
  · obtain ⟨e, v, w, υ, qh1, qhe, qh2, qh3, qh4, hK⟩ := h29 g29
    refine q_tin hx 2032 dL_law_44 (by rw [g29] <;> decide) (by rw [g29] <;> decide) (by rw [g29] <;> rfl) (by decide) ?_
    exact w_case_29 hx hNc hs hkR hfl hiL hL qh1 qhe qh2 qh3 qh4 (fun x => kk x _ hK)
  by_cases g30 : xs i &&& 63 = 30
  · obtain ⟨e, v, w, τ, υ, qh1, qhe, qh2, qh3, qh4, hK⟩ := h30 g30
    refine q_tin hx 2088 dL_law_44 (by rw [g30] <;> decide) (by rw [g30] <;> decide) (by rw [g30] <;> rfl) (by decide) ?_
    exact w_case_30 hx hNc hs hkR hfl hiL hL qh1 qhe qh2 qh3 qh4 (fun x => kk x _ hK)
  by_cases g31 : xs i &&& 63 = 31
  · obtain ⟨e, v, w, υ, qh1, qhe, qh2, qh3, qh4, qh5, hK⟩ := h31 g31
    refine q_tin hx 2144 dL_law_44 (by rw [g31] <;> decide) (by rw [g31] <;> decide) (by rw [g31] <;> rfl) (by decide) ?_
    exact w_case_31 hx hNc hs hkR hfl hiL hL qh1 qhe qh2 qh3 qh4 qh5 (fun x => kk x _ hK)
  by_cases g32 : xs i &&& 63 = 32
  · obtain ⟨v, w, τ, υ, qh1, qh2, qh4, qh5, hK⟩ := h32 g32
    refine q_tin hx 2209 dL_law_44 (by rw [g32] <;> decide) (by rw [g32] <;> decide) (by rw [g32] <;> rfl) (by decide) ?_
    exact w_case_32 hx hNc hs hkR hfl hiL hL qh1 qh2 qh4 qh5 (fun x => kk x _ hK)
  by_cases g33 : xs i &&& 63 = 33
  · obtain ⟨e, v, w, τ, υ, qh1, qhe, qh2, qh3, qh4, hK⟩ := h33 g33
    refine q_tin hx 2252 dL_law_44 (by rw [g33] <;> decide) (by rw [g33] <;> decide) (by rw [g33] <;> rfl) (by decide) ?_
    exact w_case_33 hx hNc hs hkR hfl hiL hL qh1 qhe qh2 qh3 qh4 (fun x => kk x _ hK)
  by_cases g34 : xs i &&& 63 = 34
  · obtain ⟨v, w, τ, υ, qh1, qh2, qh4, hK⟩ := h34 g34
    refine q_tin hx 2296 dL_law_44 (by rw [g34] <;> decide) (by rw [g34] <;> decide) (by rw [g34] <;> rfl) (by decide) ?_
    exact w_case_34 hx hNc hs hkR hfl hiL hL qh1 qh2 qh4 (fun x => kk x _ hK)
  by_cases g35 : xs i &&& 63 = 35
  · obtain ⟨e, v, w, τ, υ, qh1, qhe, qh2, qh3, qh4, hK⟩ := h35 g35
    refine q_tin hx 2309 dL_law_44 (by rw [g35] <;> decide) (by rw [g35] <;> decide) (by rw [g35] <;> rfl) (by decide) ?_
    exact w_case_35 hx hNc hs hkR hfl hiL hL qh1 qhe qh2 qh3 qh4 (fun x => kk x _ hK)
  have t0 := lv_neT (k := 0) (a := 0) g0 (by decide)
  have t1 := lv_neT (k := 1) (a := 1) g1 (by decide)
  have t2 := lv_neT (k := 2) (a := 2) g2 (by decide)
  have t3 := lv_neT (k := 3) (a := 3) g3 (by decide)
  have t4 := lv_neT (k := 4) (a := 4) g4 (by decide)
  have t5 := lv_neT (k := 5) (a := 5) g5 (by decide)
  have t6 := lv_neT (k := 6) (a := 6) g6 (by decide)
  have t7 := lv_neT (k := 7) (a := 7) g7 (by decide)
  have t8 := lv_neT (k := 8) (a := 8) g8 (by decide)
  have t9 := lv_neT (k := 9) (a := 9) g9 (by decide)
  have t10 := lv_neT (k := 10) (a := 10) g10 (by decide)
  have t11 := lv_neT (k := 11) (a := 11) g11 (by decide)
  have t12 := lv_neT (k := 12) (a := 12) g12 (by decide)
  have t13 := lv_neT (k := 13) (a := 13) g13 (by decide)
  have t14 := lv_neT (k := 14) (a := 14) g14 (by decide)
  have t15 := lv_neT (k := 15) (a := 15) g15 (by decide)
  have t16 := lv_neT (k := 16) (a := 16) g16 (by decide)
  have t17 := lv_neT (k := 17) (a := 17) g17 (by decide)
  have t18 := lv_neT (k := 18) (a := 18) g18 (by decide)
  have t19 := lv_neT (k := 19) (a := 19) g19 (by decide)
  have t20 := lv_neT (k := 20) (a := 20) g20 (by decide)
  have t21 := lv_neT (k := 21) (a := 21) g21 (by decide)
  have t22 := lv_neT (k := 22) (a := 22) g22 (by decide)
  have t23 := lv_neT (k := 23) (a := 23) g23 (by decide)
  have t24 := lv_neT (k := 24) (a := 24) g24 (by decide)
  have t25 := lv_neT (k := 25) (a := 25) g25 (by decide)
  have t26 := lv_neT (k := 26) (a := 26) g26 (by decide)
  have t27 := lv_neT (k := 27) (a := 27) g27 (by decide)
  have t28 := lv_neT (k := 28) (a := 28) g28 (by decide)
  have t29 := lv_neT (k := 29) (a := 29) g29 (by decide)
  have t30 := lv_neT (k := 30) (a := 30) g30 (by decide)
  have t31 := lv_neT (k := 31) (a := 31) g31 (by decide)
  have t32 := lv_neT (k := 32) (a := 32) g32 (by decide)
  have t33 := lv_neT (k := 33) (a := 33) g33 (by decide)
  have t34 := lv_neT (k := 34) (a := 34) g34 (by decide)
  have t35 := lv_neT (k := 35) (a := 35) g35 (by decide)
  refine q_tout hx 2353 dL_law_44 (by omega) (by decide) ?_
  refine q_Wq.widen (k2 := k + 1) (n2 := n + 6) (Nat.le_add_right _ _) (Nat.le_add_right _ _) ?_
  exact kk x _ (hd ⟨g0, g1, g2, g3, g4, g5, g6, g7, g8, g9, g10, g11, g12, g13, g14, g15, g16, g17, g18, g19, g20, g21, g22, g23, g24, g25, g26, g27, g28, g29, g30, g31, g32, g33, g34, g35⟩)
/-! the law's entry, and its loop -/
theorem w_lw {G : q_G} {x : q_A} : q_lw G 0 q_NC (q_fin G x) = q_wl G q_s0 x := by
  unfold q_lw q_wl
  refine List.map_congr_left (fun i _ => ?_)
  rw [Nat.zero_add]
  rfl
section
variable {X : q_X} {G : q_G} {x : q_A} {lo nL d kc ks : Nat} {Q : State → Prop} {k n pc : Nat} {lv : List (Nat × Value)} {st : List Value} {hi : Nat} {e : Nat → va_E} {own : String} {cc : ByteArray}
theorem qk_astore_n {i : Fin 4} {v : Nat} (hx : q_Cc X G own cc nL d kc ks lo) (lv2 : List (Nat × Value)) (hd : decode cc pc = .ok (.astore_n i, 1)) (hn : i.val < nL) (hl2 : (i.val, .ref v) :: lv.filter (fun q => !(q.1 == i.val) && !(q.1 + 1 == i.val && q.2.category == 2)) = lv2) (kk : q_Wc X G lo nL Q k n (pc + 1) lv2 st hi e) : q_Wc X G lo nL Q k n pc lv (.ref v :: st) hi e := by
  obtain ⟨p, l, en, R, s, m, args, below, meth, c⟩ := X
  intro H locs ls hz hP hS hl
  exact lv_astore_n hx.1 hx.2.1 hd rfl hl hn hl2 (fun ls hl => kk H locs ls hz hP hS hl)
theorem qk_astore {i : Nat} {v : Nat} (hx : q_Cc X G own cc nL d kc ks lo) (lv2 : List (Nat × Value)) (hd : decode cc pc = .ok (.astore i, 2)) (hn : i < nL) (hl2 : (i, .ref v) :: lv.filter (fun q => !(q.1 == i) && !(q.1 + 1 == i && q.2.category == 2)) = lv2) (kk : q_Wc X G lo nL Q k n (pc + 2) lv2 st hi e) : q_Wc X G lo nL Q k n pc lv (.ref v :: st) hi e := by
  obtain ⟨p, l, en, R, s, m, args, below, meth, c⟩ := X
  intro H locs ls hz hP hS hl
  exact lv_astore hx.1 hx.2.1 hd hl hn hl2 (fun ls hl => kk H locs ls hz hP hS hl)
theorem qk_naL {i : Int32} {t : Nat} (hx : q_Cc X G own cc nL d kc ks lo) (hw : q_ig (.arrayClass .long)) (ht : (q_tys G)[t]? = some (G.2.2.1 t, .long)) (hi1 : i = 1) (hk : k + 1 ≤ kc) (hn : n + 1 ≤ ks) (hd : decode cc pc = .ok (.newarray .long, 2)) (hlh : lo ≤ hi) (he : e hi = .inl (G.2.2.1 t, 1, .inr (.inl (fun _ => 0))))
    (kk : q_Wc X G lo nL Q (k + 1) (n + 1) (pc + 2) lv (.ref (G.2.1 + hi) :: st) (hi + 1) e) : q_Wc X G lo nL Q k n pc lv (.int i :: st) hi e := by
  obtain ⟨p, l, en, R, s, m, args, below, meth, c0⟩ := X
  subst hi1
  intro H locs ls hz hP hS hl
  obtain ⟨hexec, hb, hml, hown, hlk, hroom, ⟨hkr1, hkr2⟩, ⟨hAw, hAg⟩, hK, hini, hlo⟩ := hx
  refine va_newaK (atype := .long) (N := 1) hexec hb (hAg.use hw) rfl hd rfl (by decide) (by decide) (by decide) (by omega) (by omega) rfl fun H1 cA e1 z1 o1 hAr hNm => ?_
  have hRt : s.vm.findClass ("[" ++ FieldType.long.toString) = some (G.2.2.1 t) := (hK.2 t _ ht).2
  have hcA : cA = G.2.2.1 t := Option.some.inj (hNm.symm.trans hRt)
  subst hcA
  rw [hz] at e1 z1 o1 ⊢
  refine kk H1 locs ls (by omega) (q_lw_P.mpr (fun c g1 g2 => ?_)) ⟨Nat.le_trans hS.1 (by omega), fun y h1 h2 => (o1 y (by have := hS.1; omega)).trans (hS.2.1 y h1 h2), hS.2.2⟩ hl
  by_cases hc : c = hi
  · subst hc
    rw [he]
    show H1[G.2.1 + c]? = some (vp_cell _ _)
    rw [e1, vp_cell_l]
    rfl
  · exact (q_lw_P.mp hP c g1 (by omega)).kept (o1 _ (by omega))
theorem qk_naD {i : Int32} {t : Nat} (hx : q_Cc X G own cc nL d kc ks lo) (hw : q_ig (.arrayClass .double)) (ht : (q_tys G)[t]? = some (G.2.2.1 t, .double)) (hi1 : i = 1) (hk : k + 1 ≤ kc) (hn : n + 1 ≤ ks) (hd : decode cc pc = .ok (.newarray .double, 2)) (hlh : lo ≤ hi) {z0 : UInt64} (hz0 : defaultValue .double = .double z0) (he : e hi = .inl (G.2.2.1 t, 1, .inr (.inr (.inr (.inl (fun _ => z0))))))
    (kk : q_Wc X G lo nL Q (k + 1) (n + 1) (pc + 2) lv (.ref (G.2.1 + hi) :: st) (hi + 1) e) : q_Wc X G lo nL Q k n pc lv (.int i :: st) hi e := by
  obtain ⟨p, l, en, R, s, m, args, below, meth, c0⟩ := X
  subst hi1
  intro H locs ls hz hP hS hl
  obtain ⟨hexec, hb, hml, hown, hlk, hroom, ⟨hkr1, hkr2⟩, ⟨hAw, hAg⟩, hK, hini, hlo⟩ := hx
  refine va_newaK (atype := .double) (N := 1) hexec hb (hAg.use hw) rfl hd rfl (by decide) (by decide) (by decide) (by omega) (by omega) rfl fun H1 cA e1 z1 o1 hAr hNm => ?_
  have hRt : s.vm.findClass ("[" ++ FieldType.double.toString) = some (G.2.2.1 t) := (hK.2 t _ ht).2
  have hcA : cA = G.2.2.1 t := Option.some.inj (hNm.symm.trans hRt)
  subst hcA
  rw [hz] at e1 z1 o1 ⊢
  refine kk H1 locs ls (by omega) (q_lw_P.mpr (fun c g1 g2 => ?_)) ⟨Nat.le_trans hS.1 (by omega), fun y h1 h2 => (o1 y (by have := hS.1; omega)).trans (hS.2.1 y h1 h2), hS.2.2⟩ hl
  by_cases hc : c = hi
  · subst hc
    rw [he]
    show H1[G.2.1 + c]? = some (vp_cell _ _)
    rw [e1, vp_cell_d]
    unfold arrV
    congr 3
    funext q
    exact hz0
  · exact (q_lw_P.mp hP c g1 (by omega)).kept (o1 _ (by omega))
end
theorem w_tx_ne : ∀ i, i < 8 → ∀ j, j < 8 → i ≠ j → q_len.getD i 0 ≠ q_len.getD j 0 ∨ ∃ k, k < q_len.getD i 0 ∧ (q_byt.getD i []).getD k 0 ≠ (q_byt.getD j []).getD k 0 := by
  have h : ∀ i, i < 8 → ∀ j, j < 8 → i ≠ j → q_len.getD i 0 ≠ q_len.getD j 0 ∨ (List.range (q_len.getD i 0)).any (fun k => decide ((q_byt.getD i []).getD k 0 ≠ (q_byt.getD j []).getD k 0)) = true := by decide +kernel
  intro i hi j hj hij
  rcases h i hi j hj hij with h | h
  · exact Or.inl h
  · obtain ⟨k, hk, h2⟩ := List.any_eq_true.mp h
    exact Or.inr ⟨k, List.mem_range.mp hk, of_decide_eq_true h2⟩
theorem w_texts {args : Array Value} {s : State} {A : Nat → Prop} (hs : ∀ w ∈ q_fl, w.before args s = true) (hA : ∀ a : Nat, a < s.heap.size → ¬ A a) : ∃ adK adV : Nat → Nat, vk_S 8 q_len q_byt adK adV A s s.heap ∧ ∀ i : Nat, i < 8 → (q_tm i).eval args s none [] s = some (.ref (adK i)) := by
  have one : ∀ i : Nat, ∃ q : Nat × Nat, i < 8 → (va_O "java/lang/String" q.1 A s s.heap ∧ va_OF "java/lang/String" "coder" "B" (.int 0) q.1 A s s.heap ∧ va_OF "java/lang/String" "value" "[B" (.ref q.2) q.1 A s s.heap ∧ va_T .byte q.2 (q_len.getD i 0) (fun j => .int ((q_byt.getD i []).getD j 0)) A s s.heap) ∧ (q_tm i).eval args s none [] s = some (.ref q.1) := by
    intro i
    by_cases hi : i < 8
    · have hlt := q_lt8 hi
      obtain ⟨k, v, h1, h2⟩ := vk_Sof (N := 1) (tm := fun _ => q_tm i) (len := [q_len.getD i 0]) (byt := [q_byt.getD i []]) (A := A) (args := args) (s := s)
        (fun j hj => by rw [show j = 0 by omega]; show q_len.getD i 0 < 2 ^ 31; omega) (fun _ _ => hs _ (w_tx_ex i hi)) (fun _ _ => hs _ (w_tx_co i hi)) (fun _ _ => hs _ (w_tx_ar i hi))
        (fun j hj => by rw [show j = 0 by omega]; exact hs _ (w_tx_le i hi)) (fun j hj c hc => by rw [show j = 0 by omega] at hc ⊢; exact hs _ (w_tx_el i hi c hc)) (fun a b ha hb hab => by omega) hA
      exact ⟨(k 0, v 0), fun _ => ⟨h1.1 0 (by decide), h2 0 (by decide)⟩⟩
    · exact ⟨(0, 0), fun h => absurd h hi⟩
  obtain ⟨ad, had⟩ := Classical.axiomOfChoice one
  refine ⟨fun i => (ad i).1, fun i => (ad i).2, ⟨fun i hi => (had i hi).1, fun i j hi hj e => Decidable.byContradiction (fun hij => ?_)⟩, fun i hi => (had i hi).2⟩
  have e : (ad i).1 = (ad j).1 := e
  obtain ⟨-, -, ⟨cf, k, n, f, cell, f1, f2, f3, f4, f5, f6⟩, ⟨ca, g1, g2, g3, g4, g5, g6, g7⟩⟩ := (had i hi).1
  obtain ⟨-, -, ⟨cf', k', n', f', cell', f1', f2', f3', f4', f5', f6'⟩, ⟨ca', g1', g2', g3', g4', g5', g6', g7'⟩⟩ := (had j hj).1
  have hf : f = f' := by
    have h := f1.symm.trans f1'
    simp at h
    exact h.2.2.2
  subst hf
  rw [← e] at f3'
  cases Option.some.inj (f3.symm.trans f3')
  have hv : (ad i).2 = (ad j).2 := by
    have h := f5.symm.trans f5'
    simp at h
    exact h
  rw [← hv] at g1'
  cases Option.some.inj (g1.symm.trans g1')
  have hl : q_len.getD i 0 = q_len.getD j 0 := by
    have h := g5.symm.trans g5'
    have h1 := q_lt8 hi
    have h2 := q_lt8 hj
    have h3 : (Int32.ofNat (q_len.getD i 0)).toInt = (Int32.ofNat (q_len.getD j 0)).toInt := by rw [h]
    rw [Int32.toInt_ofNat_of_lt (by omega), Int32.toInt_ofNat_of_lt (by omega)] at h3
    omega
  rcases w_tx_ne i hi j hj hij with h | ⟨c, hc, h⟩
  · exact h hl
  · have h1 := (g6 c hc).symm.trans (g6' c (by omega))
    simp at h1
    exact h h1
theorem w_prim {args : Array Value} {s : State} {ty : FieldType} (h : (Cond.arrayClass ty).before args s = true) (hty : ∀ (U : State) (cA : ClassId), va_RA U cA ty = (U.vm.findClass ("[" ++ ty.toString) = some cA)) : ∃ cA : ClassId, ArrOfT s cA ty ∧ va_RA s cA ty := by
  obtain ⟨c, k, comp, h1, h2, h3⟩ := Cond.arrayClass_spec (args := args) (first := s) (o := none) (s := s) (idx := []) h
  exact ⟨c, fun n z => ⟨fun k h => (by cases h), k, h2, comp, h3⟩, by rw [hty]; exact h1⟩
theorem w_obj {args : Array Value} {s : State} {C : String} (h : (Cond.arrayOver (.object C)).before args s = true) : ∃ cA : ClassId, ArrOfT s cA (.object C) ∧ va_RA s cA (.object C) := by
  obtain ⟨comp, c, k, h1, h2, h3, h4, h5⟩ := Cond.arrayOver_spec (args := args) (first := s) (o := none) (s := s) (idx := []) h
  exact ⟨c, fun n z => ⟨fun k h => (by cases h), k, h3, comp, h4⟩, k, comp, h3, h4, h1, h5⟩
