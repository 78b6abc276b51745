/-! what the Statement gives of the start -/
def q_fl : List Cond := flatC (Jvm.Cond.and given_1 narrow_1)
def q_tm (i : Nat) : Term := .string "DreamPlots$Commands" ((q_forms.getD i (0, "")).1)
theorem w_tx_ex : ∀ i, i < 8 → (Cond.exactly (q_tm i) "java/lang/String") ∈ q_fl := by decide +kernel
theorem w_tx_co : ∀ i, i < 8 → (Cond.eq (.field (q_tm i) "java/lang/String" "coder" "B") (.int 0)) ∈ q_fl := by decide +kernel
theorem w_tx_ar : ∀ i, i < 8 → (Cond.arrayOf (.field (q_tm i) "java/lang/String" "value" "[B") .byte) ∈ q_fl := by decide +kernel
theorem w_tx_le : ∀ i, i < 8 → (Cond.eq (.length (.field (q_tm i) "java/lang/String" "value" "[B")) (.int (Int32.ofNat (q_len.getD i 0)))) ∈ q_fl := by decide +kernel
theorem w_tx_el0 : ∀ j, j < q_len.getD 0 0 → (Cond.eq (.elem (.field (q_tm 0) "java/lang/String" "value" "[B") (.int (Int32.ofNat j))) (.int ((q_byt.getD 0 []).getD j 0))) ∈ q_fl := by decide +kernel
theorem w_tx_el1 : ∀ j, j < q_len.getD 1 0 → (Cond.eq (.elem (.field (q_tm 1) "java/lang/String" "value" "[B") (.int (Int32.ofNat j))) (.int ((q_byt.getD 1 []).getD j 0))) ∈ q_fl := by decide +kernel
theorem w_tx_el2 : ∀ j, j < q_len.getD 2 0 → (Cond.eq (.elem (.field (q_tm 2) "java/lang/String" "value" "[B") (.int (Int32.ofNat j))) (.int ((q_byt.getD 2 []).getD j 0))) ∈ q_fl := by decide +kernel
theorem w_tx_el3 : ∀ j, j < q_len.getD 3 0 → (Cond.eq (.elem (.field (q_tm 3) "java/lang/String" "value" "[B") (.int (Int32.ofNat j))) (.int ((q_byt.getD 3 []).getD j 0))) ∈ q_fl := by decide +kernel
theorem w_tx_el4 : ∀ j, j < q_len.getD 4 0 → (Cond.eq (.elem (.field (q_tm 4) "java/lang/String" "value" "[B") (.int (Int32.ofNat j))) (.int ((q_byt.getD 4 []).getD j 0))) ∈ q_fl := by decide +kernel
theorem w_tx_el5 : ∀ j, j < q_len.getD 5 0 → (Cond.eq (.elem (.field (q_tm 5) "java/lang/String" "value" "[B") (.int (Int32.ofNat j))) (.int ((q_byt.getD 5 []).getD j 0))) ∈ q_fl := by decide +kernel
theorem w_tx_el6 : ∀ j, j < q_len.getD 6 0 → (Cond.eq (.elem (.field (q_tm 6) "java/lang/String" "value" "[B") (.int (Int32.ofNat j))) (.int ((q_byt.getD 6 []).getD j 0))) ∈ q_fl := by decide +kernel
theorem w_tx_el7 : ∀ j, j < q_len.getD 7 0 → (Cond.eq (.elem (.field (q_tm 7) "java/lang/String" "value" "[B") (.int (Int32.ofNat j))) (.int ((q_byt.getD 7 []).getD j 0))) ∈ q_fl := by decide +kernel
theorem w_tx_el : ∀ i, i < 8 → ∀ j, j < q_len.getD i 0 → (Cond.eq (.elem (.field (q_tm i) "java/lang/String" "value" "[B") (.int (Int32.ofNat j))) (.int ((q_byt.getD i []).getD j 0))) ∈ q_fl := by
  intro i hi
  rcases (show i = 0 ∨ i = 1 ∨ i = 2 ∨ i = 3 ∨ i = 4 ∨ i = 5 ∨ i = 6 ∨ i = 7 by omega) with rfl | rfl | rfl | rfl | rfl | rfl | rfl | rfl
  · exact w_tx_el0
  · exact w_tx_el1
  · exact w_tx_el2
  · exact w_tx_el3
  · exact w_tx_el4
  · exact w_tx_el5
  · exact w_tx_el6
  · exact w_tx_el7
theorem w_nc : ∀ a ∈ q_nm, ∀ b ∈ q_nm, a ≠ b → (Cond.not (.castable a b)) ∈ q_fl := by
  have h : ∀ i, i < 6 → ∀ j, j < 6 → i ≠ j → (Cond.not (.castable (q_nm.getD i "") (q_nm.getD j ""))) ∈ q_fl := by decide +kernel
  intro a ha b hb hab
  obtain ⟨i, hi⟩ := List.getElem?_of_mem ha
  obtain ⟨j, hj⟩ := List.getElem?_of_mem hb
  have hi6 : i < 6 := (List.getElem?_eq_some_iff.mp hi).1
  have hj6 : j < 6 := (List.getElem?_eq_some_iff.mp hj).1
  have h2 := h i hi6 j hj6 (fun z => by subst z; exact hab (Option.some.inj (hi.symm.trans hj)))
  rw [List.getD_eq_getElem?_getD, List.getD_eq_getElem?_getD, hi, hj] at h2
  exact h2
theorem w_st1 : (Cond.isRef (.static Bundle.tN "UNASSIGNED_STACK" Bundle.steD)) ∈ q_fl := by decide +kernel
theorem w_st2 : (Cond.isRef (.static Bundle.tN "SUPPRESSED_SENTINEL" Bundle.listD)) ∈ q_fl := by decide +kernel
theorem w_st3 : (Cond.eq (.static "java/lang/String" "COMPACT_STRINGS" "Z") (.int 1)) ∈ q_fl := by decide +kernel
theorem w_st4 : (Cond.isRef (.static "jdk/internal/util/Preconditions" "SIOOBE_FORMATTER" "Ljava/util/function/BiFunction;")) ∈ q_fl := by decide +kernel
theorem w_strs1 : ∀ i, i < q_strs.length → (Cond.exactly (.string (q_strs.getD i ("", 0, "")).1 (q_strs.getD i ("", 0, "")).2.1) "java/lang/String") ∈ q_fl := by decide +kernel
theorem w_strs2 : ∀ i, i < q_strs.length → (Cond.stringRef (q_strs.getD i ("", 0, "")).1 (q_strs.getD i ("", 0, "")).2.1 (q_strs.getD i ("", 0, "")).2.2) ∈ lw_tbl := by decide +kernel
theorem w_strs3 : ∀ i, i < 8 → (Cond.stringRef "DreamPlots$Commands" (q_forms.getD i (0, "")).1 (q_forms.getD i (0, "")).2) ∈ lw_tbl := by decide +kernel
theorem w_ls1 : (Cond.laysStatic Bundle.tN "UNASSIGNED_STACK" Bundle.steD) ∈ lw_tbl ∧ (Cond.laysStatic Bundle.tN "SUPPRESSED_SENTINEL" Bundle.listD) ∈ lw_tbl ∧ (Cond.laysStatic "java/lang/String" "COMPACT_STRINGS" "Z") ∈ lw_tbl ∧ (Cond.laysStatic "jdk/internal/util/Preconditions" "SIOOBE_FORMATTER" "Ljava/util/function/BiFunction;") ∈ lw_tbl := by decide +kernel
theorem w_ls2 : (Cond.initialized Bundle.tN) ∈ lw_tbl ∧ (Cond.initialized "java/lang/String") ∈ lw_tbl ∧ (Cond.initialized "jdk/internal/util/Preconditions") ∈ lw_tbl := by decide +kernel
theorem w_ac1 : (Cond.arrayClass .int) ∈ lw_tbl ∧ (Cond.arrayClass .char) ∈ lw_tbl ∧ (Cond.arrayClass .boolean) ∈ lw_tbl ∧ (Cond.arrayClass .long) ∈ lw_tbl ∧ (Cond.arrayClass .double) ∈ lw_tbl ∧ (Cond.arrayOver (.object RX6)) ∈ lw_tbl ∧ (Cond.arrayOver (.object RX2)) ∈ lw_tbl := by decide +kernel
