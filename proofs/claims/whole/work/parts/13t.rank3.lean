/-! every place is held -/
theorem ab_onto5 : ∀ a b c d e p : Fin 5, a ≠ b → a ≠ c → a ≠ d → a ≠ e → b ≠ c → b ≠ d → b ≠ e → c ≠ d → c ≠ e → d ≠ e → p = a ∨ p = b ∨ p = c ∨ p = d ∨ p = e := by decide +kernel
/-- numbers below n, no two alike, n of them: all are among them (n at most 5) -/
theorem ab_onto {f : Nat → Nat} {n : Nat} (hn : n ≤ 5) (hf : ∀ s, s < n → f s < n) (hi : ∀ o s, o < n → s < n → f o = f s → o = s) {p : Nat} (hp : p < n) : ∃ s, s < n ∧ f s = p := by
  let g : Nat → Nat := fun s => if s < n then f s else s
  have g5 : ∀ s, s < 5 → g s < 5 := fun s hs => by
    show (if s < n then f s else s) < 5
    split
    · have := hf s (by assumption); omega
    · exact hs
  have gi : ∀ o s, o < 5 → s < 5 → o ≠ s → g o ≠ g s := fun o s ho hs hne he => by
    have he : (if o < n then f o else o) = (if s < n then f s else s) := he
    by_cases q1 : o < n
    · by_cases q2 : s < n
      · rw [if_pos q1, if_pos q2] at he
        exact hne (hi o s q1 q2 he)
      · rw [if_pos q1, if_neg q2] at he
        have := hf o q1
        omega
    · by_cases q2 : s < n
      · rw [if_neg q1, if_pos q2] at he
        have := hf s q2
        omega
      · rw [if_neg q1, if_neg q2] at he
        exact hne he
  have ne : ∀ o s (ho : o < 5) (hs : s < 5), o ≠ s → (⟨g o, g5 o ho⟩ : Fin 5) ≠ ⟨g s, g5 s hs⟩ := fun o s ho hs h e => gi o s ho hs h (congrArg Fin.val e)
  have h := ab_onto5 ⟨g 0, g5 0 (by decide)⟩ ⟨g 1, g5 1 (by decide)⟩ ⟨g 2, g5 2 (by decide)⟩ ⟨g 3, g5 3 (by decide)⟩ ⟨g 4, g5 4 (by decide)⟩ ⟨p, by omega⟩ (ne 0 1 (by decide) (by decide) (by decide)) (ne 0 2 (by decide) (by decide) (by decide)) (ne 0 3 (by decide) (by decide) (by decide)) (ne 0 4 (by decide) (by decide) (by decide)) (ne 1 2 (by decide) (by decide) (by decide)) (ne 1 3 (by decide) (by decide) (by decide)) (ne 1 4 (by decide) (by decide) (by decide)) (ne 2 3 (by decide) (by decide) (by decide)) (ne 2 4 (by decide) (by decide) (by decide)) (ne 3 4 (by decide) (by decide) (by decide))
  have key : ∀ s, s < 5 → p = g s → ∃ s, s < n ∧ f s = p := fun s hs e => by
    have e : p = (if s < n then f s else s) := e
    by_cases q : s < n
    · rw [if_pos q] at e
      exact ⟨s, q, e.symm⟩
    · rw [if_neg q] at e
      omega
  rcases h with h | h | h | h | h
  · exact key 0 (by decide) (congrArg Fin.val h)
  · exact key 1 (by decide) (congrArg Fin.val h)
  · exact key 2 (by decide) (congrArg Fin.val h)
  · exact key 3 (by decide) (congrArg Fin.val h)
  · exact key 4 (by decide) (congrArg Fin.val h)
