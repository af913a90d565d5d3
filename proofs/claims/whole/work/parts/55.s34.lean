/-! kept -/
theorem isK (μ μ' : Mem) (x : Int32) : (∃ q, q < 8 ∧ x = nI q ∧ (∀ d, M (d + 2) 69 [.inl x] μ (some 1, μ)) ∧ ∀ d, M (d + 2) 76 [.inl x] μ' (some 1, μ')) ∨ ((∀ d, M (d + 2) 69 [.inl x] μ (some 0, μ)) ∧ ∀ d, M (d + 2) 76 [.inl x] μ' (some 0, μ')) := by
  have c := fun d => T_within (d := d) (μ := μ) (x := x) (a := 0) (b := 7)
  have c' := fun d => T_mwithin (d := d) (μ := μ') (x := x) (a := 0) (b := 7)
  by_cases h : x < 0 ∨ 7 < x
  · rw [if_pos h] at c c'
    exact Or.inr ⟨fun d => M69 ⟨0, μ, c d, Or.inl rfl, rfl⟩, fun d => M76 ⟨0, μ', c' d, Or.inl rfl, rfl⟩⟩
  · rw [if_neg h] at c c'
    obtain ⟨q, q1, q2, e⟩ := nI_btw (x := x) (a := 0) (b := 7) (by decide) (by decide) (fun e => h (Or.inl e)) (fun e => h (Or.inr e))
    exact Or.inl ⟨q, by omega, e, fun d => M69 ⟨1, μ, c d, Or.inr rfl, rfl⟩, fun d => M76 ⟨1, μ', c' d, Or.inr rfl, rfl⟩⟩
