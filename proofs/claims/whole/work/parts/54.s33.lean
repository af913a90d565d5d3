/-! questions: services, keys, price -/
theorem isS {μ μ' : Mem} {ns : Nat} (hns : ns ≤ 6) (hc1 : μ 1 1 0 1 = nI ns) (hm2 : μ' 3 40 0 2 = nI ns) (x : Int32) : (∃ s, s < ns ∧ x = nI s ∧ (∀ d, M (d + 2) 68 [.inr (0, 0, 0), .inl x] μ (some 1, μ)) ∧ ∀ d, M (d + 2) 75 [.inr (3, 40, 0), .inl x] μ' (some 1, μ')) ∨ ((∀ d, M (d + 2) 68 [.inr (0, 0, 0), .inl x] μ (some 0, μ)) ∧ ∀ d, M (d + 2) 75 [.inr (3, 40, 0), .inl x] μ' (some 0, μ')) := by
  by_cases h : x < 0 ∨ nI ns ≤ x
  · refine Or.inr ⟨fun d => M68 ⟨0, μ, ?_, Or.inl rfl, rfl⟩, fun d => M75 ?_⟩
    · have := T_within (d := d) (μ := μ) (x := x) (a := 0) (b := μ 1 1 0 1 - 1)
      rw [if_pos] at this
      · exact this
      · rw [hc1]
        by_cases e : x < 0
        · exact Or.inl e
        · right
          have h2 : nI ns ≤ x := h.elim (fun q => absurd q e) id
          by_cases z : ns = 0
          · subst z
            exact Int32.lt_of_lt_of_le (by decide) h2
          · rw [nI_dn (show ns = (ns - 1) + 1 by omega)]
            exact Int32.lt_of_lt_of_le (nI_lt (by omega) (by omega)) h2
    · rw [hm2]
      simp only [B75_16, B75_17]
      refine ⟨fun _ => ⟨Or.inl True.intro, True.intro⟩, fun e => ⟨fun _ => ⟨Or.inl True.intro, True.intro⟩, fun e2 => absurd h (fun q => q.elim e e2)⟩⟩
  · have h1 : ¬ x < 0 := fun e => h (Or.inl e)
    have h2 : ¬ nI ns ≤ x := fun e => h (Or.inr e)
    have z : 0 < ns := by
      rcases Nat.eq_zero_or_pos ns with q | q
      · subst q; exact absurd (Int32.not_lt.mp h1) h2
      · exact q
    obtain ⟨s, s1, s2, rfl⟩ := nI_btw (x := x) (a := 0) (b := ns - 1) (by decide) (by omega) h1 (fun e => h2 (by
      have e2 := Int32.lt_iff_toInt_lt.mp e
      rw [nI_toInt (by omega)] at e2
      apply Int32.le_iff_toInt_le.mpr
      rw [nI_toInt (by omega)]
      omega))
    refine Or.inl ⟨s, by omega, rfl, fun d => M68 ⟨1, μ, ?_, Or.inr rfl, rfl⟩, fun d => M75 ?_⟩
    · have := T_within (d := d) (μ := μ) (x := nI s) (a := 0) (b := μ 1 1 0 1 - 1)
      rw [if_neg] at this
      · exact this
      · rw [hc1, nI_dn (show ns = (ns - 1) + 1 by omega)]
        rintro (q | q)
        · exact h1 q
        · exact absurd ((nI_ltI (by omega) (by omega)).mp q) (by omega)
    · rw [hm2]
      exact ⟨fun e => absurd e h1, fun _ => ⟨fun e => absurd e h2, fun _ => B75_17.mpr ⟨Or.inr rfl, rfl⟩⟩⟩
theorem CALL_price : CALL 63 126 [] := by
  intro μ hB
  obtain ⟨ns, N, G, nn, gc, t, pd, P, Q, PG, QG, hR, h11, h0, ht, hnn, hgc, h14, hT, hU, hpr, hfr⟩ := id hB
  exact ⟨μ 0 0 0 2, μ, μ, fun d => M63 rfl, fun d => M126 (by rw [hpr]), hB⟩
