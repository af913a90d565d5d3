/-! ruleOf, row -/
theorem wi {x : Int32} {a b : Nat} (ha : a < 2147483648) (hb : b < 2147483648) (A B : Int32) (eA : A = nI a) (eB : B = nI b) (μ μ' : Mem) : (∃ n, a ≤ n ∧ n ≤ b ∧ x = nI n ∧ (∀ d, M (d + 1) 72 [.inl x, .inl A, .inl B] μ (some 1, μ)) ∧ ∀ d, M (d + 1) 74 [.inl x, .inl A, .inl B] μ' (some 1, μ')) ∨ ((x < A ∨ B < x) ∧ (∀ d, M (d + 1) 72 [.inl x, .inl A, .inl B] μ (some 0, μ)) ∧ ∀ d, M (d + 1) 74 [.inl x, .inl A, .inl B] μ' (some 0, μ')) := by
  have c := fun d => T_within (d := d) (μ := μ) (x := x) (a := A) (b := B)
  have c' := fun d => T_mwithin (d := d) (μ := μ') (x := x) (a := A) (b := B)
  by_cases h : x < A ∨ B < x
  · rw [if_pos h] at c c'
    exact Or.inr ⟨h, c, c'⟩
  · rw [if_neg h] at c c'
    obtain ⟨q, q1, q2, e⟩ := nI_btw (x := x) (a := a) (b := b) ha hb (fun e => h (Or.inl (by rw [eA]; exact e))) (fun e => h (Or.inr (by rw [eB]; exact e)))
    exact Or.inl ⟨q, q1, q2, e, c, c'⟩
theorem CALL_ruleOf (x y : Int32) : CALL 54 115 [.inl x, .inl y] := by
  intro μ hB
  obtain ⟨ns, N, G, nn, gc, t, pd, P, Q, PG, QG, hR, h11, h0, ht, hnn, hgc, h14, hT, hU, hpr, hfr⟩ := id hB
  have hns : ns ≤ 6 := hR.2.2.2.2.2.2.2.2.2.1.1.1
  have hc1 : μ 1 1 0 1 = nI ns := hR.2.2.2.2.2.2.2.2.2.1.1.2.1
  have hm2 : μ 3 40 0 2 = nI ns := hR.2.2.2.2.2.2.2.2.2.1.1.2.2
  rcases isS hns hc1 hm2 x with ⟨s, hs, rfl, a1, a2⟩ | ⟨a1, a2⟩
  · obtain ⟨q1, q2, q3⟩ := hR.2.2.2.2.2.2.2.2.1 s hs
    have v1 : vp_in (nI s) 6 := vp_in_nI (by omega) (by decide)
    have k1 : (nI s).toNatClampNeg = s := nI_cl (by omega)
    rcases wi (x := y) (a := 0) (b := 9) (by decide) (by decide) 0 9 rfl rfl μ μ with ⟨j, -, hj, rfl, b1, b2⟩ | ⟨-, b1, b2⟩
    · have v2 : vp_in (nI j) 10 := vp_in_nI (by omega) (by decide)
      have k2 : (nI j).toNatClampNeg = j := nI_cl (by omega)
      refine ⟨μ 1 4 s j, μ, μ, M_up (k := 3) (fun d => M54 ⟨_, _, a1 d, fun e => absurd e (by decide), fun _ => ⟨_, _, b1 (d + 1), fun _ => ⟨v1, v2, ?_⟩, fun e => absurd (by decide) e⟩⟩) (by decide), M_up (k := 3) (fun d => M115 ⟨_, _, a2 d, fun e => absurd e (by decide), fun _ => ⟨_, _, b2 (d + 1), fun _ => ?_, fun e => absurd (by decide) e⟩⟩) (by decide), hB⟩
      · rw [k1, k2]
      · by_cases e9 : j = 9
        · subst e9
          refine ⟨fun e => absurd rfl e, fun _ => ⟨v1, B115_41.mpr ?_⟩⟩
          rw [k1, q2]
        · refine ⟨fun _ => ?_, fun e => absurd (fun q => e9 (nI_inj (b := 9) (by omega) (by decide) q)) e⟩
          have := T_ruled (m := μ 3) (h := μ 4) (s := s) (j := j) (x := nI j) (by omega) (by omega) rfl (d + 1) μ
          rw [mm_eta] at this
          exact ⟨_, _, this, B115_41.mpr (by rw [q1 j (by omega)])⟩
    · exact ⟨-1, μ, μ, M_up (k := 3) (fun d => M54 ⟨_, _, a1 d, fun e => absurd e (by decide), fun _ => ⟨_, _, b1 (d + 1), fun e => absurd rfl e, fun _ => B54_18.mpr rfl⟩⟩) (by decide), M_up (k := 3) (fun d => M115 ⟨_, _, a2 d, fun e => absurd e (by decide), fun _ => ⟨_, _, b2 (d + 1), fun e => absurd rfl e, fun _ => B115_18.mpr rfl⟩⟩) (by decide), hB⟩
  · exact ⟨-1, μ, μ, M_up (k := 3) (fun d => M54 ⟨_, _, a1 d, fun _ => B54_18.mpr rfl, fun e => absurd rfl e⟩) (by decide), M_up (k := 3) (fun d => M115 ⟨_, _, a2 d, fun _ => B115_18.mpr rfl, fun e => absurd rfl e⟩) (by decide), hB⟩
