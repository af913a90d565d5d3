/-! kept -/
theorem isK (μ μ' : Mem) (x : Int32) : (∃ q, q < 8 ∧ x = nI q ∧ (∀ d, M (d + 2) 69 [.inl x] μ (some 1, μ)) ∧ ∀ d, M (d + 2) 76 [.inl x] μ' (some 1, μ')) ∨ ((∀ d, M (d + 2) 69 [.inl x] μ (some 0, μ)) ∧ ∀ d, M (d + 2) 76 [.inl x] μ' (some 0, μ')) := by
  have c := fun d => T_within (d := d) (μ := μ) (x := x) (a := 0) (b := 7)
  have c' := fun d => T_mwithin (d := d) (μ := μ') (x := x) (a := 0) (b := 7)
  by_cases h : x < 0 ∨ 7 < x
  · rw [if_pos h] at c c'
    exact Or.inr ⟨fun d => M69 ⟨0, μ, c d, Or.inl rfl, rfl⟩, fun d => M76 ⟨0, μ', c' d, Or.inl rfl, rfl⟩⟩
  · rw [if_neg h] at c c'
    obtain ⟨q, q1, q2, e⟩ := nI_btw (x := x) (a := 0) (b := 7) (by decide) (by decide) (fun e => h (Or.inl e)) (fun e => h (Or.inr e))
    exact Or.inl ⟨q, by omega, e, fun d => M69 ⟨1, μ, c d, Or.inr rfl, rfl⟩, fun d => M76 ⟨1, μ', c' d, Or.inr rfl, rfl⟩⟩
theorem CALL_kept (x y : Int32) : CALL 55 116 [.inl x, .inl y] := by
  intro μ hB
  obtain ⟨ns, N, G, nn, gc, t, pd, P, Q, PG, QG, hR, h11, h0, ht, hnn, hgc, h14, hT, hU, hpr, hfr⟩ := id hB
  have hns : ns ≤ 6 := hR.2.2.2.2.2.2.2.2.2.1.1.1
  have hc1 : μ 1 1 0 1 = nI ns := hR.2.2.2.2.2.2.2.2.2.1.1.2.1
  have hm2 : μ 3 40 0 2 = nI ns := hR.2.2.2.2.2.2.2.2.2.1.1.2.2
  have ht1 : μ 1 1 0 2 = nI t := by
    obtain ⟨tt, _, t1, t2⟩ := hR.2.2.2.2.2.2.2.2.2.1.2.2.2.2.2.1
    rw [t1, ← t2]; exact h0
  rcases isS hns hc1 hm2 x with ⟨s, hs, rfl, a1, a2⟩ | ⟨a1, a2⟩
  · rcases isK μ μ y with ⟨q, hq, rfl, b1, b2⟩ | ⟨b1, b2⟩
    · have e6 : μ 1 6 s q = μ 4 64 0 (8 * s + q) := (hR.2.2.2.2.2.2.2.1 s (by omega)).2.1 q hq
      have v1 : vp_in (nI s) 6 := vp_in_nI (by omega) (by decide)
      have k1 : (nI s).toNatClampNeg = s := nI_cl (by omega)
      have v2 : vp_in (nI q) 8 := vp_in_nI (by omega) (by decide)
      have k2 : (nI q).toNatClampNeg = q := nI_cl (by omega)
      have e0 : 8 * nI s + nI q = nI (8 * s + q) := ix_lin 8 rfl rfl
      have v0 : vp_in (nI (8 * s + q)) 48 := vp_in_nI (by omega) (by decide)
      have k0 : (nI (8 * s + q)).toNatClampNeg = 8 * s + q := nI_cl (by omega)
      have ha := fun d => T_hasAnswer (σ := μ 1) (s := s) (q := q) (t := nI t) hq (d + 1) μ 1
      rw [up_eta] at ha
      refine ⟨if μ 1 6 s q < nI t then -4 else μ 1 6 s q, μ, μ, M_up (k := 3) (fun d => M55 ⟨_, _, a1 d, fun e => absurd e (by decide), fun _ => ⟨_, _, b1 d, fun _ => ⟨v1, ?_⟩, fun e => absurd (by decide) e⟩⟩) (by decide), M_up (k := 3) (fun d => M116 ⟨_, _, a2 d, fun e => absurd e (by decide), fun _ => ⟨_, _, b2 d, fun _ => ?_, fun e => absurd (by decide) e⟩⟩) (by decide), hB⟩
      · simp only [Nat.reduceAdd, k1, k2, ht1]
        refine ⟨_, _, ha d, ?_⟩
        by_cases e : μ 1 6 s q < nI t
        · rw [if_pos e, if_pos e]; exact ⟨fun _ => B55_53.mpr rfl, fun e => absurd rfl e⟩
        · rw [if_neg e, if_neg e]; exact ⟨fun e => absurd e (by decide), fun _ => ⟨v2, B55_53.mpr rfl⟩⟩
      · rw [e0]
        simp only [Nat.reduceAdd, k0, h0, ← e6, B116_49]
        refine ⟨v0, fun e => ?_, fun e => ?_⟩
        · rw [if_pos e]
        · rw [if_neg e]
    · exact ⟨-1, μ, μ, M_up (k := 3) (fun d => M55 ⟨_, _, a1 d, fun e => absurd e (by decide), fun _ => ⟨_, _, b1 d, fun e => absurd rfl e, fun _ => B55_15.mpr rfl⟩⟩) (by decide), M_up (k := 3) (fun d => M116 ⟨_, _, a2 d, fun e => absurd e (by decide), fun _ => ⟨_, _, b2 d, fun e => absurd rfl e, fun _ => B116_15.mpr rfl⟩⟩) (by decide), hB⟩
  · exact ⟨-1, μ, μ, M_up (k := 3) (fun d => M55 ⟨_, _, a1 d, fun _ => B55_15.mpr rfl, fun e => absurd rfl e⟩) (by decide), M_up (k := 3) (fun d => M116 ⟨_, _, a2 d, fun _ => B116_15.mpr rfl, fun e => absurd rfl e⟩) (by decide), hB⟩
