/-! row -/
theorem CALL_row (x y : Int32) : CALL 57 119 [.inl x, .inl y] := by
  intro μ hB
  obtain ⟨ns, N, G, nn, gc, t, pd, P, Q, PG, QG, hR, h11, h0, ht, hnn, hgc, h14, hT, hU, hpr, hfr⟩ := id hB
  have hns : ns ≤ 6 := hR.2.2.2.2.2.2.2.2.2.1.1.1
  have hc1 : μ 1 1 0 1 = nI ns := hR.2.2.2.2.2.2.2.2.2.1.1.2.1
  have hm2 : μ 3 40 0 2 = nI ns := hR.2.2.2.2.2.2.2.2.2.1.1.2.2
  rcases isS hns hc1 hm2 x with ⟨s, hs, rfl, a1, a2⟩ | ⟨a1, a2⟩
  · obtain ⟨w, w1, w2, w3, w4, w5⟩ := hR.2.2.2.2.2.1 s hs
    have w2' : μ 1 3 s 4 = nI w := w2
    have v1 : vp_in (nI s) 6 := vp_in_nI (by omega) (by decide)
    have k1 : (nI s).toNatClampNeg = s := nI_cl (by omega)
    have c := fun d => T_within (d := d) (μ := μ) (x := y) (a := 0) (b := nI w - 1)
    by_cases hy : y < 0 ∨ nI w ≤ y
    · have hy2 : y < 0 ∨ nI w - 1 < y := by
        by_cases e : y < 0
        · exact Or.inl e
        · right
          have h2 : nI w ≤ y := hy.elim (fun q => absurd q e) id
          by_cases z : w = 0
          · subst z; exact Int32.lt_of_lt_of_le (by decide) h2
          · rw [nI_dn (show w = (w - 1) + 1 by omega)]
            exact Int32.lt_of_lt_of_le (nI_lt (by omega) (by omega)) h2
      rw [if_pos hy2] at c
      refine ⟨-1, μ, μ, M_up (k := 3) (fun d => M57 ⟨_, _, a1 d, fun e => absurd e (by decide), fun _ => ⟨v1, ?_⟩⟩) (by decide), M_up (k := 3) (fun d => M119 ⟨_, _, a2 d, fun e => absurd e (by decide), fun _ => ?_⟩) (by decide), hB⟩
      · simp only [Nat.reduceAdd, k1, w2']
        exact ⟨_, _, c (d + 1), fun e => absurd rfl e, fun _ => B57_30.mpr rfl⟩
      · simp only [Nat.reduceAdd, k1, w3, B119_42, B119_43]
        exact ⟨fun _ => True.intro, fun e => ⟨v1, fun _ => True.intro, fun e2 => absurd hy (fun q => q.elim e e2)⟩⟩
    · have h1 : ¬ y < 0 := fun e => hy (Or.inl e)
      have h2 : ¬ nI w ≤ y := fun e => hy (Or.inr e)
      have z : 0 < w := by
        rcases Nat.eq_zero_or_pos w with q | q
        · subst q; exact absurd (Int32.not_lt.mp h1) h2
        · exact q
      obtain ⟨i, i1, i2, rfl⟩ := nI_btw (x := y) (a := 0) (b := w - 1) (by decide) (by omega) h1 (fun e => h2 (by
        have e2 := Int32.lt_iff_toInt_lt.mp e
        rw [nI_toInt (by omega)] at e2
        apply Int32.le_iff_toInt_le.mpr
        rw [nI_toInt (by omega)]
        omega))
      rw [nI_dn (show w = (w - 1) + 1 by omega), if_neg (fun q => q.elim h1 (fun q => absurd ((nI_ltI (by omega) (by omega)).mp q) (by omega)))] at c
      obtain ⟨k, p1, p2, p3, p4, p5⟩ := w4 i (by omega)
      have v2 : vp_in (nI i) 20 := vp_in_nI (by omega) (by decide)
      have k2 : (nI i).toNatClampNeg = i := nI_cl (by omega)
      have hb := hR.1.2.1 k p1
      have v3 : vp_in (nI (P k)) 120 := vp_in_nI (by omega) (by decide)
      have k3 : (nI (P k)).toNatClampNeg = P k := nI_cl (by omega)
      have e0 : 20 * nI s + nI i = nI (20 * s + i) := ix_lin 20 rfl rfl
      have v0 : vp_in (nI (20 * s + i)) 120 := vp_in_nI (by omega) (by decide)
      have k0 : (nI (20 * s + i)).toNatClampNeg = 20 * s + i := nI_cl (by omega)
      have e12 : μ 4 67 0 k = μ 1 12 0 (P k) := (hR.2.2.1 k p1).1
      refine ⟨μ 4 67 0 k, μ, μ, M_up (k := 3) (fun d => M57 ⟨_, _, a1 d, fun e => absurd e (by decide), fun _ => ⟨v1, ?_⟩⟩) (by decide), M_up (k := 3) (fun d => M119 ⟨_, _, a2 d, fun e => absurd e (by decide), fun _ => ?_⟩) (by decide), hB⟩
      · simp only [Nat.reduceAdd, k1, w2', nI_dn (show w = (w - 1) + 1 by omega)]
        refine ⟨_, _, c (d + 1), fun _ => ⟨v1, v2, ?_⟩, fun e => absurd (by decide) e⟩
        rw [k2, p2, k3, e12]
        exact ⟨v3, rfl⟩
      · rw [e0]
        simp only [Nat.reduceAdd, k1, w3, k0, B119_43, p3]
        exact ⟨fun e => absurd e h1, fun _ => ⟨v1, fun e => absurd e h2, fun _ => ⟨v0, True.intro⟩⟩⟩
  · exact ⟨-1, μ, μ, M_up (k := 3) (fun d => M57 ⟨_, _, a1 d, fun _ => B57_30.mpr rfl, fun e => absurd rfl e⟩) (by decide), M_up (k := 3) (fun d => M119 ⟨_, _, a2 d, fun _ => by rw [B119_42, B119_43], fun e => absurd rfl e⟩) (by decide), hB⟩
