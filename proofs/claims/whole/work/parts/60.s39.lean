/-! guest -/
theorem CALL_guest (x y : Int32) : CALL 58 120 [.inl x, .inl y] := by
  intro μ hB
  obtain ⟨ns, N, G, nn, gc, t, pd, P, Q, PG, QG, hR, h11, h0, ht, hnn, hgc, h14, hT, hU, hpr, hfr⟩ := id hB
  have h22 : μ 4 60 0 22 = nI G := hR.2.2.2.2.2.2.2.2.2.1.2.2.1
  have hLG := hR.2.1
  have hG : G ≤ 100 := hLG.1
  rcases nI_rng x (n := G) (by omega) with ⟨i, hi, rfl, x0, x1⟩ | ⟨hx, hx2⟩
  · have xn : ¬ nI G ≤ nI i := Int32.not_le.mpr x1
    have hb := hLG.2.1 i hi
    have c := fun d => T_at21 hLG hi d μ 1
    rw [up_eta] at c
    have v0 : vp_in (nI i) 100 := vp_in_nI (by omega) (by decide)
    have k0 : (nI i).toNatClampNeg = i := nI_cl (by omega)
    have v1 : vp_in (nI (PG i)) 100 := vp_in_nI (by omega) (by decide)
    have k1 : (nI (PG i)).toNatClampNeg = PG i := nI_cl (by omega)
    have n1 : ¬ nI (PG i) = -1 := nI_m1 (by omega)
    obtain ⟨g1, g2, g3, g4, g5⟩ := hR.2.2.2.2.2.2.2.2.2.2.1 i hi
    have g6 := hR.2.2.2.2.1.2.2.1 i hi (by omega)
    by_cases hy : ∃ k, k < 4 ∧ y = nI k
    · obtain ⟨k, hk, rfl⟩ := hy
      rcases (show k = 0 ∨ k = 1 ∨ k = 2 ∨ k = 3 by omega) with rfl | rfl | rfl | rfl
      · have w : ∀ d, M (d + 1) 74 [.inl (nI 0), .inl 0, .inl 3] μ (some 1, μ) := fun d => by
          have := T_mwithin (d := d) (μ := μ) (x := nI 0) (a := 0) (b := 3)
          rw [if_neg (by decide)] at this; exact this
        refine ⟨μ 4 75 0 i, μ, μ, M_up (k := 2) (fun d => M58 ⟨_, _, c d, fun _ => ⟨fun k' t hk' hx' => ?_, fun h => absurd rfl (h 0 (by decide))⟩, fun e => absurd n1 e⟩) (by decide), M_up (k := 2) (fun d => M120 ⟨fun e => absurd e x0, fun _ => ⟨fun e => absurd (by rw [← h22]; exact e) xn, fun _ => ⟨_, _, w d, fun _ => ⟨fun e => absurd (by decide : nI 0 = 0) e, fun _ => ⟨v0, B120_85.mpr (by rw [k0])⟩⟩, fun e => absurd (by decide) e⟩⟩⟩) (by decide), hB⟩
        have e : 56 = t := Option.some.inj (swk (n := 4) (by decide) rfl hk hk' hx')
        subst e
        exact B58_56.mpr ⟨v1, by rw [k1, g1]⟩
      · have w : ∀ d, M (d + 1) 74 [.inl (nI 1), .inl 0, .inl 3] μ (some 1, μ) := fun d => by
          have := T_mwithin (d := d) (μ := μ) (x := nI 1) (a := 0) (b := 3)
          rw [if_neg (by decide)] at this; exact this
        refine ⟨μ 4 76 0 i, μ, μ, M_up (k := 2) (fun d => M58 ⟨_, _, c d, fun _ => ⟨fun k' t hk' hx' => ?_, fun h => absurd rfl (h 1 (by decide))⟩, fun e => absurd n1 e⟩) (by decide), M_up (k := 2) (fun d => M120 ⟨fun e => absurd e x0, fun _ => ⟨fun e => absurd (by rw [← h22]; exact e) xn, fun _ => ⟨_, _, w d, fun _ => ⟨fun _ => ⟨fun e => absurd (by decide : nI 1 = 1) e, fun _ => ⟨v0, B120_85.mpr (by rw [k0])⟩⟩, fun e => absurd (by decide : ¬ nI 1 = 0) e⟩, fun e => absurd (by decide) e⟩⟩⟩) (by decide), hB⟩
        have e : 64 = t := Option.some.inj (swk (n := 4) (by decide) rfl hk hk' hx')
        subst e
        refine B58_64.mpr ⟨v1, ?_⟩
        rw [k1]
        rcases g6 with ⟨q1, q2⟩ | ⟨j, q1, q2, q3, q4⟩
        · exact ⟨fun e => absurd q1 e, fun _ => B58_98.mpr (by rw [q2])⟩
        · have hj := hR.1.2.1 j q1
          have v2 : vp_in (nI (P j)) 120 := vp_in_nI (by omega) (by decide)
          have k2 : (nI (P j)).toNatClampNeg = P j := nI_cl (by omega)
          have e12 : μ 4 67 0 j = μ 1 12 0 (P j) := (hR.2.2.1 j q1).1
          refine ⟨fun _ => ⟨v1, ?_⟩, fun e => absurd (fun q => nI_m1 (n := P j) (by omega) (q2.symm.trans q)) e⟩
          show vp_in (μ 1 25 0 (PG i)) 120 ∧ _
          rw [q2]
          exact ⟨v2, B58_98.mpr (by rw [k2, q3, e12])⟩
      · have w : ∀ d, M (d + 1) 74 [.inl (nI 2), .inl 0, .inl 3] μ (some 1, μ) := fun d => by
          have := T_mwithin (d := d) (μ := μ) (x := nI 2) (a := 0) (b := 3)
          rw [if_neg (by decide)] at this; exact this
        refine ⟨μ 4 77 0 i, μ, μ, M_up (k := 2) (fun d => M58 ⟨_, _, c d, fun _ => ⟨fun k' t hk' hx' => ?_, fun h => absurd rfl (h 2 (by decide))⟩, fun e => absurd n1 e⟩) (by decide), M_up (k := 2) (fun d => M120 ⟨fun e => absurd e x0, fun _ => ⟨fun e => absurd (by rw [← h22]; exact e) xn, fun _ => ⟨_, _, w d, fun _ => ⟨fun _ => ⟨fun _ => ⟨fun e => absurd (by decide : nI 2 = 2) e, fun _ => ⟨v0, B120_85.mpr (by rw [k0])⟩⟩, fun e => absurd (by decide : ¬ nI 2 = 1) e⟩, fun e => absurd (by decide : ¬ nI 2 = 0) e⟩, fun e => absurd (by decide) e⟩⟩⟩) (by decide), hB⟩
        have e : 99 = t := Option.some.inj (swk (n := 4) (by decide) rfl hk hk' hx')
        subst e
        exact B58_99.mpr ⟨v1, by rw [k1, g2]⟩
      · have w : ∀ d, M (d + 1) 74 [.inl (nI 3), .inl 0, .inl 3] μ (some 1, μ) := fun d => by
          have := T_mwithin (d := d) (μ := μ) (x := nI 3) (a := 0) (b := 3)
          rw [if_neg (by decide)] at this; exact this
        refine ⟨μ 4 78 0 i, μ, μ, M_up (k := 2) (fun d => M58 ⟨_, _, c d, fun _ => ⟨fun k' t hk' hx' => ?_, fun h => absurd rfl (h 3 (by decide))⟩, fun e => absurd n1 e⟩) (by decide), M_up (k := 2) (fun d => M120 ⟨fun e => absurd e x0, fun _ => ⟨fun e => absurd (by rw [← h22]; exact e) xn, fun _ => ⟨_, _, w d, fun _ => ⟨fun _ => ⟨fun _ => ⟨fun _ => ⟨v0, B120_85.mpr (by rw [k0])⟩, fun e => absurd (by decide : ¬ nI 3 = 2) e⟩, fun e => absurd (by decide : ¬ nI 3 = 1) e⟩, fun e => absurd (by decide : ¬ nI 3 = 0) e⟩, fun e => absurd (by decide) e⟩⟩⟩) (by decide), hB⟩
        have e : 107 = t := Option.some.inj (swk (n := 4) (by decide) rfl hk hk' hx')
        subst e
        exact B58_107.mpr ⟨v1, by rw [k1, g3]⟩
    · have hno : ∀ k : Nat, k < 4 → ¬ y = nI k := fun k hk e => hy ⟨k, hk, e⟩
      have lt : ∀ (L : List Nat) (k t : Nat), L.length = 4 → L[k]? = some t → k < 4 := fun L k t hL h => by
        rcases Nat.lt_or_ge k L.length with q | q
        · omega
        · rw [List.getElem?_eq_none q] at h; cases h
      have w : ∀ d, M (d + 1) 74 [.inl y, .inl 0, .inl 3] μ (some 0, μ) := fun d => by
        have := T_mwithin (d := d) (μ := μ) (x := y) (a := 0) (b := 3)
        rw [if_pos] at this
        · exact this
        · by_cases e : y < 0 ∨ 3 < y
          · exact e
          · obtain ⟨q, q1, q2, e2⟩ := nI_btw (x := y) (a := 0) (b := 3) (by decide) (by decide) (fun e3 => e (Or.inl e3)) (fun e3 => e (Or.inr e3))
            exact absurd e2 (hno q (by omega))
      exact ⟨-1, μ, μ, M_up (k := 2) (fun d => M58 ⟨_, _, c d, fun _ => ⟨fun k t hk e => absurd e (hno k (lt _ k t rfl hk)), fun _ => B58_115.mpr rfl⟩, fun e => absurd n1 e⟩) (by decide), M_up (k := 2) (fun d => M120 ⟨fun e => absurd e x0, fun _ => ⟨fun e => absurd (by rw [← h22]; exact e) xn, fun _ => ⟨_, _, w d, fun e => absurd rfl e, fun _ => B120_24.mpr rfl⟩⟩⟩) (by decide), hB⟩
  · have c := fun d => T_no21 hLG hx2 d μ 1
    rw [up_eta] at c
    exact ⟨-1, μ, μ, M_up (k := 2) (fun d => M58 ⟨_, _, c d, fun e => absurd rfl e, fun _ => rfl⟩) (by decide), M_up (k := 2) (fun d => M120 ⟨fun _ => B120_24.mpr rfl, fun e => ⟨fun _ => B120_24.mpr rfl, fun e2 => absurd hx (fun q => q.elim e (fun q2 => e2 (by show μ 4 60 0 22 ≤ x; rw [h22]; exact q2)))⟩⟩) (by decide), hB⟩
