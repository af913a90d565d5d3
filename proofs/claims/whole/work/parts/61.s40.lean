/-! job -/
theorem callers {μ : Mem} {ns N G nn gc i : Nat} {P Q PG QG : Nat → Nat} (hR : R (μ 1) (μ 3) (μ 4) ns N G nn gc P Q PG QG 1000 1000) (hi : i < N) : ∃ v, (∀ d, M (d + 1) 67 [.inr (0, 0, 0), .inl (nI (P i))] μ (some v, μ)) ∧ ∀ d, M (d + 2) 117 [.inr (3, 40, 0), .inl (nI i)] μ (some v, μ) := by
  obtain ⟨l1, l2, l3, l4⟩ := hR.2.2.2.2.1
  have hJB := hR.2.2.2.1
  have uq : ∀ i j, i < N → j < N → μ 4 67 0 i = μ 4 67 0 j → i = j := fun i j hi hj e => hJB.uniq hi hj e
  have inj := hR.1.2.2.2.1
  have injG := hR.2.1.2.2.2.1
  have hbP := hR.1.2.1
  have hbG := hR.2.1.2.1
  have hN : N ≤ 120 := hR.1.1
  have hG : G ≤ 100 := hR.2.1.1
  obtain ⟨c1, h15, h22, ⟨hnn, -, -⟩, -⟩ := hR.2.2.2.2.2.2.2.2.2.1
  obtain ⟨⟨ni, hni, eni⟩, -⟩ := hJB.1 i hi
  have hpi := hbP i hi
  have v0 : vp_in (nI i) 120 := vp_in_nI (by omega) (by decide)
  have k0 : (nI i).toNatClampNeg = i := nI_cl (by omega)
  have v1 : vp_in (nI (P i)) 120 := vp_in_nI (by omega) (by decide)
  have k1 : (nI (P i)).toNatClampNeg = P i := nI_cl (by omega)
  rcases l2 i hi with q | ⟨k, hk, -, q1, q2⟩ | ⟨j, hj, -, q1, q2⟩
  · refine ⟨-3, fun d => M67 ⟨v1, ?_⟩, fun d => M117 ⟨v0, v0, ?_⟩⟩
    · rw [k1]; exact ⟨fun e => absurd q e, fun _ => rfl⟩
    · rw [k0]
      rcases l4 i hi with r | ⟨n, hn, r⟩
      · have hno : ∀ j, j < G → ¬ μ 4 76 0 j = μ 4 67 0 i := by
          intro j hj e
          rcases l3 j hj (by omega) with ⟨-, w⟩ | ⟨i', hi', w1, w2, w3, -⟩
          · rw [w, eni] at e; exact nI_neg (n := ni) (v := -3) (by omega) (by decide) e.symm
          · have : i' = i := uq i' i hi' hi (w2.symm.trans e)
            rw [this, q] at w3
            exact nI_m1 (n := 1000 + PG j) (by have := hbG j hj; omega) w3.symm
        have g := T_guestNo (m := μ 3) (h := μ 4) (n := μ 4 67 0 i) h22 hG hno d μ
        rw [mm_eta] at g
        exact ⟨fun e => absurd e (by show ¬ (0 : Int32) ≤ μ 4 71 0 i; rw [r]; decide), fun _ => ⟨_, _, g, fun _ => B117_37.mpr rfl, fun e => absurd (by decide) e⟩⟩
      · have pz : (0 : Int32) ≤ μ 4 71 0 i := by rw [r]; exact Int32.not_lt.mp (nI_pos (by omega))
        by_cases ex : ∃ k, k < N ∧ μ 4 67 0 k = nI n
        · obtain ⟨k, hk, ek⟩ := ex
          have p := T_placeOf (m := μ 3) (h := μ 4) (z := k) h15 hN hk ek (fun i' hi' e => absurd (uq i' k (by omega) hk (e.trans ek.symm)) (by omega)) d μ
          rw [mm_eta] at p
          have vk : vp_in (nI k) 120 := vp_in_nI (by omega) (by decide)
          have kk : (nI k).toNatClampNeg = k := nI_cl (by omega)
          refine ⟨fun _ => ⟨v0, _, _, by show M (d + 1) 85 [.inr (3, 40, 0), .inl (μ 4 71 0 i)] μ _; rw [r]; exact p, fun e => absurd e (nI_pos (by omega)), fun _ => ⟨vk, fun _ => B117_94.mpr (B117_96.mpr rfl), fun e2 => ⟨vk, fun _ => B117_94.mpr (B117_96.mpr rfl), fun e3 => absurd ?_ e3⟩⟩⟩, fun e => absurd pz e⟩
          rw [kk]
          intro e4
          have e4' : μ 4 74 0 k = μ 4 67 0 i := e4
          rcases l1 k hk (by omega) with ⟨-, w⟩ | ⟨-, i', hi', w1, w2, w3, -⟩
          · rw [w, eni] at e4'; exact nI_m1 (n := ni) (by omega) e4'.symm
          · have : i' = i := uq i' i hi' hi (w2.symm.trans e4')
            rw [this, q] at w3
            exact nI_m1 (n := P k) (by have := hbP k hk; omega) w3.symm
        · have p := T_placeNo (m := μ 3) (h := μ 4) (n := nI n) h15 hN (fun k hk e => ex ⟨k, hk, e⟩) d μ
          rw [mm_eta] at p
          exact ⟨fun _ => ⟨v0, _, _, by show M (d + 1) 85 [.inr (3, 40, 0), .inl (μ 4 71 0 i)] μ _; rw [r]; exact p, fun _ => B117_94.mpr (B117_96.mpr rfl), fun e => absurd (by decide) e⟩, fun e => absurd pz e⟩
  · have hpk := hbP k hk
    rcases l1 k hk (by omega) with ⟨w, -⟩ | ⟨w0, i', hi', w1, w2, w3, w4, w5⟩
    · exact absurd (q2.symm.trans w) (nI_m1 (by omega))
    · have : i' = i := inj i' i hi' hi (nI_inj (by have := hbP i' hi'; omega) (by omega) (w1.symm.trans q2))
      rw [this] at w2 w4
      obtain ⟨⟨nk, hnk, enk⟩, -⟩ := hJB.1 k hk
      have e12 : μ 4 67 0 k = μ 1 12 0 (P k) := (hR.2.2.1 k hk).1
      have vk : vp_in (nI k) 120 := vp_in_nI (by omega) (by decide)
      have kk : (nI k).toNatClampNeg = k := nI_cl (by omega)
      have vp : vp_in (nI (P k)) 120 := vp_in_nI (by omega) (by decide)
      have kp : (nI (P k)).toNatClampNeg = P k := nI_cl (by omega)
      have p := fun d => T_placeOf (m := μ 3) (h := μ 4) (z := k) (n := μ 4 67 0 k) h15 hN hk rfl (fun i' hi' e => absurd (uq i' k (by omega) hk e) (by omega)) d μ
      rw [mm_eta] at p
      have pz : (0 : Int32) ≤ μ 4 71 0 i := by rw [w4, enk]; exact Int32.not_lt.mp (nI_pos (by omega))
      refine ⟨μ 4 67 0 k, fun d => M67 ⟨v1, ?_⟩, fun d => M117 ⟨v0, v0, ?_⟩⟩
      · rw [k1]
        show (¬ μ 1 16 0 (P i) = -1 → ((μ 1 16 0 (P i) < 1000 → vp_in (μ 1 16 0 (P i)) 120 ∧ EvE (M d) 67 45 [some (.inr (0, 0, 0)), some (.inl (nI (P i))), some (.inl (μ 1 16 0 (P i)))] [.inl (μ 1 12 0 (μ 1 16 0 (P i)).toNatClampNeg)] μ _) ∧ (¬ μ 1 16 0 (P i) < 1000 → _))) ∧ _
        rw [q1]
        refine ⟨fun _ => ⟨fun _ => ⟨vp, B67_45.mpr (by rw [kp, e12])⟩, fun e => absurd ?_ e⟩, fun e => absurd (nI_m1 (by omega)) e⟩
        exact nI_lt (b := 1000) (by omega) (by decide)
      · rw [k0]
        refine ⟨fun _ => ⟨v0, _, _, by show M (d + 1) 85 [.inr (3, 40, 0), .inl (μ 4 71 0 i)] μ _; rw [w4]; exact p d, fun e => absurd e (nI_pos (by omega)), fun _ => ⟨vk, fun e => absurd ?_ e, fun _ => ⟨vk, fun e => absurd ?_ e, fun _ => ⟨v0, B117_96.mpr ?_⟩⟩⟩⟩, fun e => absurd pz e⟩
        · rw [kk]; exact w0
        · rw [kk]; exact w2
        · show _ = (some (μ 4 71 0 i), μ)
          rw [w4]
  · have hpj := hbG j hj
    rcases l3 j hj (by omega) with ⟨w, -⟩ | ⟨i', hi', w1, w2, w3, w4, -⟩
    · exact absurd (q2.symm.trans w) (nI_m1 (by omega))
    · have : i' = i := inj i' i hi' hi (nI_inj (by have := hbP i' hi'; omega) (by omega) (w1.symm.trans q2))
      rw [this] at w2 w4
      have hu : ∀ j', j' < j → ¬ μ 4 76 0 j' = μ 4 67 0 i := by
        intro j' hj' e
        rcases l3 j' (by omega) (by omega) with ⟨-, w⟩ | ⟨i'', hi'', z1, z2, z3, -⟩
        · rw [w, eni] at e; exact nI_neg (n := ni) (v := -3) (by omega) (by decide) e.symm
        · have t : i'' = i := uq i'' i hi'' hi (z2.symm.trans e)
          rw [t, q1] at z3
          have := hbG j' (by omega)
          have := injG j j' hj (by omega) (by have := nI_inj (a := 1000 + PG j) (b := 1000 + PG j') (by omega) (by omega) z3; omega)
          omega
      have g := fun d => T_guestOf (m := μ 3) (h := μ 4) (n := μ 4 67 0 i) h22 hG hj w2 hu d μ
      rw [mm_eta] at g
      refine ⟨-4, fun d => M67 ⟨v1, ?_⟩, fun d => M117 ⟨v0, v0, ?_⟩⟩
      · rw [k1]
        show (¬ μ 1 16 0 (P i) = -1 → ((μ 1 16 0 (P i) < 1000 → vp_in (μ 1 16 0 (P i)) 120 ∧ EvE (M d) 67 45 [some (.inr (0, 0, 0)), some (.inl (nI (P i))), some (.inl (μ 1 16 0 (P i)))] [.inl (μ 1 12 0 (μ 1 16 0 (P i)).toNatClampNeg)] μ _) ∧ (¬ μ 1 16 0 (P i) < 1000 → _))) ∧ _
        rw [q1]
        refine ⟨fun _ => ⟨fun e => absurd ((nI_ltI (b := 1000) (by omega) (by decide)).mp e) (by omega), fun _ => B67_45.mpr rfl⟩, fun e => absurd (nI_m1 (by omega)) e⟩
      · rw [k0]
        exact ⟨fun e => absurd e (by show ¬ (0 : Int32) ≤ μ 4 71 0 i; rw [w4]; decide), fun _ => ⟨_, _, g d, fun e => absurd e (nI_pos (by omega)), fun _ => B117_37.mpr rfl⟩⟩
theorem CALL_job (x y : Int32) : CALL 56 118 [.inl x, .inl y] := by
  intro μ hB
  obtain ⟨ns, N, G, nn, gc, t, pd, P, Q, PG, QG, hR, h11, h0, ht, hnn, hgc, h14, hT, hU, hpr, hfr⟩ := id hB
  have h15 : μ 4 60 0 15 = nI N := hR.2.2.2.2.2.2.2.2.2.1.2.1
  have hLJ := hR.1
  have hN : N ≤ 120 := hLJ.1
  rcases nI_rng x (n := N) (by omega) with ⟨i, hi, rfl, x0, x1⟩ | ⟨hx, hx2⟩
  · have xn : nI i < μ 4 60 0 15 := by rw [h15]; exact x1
    have hb := hLJ.2.1 i hi
    have c := fun d => T_at9 hLJ hi d μ 1
    rw [up_eta] at c
    have v0 : vp_in (nI i) 120 := vp_in_nI (by omega) (by decide)
    have k0 : (nI i).toNatClampNeg = i := nI_cl (by omega)
    have v1 : vp_in (nI (P i)) 120 := vp_in_nI (by omega) (by decide)
    have k1 : (nI (P i)).toNatClampNeg = P i := nI_cl (by omega)
    have n1 : ¬ nI (P i) = -1 := nI_m1 (by omega)
    obtain ⟨g1, g2, g3, g4, g5, g6⟩ := hR.2.2.1 i hi
    obtain ⟨-, -, -, -, -, b6⟩ := hR.2.2.2.1.1 i hi
    obtain ⟨cv, c1, c2⟩ := callers hR hi
    by_cases hy : ∃ k, k < 7 ∧ y = nI k
    · obtain ⟨k, hk, rfl⟩ := hy
      rcases (show k = 0 ∨ k = 1 ∨ k = 2 ∨ k = 3 ∨ k = 4 ∨ k = 5 ∨ k = 6 by omega) with rfl | rfl | rfl | rfl | rfl | rfl | rfl
      · refine ⟨μ 4 67 0 i, μ, μ, M_up (k := 3) (fun d => M56 ⟨_, _, c (d + 1), fun _ => ⟨fun k' t hk' hx' => ?_, fun h => absurd rfl (h 0 (by decide))⟩, fun e => absurd n1 e⟩) (by decide), M_up (k := 3) (fun d => M118 ⟨fun e => absurd e x0, fun _ => ⟨fun _ => ⟨fun k' t hk' hx' => ?_, fun h => absurd rfl (h 0 (by decide))⟩, fun e => absurd xn e⟩⟩) (by decide), hB⟩
        · have e : 68 = t := Option.some.inj (swk (n := 7) (by decide) rfl hk hk' hx')
          subst e
          exact B56_68.mpr ⟨v1, by rw [k1, g1]⟩
        · have e : 60 = t := Option.some.inj (swk (n := 7) (by decide) rfl hk hk' hx')
          subst e
          exact B118_60.mpr ⟨v0, by rw [k0]⟩
      · refine ⟨μ 4 68 0 i, μ, μ, M_up (k := 3) (fun d => M56 ⟨_, _, c (d + 1), fun _ => ⟨fun k' t hk' hx' => ?_, fun h => absurd rfl (h 1 (by decide))⟩, fun e => absurd n1 e⟩) (by decide), M_up (k := 3) (fun d => M118 ⟨fun e => absurd e x0, fun _ => ⟨fun _ => ⟨fun k' t hk' hx' => ?_, fun h => absurd rfl (h 1 (by decide))⟩, fun e => absurd xn e⟩⟩) (by decide), hB⟩
        · have e : 76 = t := Option.some.inj (swk (n := 7) (by decide) rfl hk hk' hx')
          subst e
          exact B56_76.mpr ⟨v1, by rw [k1, g2]⟩
        · have e : 70 = t := Option.some.inj (swk (n := 7) (by decide) rfl hk hk' hx')
          subst e
          exact B118_70.mpr ⟨v0, by rw [k0]⟩
      · refine ⟨μ 4 69 0 i, μ, μ, M_up (k := 3) (fun d => M56 ⟨_, _, c (d + 1), fun _ => ⟨fun k' t hk' hx' => ?_, fun h => absurd rfl (h 2 (by decide))⟩, fun e => absurd n1 e⟩) (by decide), M_up (k := 3) (fun d => M118 ⟨fun e => absurd e x0, fun _ => ⟨fun _ => ⟨fun k' t hk' hx' => ?_, fun h => absurd rfl (h 2 (by decide))⟩, fun e => absurd xn e⟩⟩) (by decide), hB⟩
        · have e : 84 = t := Option.some.inj (swk (n := 7) (by decide) rfl hk hk' hx')
          subst e
          exact B56_84.mpr ⟨v1, by rw [k1, g3]⟩
        · have e : 80 = t := Option.some.inj (swk (n := 7) (by decide) rfl hk hk' hx')
          subst e
          exact B118_80.mpr ⟨v0, by rw [k0]⟩
      · refine ⟨μ 4 70 0 i, μ, μ, M_up (k := 3) (fun d => M56 ⟨_, _, c (d + 1), fun _ => ⟨fun k' t hk' hx' => ?_, fun h => absurd rfl (h 3 (by decide))⟩, fun e => absurd n1 e⟩) (by decide), M_up (k := 3) (fun d => M118 ⟨fun e => absurd e x0, fun _ => ⟨fun _ => ⟨fun k' t hk' hx' => ?_, fun h => absurd rfl (h 3 (by decide))⟩, fun e => absurd xn e⟩⟩) (by decide), hB⟩
        · have e : 92 = t := Option.some.inj (swk (n := 7) (by decide) rfl hk hk' hx')
          subst e
          exact B56_92.mpr ⟨v1, by rw [k1, g4]⟩
        · have e : 90 = t := Option.some.inj (swk (n := 7) (by decide) rfl hk hk' hx')
          subst e
          exact B118_90.mpr ⟨v0, by rw [k0]⟩
      · refine ⟨cv, μ, μ, M_up (k := 3) (fun d => M56 ⟨_, _, c (d + 1), fun _ => ⟨fun k' t hk' hx' => ?_, fun h => absurd rfl (h 4 (by decide))⟩, fun e => absurd n1 e⟩) (by decide), M_up (k := 3) (fun d => M118 ⟨fun e => absurd e x0, fun _ => ⟨fun _ => ⟨fun k' t hk' hx' => ?_, fun h => absurd rfl (h 4 (by decide))⟩, fun e => absurd xn e⟩⟩) (by decide), hB⟩
        · have e : 100 = t := Option.some.inj (swk (n := 7) (by decide) rfl hk hk' hx')
          subst e
          exact B56_100.mpr ⟨_, _, c1 (d + 1), rfl⟩
        · have e : 100 = t := Option.some.inj (swk (n := 7) (by decide) rfl hk hk' hx')
          subst e
          exact B118_100.mpr ⟨_, _, c2 d, rfl⟩
      · refine ⟨μ 4 72 0 i, μ, μ, M_up (k := 3) (fun d => M56 ⟨_, _, c (d + 1), fun _ => ⟨fun k' t hk' hx' => ?_, fun h => absurd rfl (h 5 (by decide))⟩, fun e => absurd n1 e⟩) (by decide), M_up (k := 3) (fun d => M118 ⟨fun e => absurd e x0, fun _ => ⟨fun _ => ⟨fun k' t hk' hx' => ?_, fun h => absurd rfl (h 5 (by decide))⟩, fun e => absurd xn e⟩⟩) (by decide), hB⟩
        · have e : 107 = t := Option.some.inj (swk (n := 7) (by decide) rfl hk hk' hx')
          subst e
          exact B56_107.mpr ⟨v1, by rw [k1, g5]⟩
        · have e : 106 = t := Option.some.inj (swk (n := 7) (by decide) rfl hk hk' hx')
          subst e
          refine B118_106.mpr ⟨v0, ?_⟩
          rw [k0]
          exact ⟨fun _ => ⟨v0, B118_132.mpr rfl⟩, fun e => B118_132.mpr (by rw [b6 (Classical.not_not.mp e)])⟩
      · refine ⟨μ 4 73 0 i, μ, μ, M_up (k := 3) (fun d => M56 ⟨_, _, c (d + 1), fun _ => ⟨fun k' t hk' hx' => ?_, fun h => absurd rfl (h 6 (by decide))⟩, fun e => absurd n1 e⟩) (by decide), M_up (k := 3) (fun d => M118 ⟨fun e => absurd e x0, fun _ => ⟨fun _ => ⟨fun k' t hk' hx' => ?_, fun h => absurd rfl (h 6 (by decide))⟩, fun e => absurd xn e⟩⟩) (by decide), hB⟩
        · have e : 115 = t := Option.some.inj (swk (n := 7) (by decide) rfl hk hk' hx')
          subst e
          exact B56_115.mpr ⟨v1, by rw [k1, g6]⟩
        · have e : 133 = t := Option.some.inj (swk (n := 7) (by decide) rfl hk hk' hx')
          subst e
          exact B118_133.mpr ⟨v0, by rw [k0]⟩
    · have hno : ∀ k : Nat, k < 7 → ¬ y = nI k := fun k hk e => hy ⟨k, hk, e⟩
      have lt : ∀ (L : List Nat) (k t : Nat), L.length = 7 → L[k]? = some t → k < 7 := fun L k t hL h => by
        rcases Nat.lt_or_ge k L.length with q | q
        · omega
        · rw [List.getElem?_eq_none q] at h; cases h
      exact ⟨-1, μ, μ, M_up (k := 2) (fun d => M56 ⟨_, _, c d, fun _ => ⟨fun k t hk e => absurd e (hno k (lt _ k t rfl hk)), fun _ => B56_123.mpr rfl⟩, fun e => absurd n1 e⟩) (by decide), M_up (k := 2) (fun d => M118 ⟨fun e => absurd e x0, fun _ => ⟨fun _ => ⟨fun k t hk e => absurd e (hno k (lt _ k t rfl hk)), fun _ => B118_143.mpr rfl⟩, fun e => absurd xn e⟩⟩) (by decide), hB⟩
  · have c := fun d => T_no9 hLJ hx2 d μ 1
    rw [up_eta] at c
    exact ⟨-1, μ, μ, M_up (k := 2) (fun d => M56 ⟨_, _, c d, fun e => absurd rfl e, fun _ => rfl⟩) (by decide), M_up (k := 2) (fun d => M118 ⟨fun _ => B118_15.mpr rfl, fun e => ⟨fun e2 => absurd ⟨e, by rw [← h15]; exact e2⟩ hx2, fun _ => B118_15.mpr rfl⟩⟩) (by decide), hB⟩
