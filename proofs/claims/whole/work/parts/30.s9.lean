/-! the first one of a full row is refused -/
theorem Tr_rem0 {σ σ' h h' : Rg} {N z : Nat} {P : Nat → Nat} (hz : z < N) (f1 : ∀ a, a ≠ 9 → a ≠ 10 → a ≠ 11 → σ' a = cset σ 15 0 (P z) (-1) a) (t2 : ∀ a, 67 ≤ a → a ≤ 74 → ∀ k, k < N - 1 → h' a 0 k = h a 0 (shk z k)) (t3 : ∀ a, ¬ (67 ≤ a ∧ a ≤ 74) → h' a = cset h 60 0 15 (nI (N - 1)) a) : Tr N (N - 1) P (fun k => P (shk z k)) σ σ' h h' := by
  have fr : ∀ a, a ≠ 9 → a ≠ 10 → a ≠ 11 → a ≠ 15 → σ' a = σ a := fun a a1 a2 a3 a4 => by rw [f1 a a1 a2 a3, cs_a _ _ a4]
  refine ⟨fun k hk e => ?_, fun p hp => ?_, ?_, fun a ha => fr a (by omega) (by omega) (by omega) (by omega), ?_, fr 4 (by decide) (by decide) (by decide) (by decide)⟩
  · rw [t2 72 (by decide) (by decide) k hk] at e
    rw [t2 67 (by decide) (by decide) k hk, t2 70 (by decide) (by decide) k hk]
    exact ⟨shk z k, shk_lt hz hk, rfl, rfl, rfl, e⟩
  · rw [f1 15 (by decide) (by decide) (by decide), cs_r, up_app]
    by_cases ep : p = P z
    · rw [if_pos ep]; exact Or.inr rfl
    · rw [if_neg ep]
      rcases hp with ⟨k, k1, k2⟩ | hp
      · have hkz : ¬ k = z := by rintro rfl; exact ep k2.symm
        obtain ⟨k', w1, w2⟩ := shk_onto hkz k1 hz
        exact Or.inl ⟨k', w1, by dsimp only; rw [w2]; exact k2⟩
      · exact Or.inr hp
  · rw [t3 60 (by omega), cs_i _ _ (by decide)]
  · rw [fr 1 (by decide) (by decide) (by decide) (by decide)]
theorem SIM_ref {σ m h : Rg} {ns N G nn gc z s : Nat} {P Q PG QG : Nat → Nat} (hR : R σ m h ns N G nn gc P Q PG QG 1000 1000) (hz : z < N) (h68 : h 68 0 z = nI s) (h70 : h 70 0 z = 0) (hno : NoRow (fun s => σ 3 s 4) (σ 7) ns (P z)) (h11 : σ 1 0 11 = σ 16 0 (P z)) (h12 : σ 1 0 12 = 0) (hs6 : s < 6) :
    ∃ σ2 h3 v σ' h' N' G' P' Q' PG' QG', CX 2 25 8 0 [.inl (nI (P z))] σ none σ2 ∧ ST 3 0 σ2 σ' ∧ MX 2 89 [.inl (h 67 0 z)] m h none m h3 ∧ MX (9 * s + 4) 94 [.inl (h 67 0 z), .inl (h 71 0 z), .inl 0] m h3 (some v) m h' ∧ R σ' m h' ns N' G' nn gc P' Q' PG' QG' 1000 1000 ∧ σ' 1 0 11 = -1 ∧ Tr N N' P P' σ σ' h h' ∧ (s = 0 → G' = G ∧ PG' = PG ∧ GK h h') := by
  obtain ⟨r1, r2, r3, r4, r5, r6, r7, r8, r9, r10, r11⟩ := id hR
  have hinj := r1.2.2.2.1
  have hb := r1.2.1
  have hgb := r2.2.1
  have hN120 : N ≤ 120 := r1.1
  have hG100 : G ≤ 100 := r2.1
  have hNN : h 60 0 15 = nI N := r10.2.1
  have hGG : h 60 0 22 = nI G := r10.2.2.1
  have hnn : nn < 1073741824 := r10.2.2.2.1.1
  obtain ⟨⟨n0, hn0, hn1⟩, ⟨s1, hs1, hs2⟩, -⟩ := r4.1 z hz
  have huz : ∀ i, i < z → ¬ h 67 0 i = h 67 0 z := fun i hi' e => absurd (r4.uniq (by omega) hz e) (by omega)
  obtain ⟨σ2, c1, c2, c3⟩ := T_remove r1 hz
  obtain ⟨h3, m0, m1, m2⟩ := T_takeOut (m := m) hNN hN120 hz rfl huz
  have pin : ∀ i j, i < N → j < N → nI (P i) = nI (P j) → i = j := fun i j hi' hj' e => hinj i j hi' hj' (nI_inj (by have := hb i hi'; omega) (by have := hb j hj'; omega) e)
  obtain ⟨l1, l2, l3, l4⟩ := id r5
  have h17 : σ 17 0 (P z) = -1 := by
    rcases l1 z hz (by omega) with w | ⟨w, -⟩
    · exact w.1
    · rw [h70] at w; exact absurd w (by decide)
  have s11 : σ2 1 0 11 = σ 16 0 (P z) := by rw [c3 1 (by decide) (by decide) (by decide), cs_a _ _ (by decide)]; exact h11
  have s12 : σ2 1 0 12 = 0 := by rw [c3 1 (by decide) (by decide) (by decide), cs_a _ _ (by decide)]; exact h12
  have tr := Tr_rem0 (P := P) hz c3 m1 m2
  have r10' : h3 60 0 15 = nI (N - 1) := by rw [m2 60 (by omega), cs_s]
  have r22' : h3 60 0 22 = nI G := by rw [m2 60 (by omega), cs_i _ _ (by decide)]; exact hGG
  have gk : GK h h3 := ⟨by rw [m2 79 (by omega), cs_a _ _ (by decide)], fun k hk => by rw [m2 77 (by omega), cs_a _ _ (by decide)] at hk; exact hk⟩
  have nz : ∀ k, k < N - 1 → ¬ h3 67 0 k = h 67 0 z := fun k hk e => by
    rw [m1 67 (by decide) (by decide) k hk] at e
    exact shk_ne z k (r4.uniq (shk_lt hz hk) hz e)
  have h76 : h3 76 = h 76 := by rw [m2 76 (by omega), cs_a _ _ (by decide)]
  rcases l2 z hz with hx | ⟨kk, hk1, hk2, hk3, hk4⟩ | ⟨j, hj1, hj2, hj3, hj4⟩
  · have hR2 := R_rem0 (pj' := 1000) (pg' := 1000) hR hz h70 hno rfl (by omega) h17 (by omega) (fun k hk _ e => by rw [hx] at e; exact nI_m1 (by have := hb _ (shk_lt hz hk); omega) e.symm) (fun j hj _ e => by rw [hx] at e; exact nI_m1 (by have := hgb j hj; omega) e.symm) (fun e => by omega) (fun e => by omega) c2 c3 m1 m2
    have lk := hR2.2.2.2.2.1
    have tell : MX 2 94 [.inl (h 67 0 z), .inl (h 71 0 z), .inl 0] m h3 (some 0) m h3 := by
      rcases l4 z hz with e | ⟨nr, hnr, e⟩
      · rw [e]
        refine T_tellNoG r22' hG100 (fun j hj e2 => ?_) (by decide)
        rcases lk.2.2.1 j hj (by omega) with w | ⟨i', w1, w2, w3, -⟩
        · rw [w.2, hn1] at e2; exact nI_neg (by omega) (by decide) e2.symm
        · exact nz i' w1 (w3.symm.trans e2)
      · rw [e]
        refine T_tellNoJ r10' (by omega) hnr (fun i' j' hi' hj' e2 => ?_) (fun k hk _ _ e2 => ?_)
        · rw [m1 67 (by decide) (by decide) i' hi', m1 67 (by decide) (by decide) j' hj'] at e2
          exact shk_inj (r4.uniq (shk_lt hz hi') (shk_lt hz hj') e2)
        · rcases lk.1 k hk (by omega) with w | ⟨-, i', w1, -, w3, -⟩
          · rw [w.2, hn1] at e2; exact nI_m1 (by omega) e2.symm
          · exact nz i' w1 (w3.symm.trans e2)
    exact ⟨σ2, h3, 0, σ2, h3, N - 1, G, _, _, PG, QG, c1, ST.mono (ST_stop (s11.trans hx)) (by decide), m0, tell.mono (by omega), hR2, s11.trans hx, tr, fun _ => ⟨rfl, rfl, gk⟩⟩
  · have hkz : ¬ kk = z := by
      rintro rfl
      rw [h17] at hk4; exact nI_m1 (by have := hb _ hz; omega) hk4.symm
    obtain ⟨k', w1, w2⟩ := shk_onto hkz hk1 hz
    obtain ⟨u70, u74, u71, u68⟩ : h 70 0 kk = 2 ∧ h 74 0 kk = h 67 0 z ∧ h 71 0 z = h 67 0 kk ∧ h 68 0 z = h 68 0 kk + 1 := by
      rcases l1 kk hk1 hk2 with w | ⟨v1, i', v2, v3, v4, v5, v6, v7⟩
      · rw [w.1] at hk4; exact absurd hk4.symm (nI_m1 (by have := hb _ hz; omega))
      · rw [hk4] at v3
        have := pin _ _ hz v2 v3
        subst this
        exact ⟨v1, v4, v6, v7⟩
    have hR2 := R_rem0 (pj' := k') (pg' := 1000) hR hz h70 hno rfl (by omega) h17 (by omega) (fun k hk hne e => by
        rw [hk3] at e
        have := pin _ _ hk1 (shk_lt hz hk) e
        rw [← w2] at this
        exact hne (shk_inj this).symm) (fun j hj _ e => by
        rw [hk3] at e
        have := nI_inj (by have := hb _ hk1; omega) (by have := hgb j hj; omega) e
        have := hb _ hk1
        omega) (fun _ => by rw [w2]; exact hk4) (fun e => by omega) c2 c3 m1 m2
    obtain ⟨⟨nk, hnk0, hnk1⟩, ⟨s2, hs21, hs22⟩, -⟩ := r4.1 kk hk1
    have hns : ns ≤ 6 := r10.1.1
    have es : s = s2 + 1 := by
      rw [h68, hs22, nI_1] at u68
      exact nI_inj (by omega) (by omega) u68
    have e67 : h3 67 0 k' = nI nk := by rw [m1 67 (by decide) (by decide) k' w1, w2, hnk1]
    obtain ⟨σ', h', N', G', P', Q', PG', QG', a1, a2, a3, a4, a5⟩ := ans_at s2 (i := 0) hR2 (by omega) w1 (by rw [m1 68 (by decide) (by decide) k' w1, w2, hs22]) (by rw [m1 70 (by decide) (by decide) k' w1, w2, u70]; decide) (by have := nI_inj (a := s) (b := s1) (by omega) (by omega) (h68.symm.trans hs2); omega) (Or.inl rfl) (by rw [s11, hk3, w2]) s12 (by omega)
    rw [e67] at a2
    have tell := T_tellJ (n := h 67 0 z) r10' (by omega) w1 e67 (by omega) (fun i' hi' e => by
        rw [m1 67 (by decide) (by decide) i' (by omega), ← hnk1] at e
        have := r4.uniq (shk_lt hz (by omega)) hk1 e
        rw [← w2] at this
        have := shk_inj this
        omega) (by rw [m1 70 (by decide) (by decide) k' w1, w2, u70]) (by rw [m1 74 (by decide) (by decide) k' w1, w2, u74]) a2
    rw [← hnk1, ← u71] at tell
    exact ⟨σ2, h3, 1, σ', h', N', G', P', Q', PG', QG', c1, a1, m0, tell.mono (by omega), a3, a4, tr.trans a5, fun e => absurd e (by omega)⟩
  · obtain ⟨u76, u71⟩ : h 76 0 j = h 67 0 z ∧ h 71 0 z = -4 := by
      rcases l3 j hj1 hj2 with w | ⟨i', v1, v2, v3, v4, v5, v6⟩
      · rw [w.1] at hj4; exact absurd hj4.symm (nI_m1 (by have := hb _ hz; omega))
      · rw [hj4] at v2
        have := pin _ _ hz v1 v2
        subst this
        exact ⟨v3, v5⟩
    have hR2 := R_rem0 (pj' := 1000) (pg' := j) hR hz h70 hno rfl (by omega) h17 (by omega) (fun k hk _ e => by
        rw [hj3] at e
        have := nI_inj (by have := hgb _ hj1; omega) (by have := hb _ (shk_lt hz hk); omega) e
        have := hb _ (shk_lt hz hk)
        omega) (fun j' hj' hne e => by
        rw [hj3] at e
        have := nI_inj (by have := hgb _ hj1; omega) (by have := hgb j' hj'; omega) e
        exact hne (r2.2.2.2.1 _ _ hj' hj1 (by omega))) (fun e => by omega) (fun _ => hj4) c2 c3 m1 m2
    obtain ⟨σ', h', G', PG', QG', a1, a2, a3, a4, a5, a6⟩ := SIM_G (i := 0) hR2 (by omega) hj1 (by rw [s11, hj3]) s12 (Or.inl rfl) (by omega)
    have tell := T_tellG (n := h 67 0 z) (raw := -4) r22' hG100 hj1 (by rw [h76, u76]) (fun i' hi' e => by
        rw [h76] at e
        rcases l3 i' (by omega) (by omega) with w | ⟨i2, v1, v2, v3, v4, v5, v6⟩
        · rw [w.2, hn1] at e; exact nI_neg (by omega) (by decide) e.symm
        · have := r4.uniq v1 hz (v3.symm.trans e)
          subst this
          rw [hj3] at v4
          have := nI_inj (by have := hgb _ hj1; omega) (by have := hgb i' (by omega); omega) v4
          have := r2.2.2.2.1 _ _ hj1 (by omega : i' < G) (by omega)
          omega) (by decide) a2
    rw [← u71] at tell
    refine ⟨σ2, h3, 1, σ', h', N - 1, G', _, _, PG', QG', c1, a1, m0, tell.mono (by omega), a3, a4, tr.trans a5, fun _ => ?_⟩
    rcases a6 with ⟨-, a7, a8, a9⟩ | ⟨a7, -⟩
    · exact ⟨a7, a8, a9.1.trans gk.1, fun k hk => gk.2 k (by have := a9.2 k; rw [tr.2.2.1] at this; exact this hk)⟩
    · exact absurd a7 (by decide)
