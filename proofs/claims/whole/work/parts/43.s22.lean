/-! work ends; pauses end; deadlines; both sides -/
theorem body5 {σ m h : Rg} {ns N G nn gc k dn i mn i' : Nat} {P Q PG QG : Nat → Nat} (hR : R σ m h ns N G nn gc P Q PG QG 1000 1000) (h11 : σ 1 0 11 = -1) (hns0 : 0 < ns) (hnn : nn + 1 < 1073741824) (hk : k < N) (h70 : h 70 0 k = 1) (h72 : h 72 0 k = h 60 0 0) (h10 : σ 1 0 10 = nI dn) (hi : i < dn) (hdn : dn ≤ 120) (h35 : σ 35 0 i = nI (P k)) (h19 : m 40 0 19 = nI mn) (hi' : i' < mn) (hmn : mn ≤ 120) (h48 : m 48 0 i' = h 67 0 k) :
    ∃ σ1 h1 N' G' P' Q' PG' QG' nn', (∀ σ', C5 (i + 1) σ1 σ' → C5 i σ σ') ∧ (∀ h', D6 m (i' + 1) h1 h' → D6 m i' h h') ∧ R σ1 m h1 ns N' G' nn' gc P' Q' PG' QG' 1000 1000 ∧ nn' ≤ nn + 1 ∧ σ1 1 0 11 = -1 ∧ Tr N N' P P' σ σ1 h h1 := by
  obtain ⟨r1, r2, r3, r4, r5, r6, r7, r8, r9, r10, r11⟩ := id hR
  have hns : ns ≤ 6 := r10.1.1
  have hc1 : σ 1 0 1 = nI ns := r10.1.2.1
  have hm2 : m 40 0 2 = nI ns := r10.1.2.2
  have hN120 : N ≤ 120 := r1.1
  have hG100 : G ≤ 100 := r2.1
  have hNN : h 60 0 15 = nI N := r10.2.1
  obtain ⟨tt, ht0, ht1, ht2⟩ := r10.2.2.2.2.2.1
  have hp := r1.2.1 k hk
  obtain ⟨s, hs1, hs2⟩ := (r4.1 k hk).2.1
  obtain ⟨e12, e13, e14, e15, e18, e19⟩ := r3 k hk
  have hdue : σ 15 0 (P k) = 1 ∧ σ 18 0 (P k) = σ 1 0 2 := ⟨e15.symm.trans h70, by rw [← e18, h72, ht1, ht2]⟩
  have h13 : σ 13 0 (P k) = nI s := e13.symm.trans hs2
  have huz : ∀ i, i < k → ¬ h 67 0 i = h 67 0 k := fun i hi' e => absurd (r4.uniq (by omega) hk e) (by omega)
  have hI := T_isSo1 (m := m) hNN hN120 hk rfl huz h70 h72
  have hP := T_placeOf (m := m) hNN hN120 hk rfl huz
  have h17 : σ 17 0 (P k) = -1 := by
    rcases r5.1 k hk (by omega) with w | ⟨w, -⟩
    · exact w.1
    · rw [h70] at w; exact absurd w (by decide)
  by_cases c : s + 1 < ns
  · obtain ⟨σ1, σ2, h2, N', G', P', Q', PG', QG', nn', a1, a2, a3, a4, a5, a6, a7⟩ := SIM_ask hR hnn hk hs2 c (by rw [h70]; decide) (by rw [h70]; decide) h11
    exact ⟨σ2, h2, N', G', P', Q', PG', QG', nn', fun σ' H => C5_body h10 hi hdn h35 hp hdue hns hc1 (by omega) h13 (Or.inl ⟨c, a1⟩) a2 H, fun h' H => D6_body (N := N) h19 hi' hmn h48 hI hP (by omega) hns0 hns hm2 (by omega) hs2 (Or.inl ⟨c, a3.mono (by omega)⟩) H, a4, a5, a6, a7⟩
  · obtain ⟨σ1, σ2, h2, N', G', P', Q', PG', QG', a1, a2, a3, a4, a5, a6⟩ := end_at (s := s) (i := 0) (g := 1) hR (Or.inr ⟨by omega, h17⟩) (by omega) hk hs2 (by rw [h70]; decide) (Or.inr rfl) (by omega)
    exact ⟨σ2, h2, N', G', P', Q', PG', QG', nn, fun σ' H => C5_body h10 hi hdn h35 hp hdue hns hc1 (by omega) h13 (Or.inr ⟨by omega, a1⟩) a2 H, fun h' H => D6_body (N := N) h19 hi' hmn h48 hI hP (by omega) hns0 hns hm2 (by omega) hs2 (Or.inr ⟨by omega, a3.mono (by omega)⟩) H, a4, by omega, a5, a6⟩
theorem body6 {σ m h : Rg} {ns N G nn gc k dn i mn i' : Nat} {P Q PG QG : Nat → Nat} (hR : R σ m h ns N G nn gc P Q PG QG 1000 1000) (h11 : σ 1 0 11 = -1) (_ : 0 < ns) (hnn : nn + 1 < 1073741824) (hk : k < N) (h70 : h 70 0 k = 3) (h72 : h 72 0 k = h 60 0 0) (h10 : σ 1 0 10 = nI dn) (hi : i < dn) (hdn : dn ≤ 120) (h35 : σ 35 0 i = nI (P k)) (h19 : m 40 0 19 = nI mn) (hi' : i' < mn) (hmn : mn ≤ 120) (h48 : m 48 0 i' = h 67 0 k) :
    ∃ σ1 h1 N' G' P' Q' PG' QG' nn', (∀ σ', C6 (i + 1) σ1 σ' → C6 i σ σ') ∧ (∀ h', D7 m (i' + 1) h1 h' → D7 m i' h h') ∧ R σ1 m h1 ns N' G' nn' gc P' Q' PG' QG' 1000 1000 ∧ nn' ≤ nn + 1 ∧ σ1 1 0 11 = -1 ∧ Tr N N' P P' σ σ1 h h1 := by
  obtain ⟨r1, r2, r3, r4, r5, r6, r7, r8, r9, r10, r11⟩ := id hR
  have hns : ns ≤ 6 := r10.1.1
  have hN120 : N ≤ 120 := r1.1
  have hNN : h 60 0 15 = nI N := r10.2.1
  obtain ⟨tt, ht0, ht1, ht2⟩ := r10.2.2.2.2.2.1
  have hp := r1.2.1 k hk
  obtain ⟨s, hc, hs2⟩ := (r4.1 k hk).2.2.2.2.1 (Or.inr h70)
  obtain ⟨e12, e13, e14, e15, e18, e19⟩ := r3 k hk
  have hdue : σ 15 0 (P k) = 3 ∧ σ 18 0 (P k) = σ 1 0 2 := ⟨e15.symm.trans h70, by rw [← e18, h72, ht1, ht2]⟩
  have huz : ∀ i, i < k → ¬ h 67 0 i = h 67 0 k := fun i hi' e => absurd (r4.uniq (by omega) hk e) (by omega)
  have hI := T_isSo1 (m := m) hNN hN120 hk rfl huz h70 h72
  have hP := T_placeOf (m := m) hNN hN120 hk rfl huz
  have hR1 := R_again (v := h 73 0 k + 1) hR hk
  have b67 : cset h 73 0 k (h 73 0 k + 1) 67 = h 67 := cs_a _ _ (by decide)
  have b68 : cset h 73 0 k (h 73 0 k + 1) 68 = h 68 := cs_a _ _ (by decide)
  have b70 : cset h 73 0 k (h 73 0 k + 1) 70 = h 70 := cs_a _ _ (by decide)
  obtain ⟨σ1, σ2, h2, N', G', P', Q', PG', QG', nn', a1, a2, a3, a4, a5, a6, a7⟩ := SIM_ask hR1 hnn hk (by rw [b68]; exact hs2) hc (by rw [b70, h70]; decide) (by rw [b70, h70]; decide) (by rw [cs_a _ _ (by decide)]; exact h11)
  rw [b67] at a3
  rw [e19] at a1
  refine ⟨σ2, h2, N', G', P', Q', PG', QG', nn', fun σ' H => C6_body h10 hi hdn h35 hp hdue a1 a2 H, fun h' H => D7_body h19 hi' hmn h48 hI hP (by omega) (a3.mono (by omega)) H, a4, a5, a6, Tr.trans (Tr.same b67 b70 (cs_a _ _ (by decide)) ?_ (cs_a _ _ (by decide)) (fun a ha => cs_a _ _ (by omega)) ?_ (cs_a _ _ (by decide))) a7⟩
  · rw [cs_a _ _ (by decide)]
  · rw [cs_a _ _ (by decide)]
theorem body7 {σ m h : Rg} {ns N G nn gc k dn i mn i' : Nat} {P Q PG QG : Nat → Nat} (hR : R σ m h ns N G nn gc P Q PG QG 1000 1000) (h11 : σ 1 0 11 = -1) (_ : 0 < ns) (_ : nn + 1 < 1073741824) (hk : k < N) (h70 : h 70 0 k = 2) (h72 : h 72 0 k = h 60 0 0) (h10 : σ 1 0 10 = nI dn) (hi : i < dn) (hdn : dn ≤ 120) (h35 : σ 35 0 i = nI (P k)) (h19 : m 40 0 19 = nI mn) (hi' : i' < mn) (hmn : mn ≤ 120) (h48 : m 48 0 i' = h 67 0 k) :
    ∃ σ1 h1 N' G' P' Q' PG' QG' nn', (∀ σ', C7 (i + 1) σ1 σ' → C7 i σ σ') ∧ (∀ h', D8 m (i' + 1) h1 h' → D8 m i' h h') ∧ R σ1 m h1 ns N' G' nn' gc P' Q' PG' QG' 1000 1000 ∧ nn' ≤ nn + 1 ∧ σ1 1 0 11 = -1 ∧ Tr N N' P P' σ σ1 h h1 := by
  obtain ⟨r1, r2, r3, r4, r5, r6, r7, r8, r9, r10, r11⟩ := id hR
  have hns : ns ≤ 6 := r10.1.1
  have hN120 : N ≤ 120 := r1.1
  have hG100 : G ≤ 100 := r2.1
  have hNN : h 60 0 15 = nI N := r10.2.1
  obtain ⟨tt, ht0, ht1, ht2⟩ := r10.2.2.2.2.2.1
  have hp := r1.2.1 k hk
  obtain ⟨s, hc, hs2⟩ := (r4.1 k hk).2.2.2.2.1 (Or.inl h70)
  have hs1 : s < ns := by omega
  obtain ⟨e12, e13, e14, e15, e18, e19⟩ := r3 k hk
  have hdue : σ 15 0 (P k) = 2 ∧ σ 18 0 (P k) = σ 1 0 2 := ⟨e15.symm.trans h70, by rw [← e18, h72, ht1, ht2]⟩
  have huz : ∀ i, i < k → ¬ h 67 0 i = h 67 0 k := fun i hi' e => absurd (r4.uniq (by omega) hk e) (by omega)
  have hI := T_isSo1 (m := m) hNN hN120 hk rfl huz h70 h72
  obtain ⟨σ0, b1, b2, b3⟩ : ∃ σ0, CX 1 17 1 0 [.inl (σ 17 0 (P k))] σ none σ0 ∧ R σ0 m h ns N G nn gc P Q PG QG k 1000 ∧ ∀ a, a ≠ 16 → σ0 a = σ a := by
    rcases r5.1 k hk (by omega) with ⟨w, -⟩ | ⟨-, i', w1, w2, -⟩
    · refine ⟨σ, ?_, R_weak hR (by omega) w, fun _ _ => rfl⟩
      rw [w]; exact T_giveNo
    · refine ⟨_, ?_, R_give hR (by omega) hk w1 w2, fun a ha => cs_a _ _ ha⟩
      rw [w2]; exact T_giveUp (r1.2.1 i' w1)
  have tr0 : Tr N N P P σ σ0 h h := Tr.same rfl rfl rfl rfl (b3 15 (by decide)) (fun a ha => b3 a (by omega)) (by rw [b3 1 (by decide)]) (b3 4 (by decide))
  have h13 : σ0 13 0 (P k) = nI s := by rw [b3 13 (by decide)]; exact e13.symm.trans hs2
  have g19 : σ0 19 0 (P k) = h 73 0 k := by rw [b3 19 (by decide)]; exact e19.symm
  have ru := (r9 s hs1).1
  have e1 : σ0 4 s 1 = m 41 0 (9 * s + 1) := by rw [b3 4 (by decide)]; exact ru 1 (by decide)
  have hRf := R_fail (s := s) (pj' := 1000) b2 hk hs1 (by omega)
  obtain ⟨tf1, tf0⟩ := T_fail (σ := σ0) (p := P k) (s := s) hp (by omega) h13
  obtain ⟨mf1, mf0⟩ := T_mfail (m := m) hNN hN120 hk rfl huz (by omega) hs2
  rw [g19, e1] at tf1 tf0
  have trf : Tr N N P P σ (cF σ0 (P k) s) h (mF m h k s) := tr0.trans Tr_fail
  have f11 : cF σ0 (P k) s 1 0 11 = -1 := by rw [cF_1 (by decide), b3 1 (by decide)]; exact h11
  by_cases ha : h 73 0 k < m 41 0 (9 * s + 1)
  · have ha' : ¬ m 41 0 (9 * s + 1) ≤ h 73 0 k := Int32.not_le.mpr ha
    have ecp : cP σ0 (P k) s = mPz m h k s := by
      unfold cP mPz
      rw [g19, b3 1 (by decide), b3 4 (by decide), ru 2 (by decide), ht1, ht2]
    obtain ⟨-, -, ⟨v2, hv21, hv22⟩, -⟩ := (r9 s hs1).2.2
    have hRp := R_state (u := 3) (v := mPz m h k s) hRf hk (by rw [mF_o (by decide) (by decide), h70]; decide) (Or.inr ⟨Or.inr rfl, s, hc, by rw [mF_o (by decide) (by decide)]; exact hs2⟩) (Or.inr cF_17)
    have tf := tf1 ha
    rw [ecp] at tf
    refine ⟨_, _, N, G, P, Q, PG, QG, nn, fun σ' H => C7_body (σ1 := σ) h10 hi hdn h35 hp hdue b1 (Or.inl tf) (ST.mono (ST_stop ?_) (by decide)) H, fun h' H => D8_body h19 hi' hmn h48 hI ((mf1 ha').mono (by decide)) H, hRp, by omega, ?_, trf.trans (Tr.st ?_ (by decide) hk)⟩
    · simp (disch := decide) only [cs_a]; exact f11
    · simp (disch := decide) only [cs_a]; exact f11
    · rw [mF_60 (by decide)]
      unfold mPz
      rw [← ru 2 (by decide), hv22]
      exact pause_ne _ _ hv21
  · have ha' : m 41 0 (9 * s + 1) ≤ h 73 0 k := Int32.not_lt.mp ha
    obtain ⟨σ2, σ3, h3, N', G', P', Q', PG', QG', a1, a2, a3, a4, a5, a6⟩ := end_at (s := s) (i := 0) (g := 0) hRf (Or.inr ⟨by omega, cF_17⟩) (by omega) hk (by rw [mF_o (by decide) (by decide)]; exact hs2) (by rw [mF_o (by decide) (by decide), h70]; decide) (Or.inl rfl) (by omega)
    rw [mF_o (by decide) (by decide)] at a3
    exact ⟨σ3, h3, N', G', P', Q', PG', QG', nn, fun σ' H => C7_body h10 hi hdn h35 hp hdue b1 (Or.inr ⟨tf0 ha, a1⟩) a2 H, fun h' H => D8_body h19 hi' hmn h48 hI ((mf0 ha' _ _ a3).mono (by omega)) H, a4, by omega, a5, trf.trans a6⟩
