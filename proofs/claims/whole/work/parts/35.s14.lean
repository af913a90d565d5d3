/-! a job asks; a guest asks -/
theorem cs_same {σ : Rg} {a o i : Nat} {v : Int32} (h : σ a o i = v) : cset σ a o i v = σ := by
  funext b p j
  by_cases ea : b = a
  · subst ea
    rw [cs_f]
    by_cases eo : p = o
    · subst eo
      rw [va_up_self]
      by_cases ei : j = i
      · subst ei; rw [va_up_self]; exact h.symm
      · rw [va_up_ne _ _ ei]
    · rw [va_up_ne _ _ eo]
  · rw [cs_a _ _ ea]
theorem R_weak {σ m h : Rg} {ns N G nn gc kk pj pg : Nat} {P Q PG QG : Nat → Nat} (hR : R σ m h ns N G nn gc P Q PG QG pj pg) (hpj : N ≤ pj) (hc : σ 17 0 (P kk) = -1) : R σ m h ns N G nn gc P Q PG QG kk pg := by
  obtain ⟨r1, r2, r3, r4, r5, r6⟩ := hR
  exact ⟨r1, r2, r3, r4, r5.weak hpj r1.2.1 hc, r6⟩
theorem R_gweak {σ m h : Rg} {ns N G nn gc z pj pg : Nat} {P Q PG QG : Nat → Nat} (hR : R σ m h ns N G nn gc P Q PG QG pj pg) (hpg : G ≤ pg) (hc : σ 25 0 (PG z) = -1) : R σ m h ns N G nn gc P Q PG QG pj z := by
  obtain ⟨r1, r2, r3, r4, r5, r6⟩ := hR
  exact ⟨r1, r2, r3, r4, r5.gweak hpg r1.2.1 hc, r6⟩
theorem T_toAsk0 {σ σ1 : Rg} {p s q : Nat} (hp : p < 120) (hs : s < 6) (h13 : σ 13 0 p = nI s) (h14 : σ 14 0 p = nI q) (hr : σ 3 s 6 < σ 1 0 2) (hE : CX 4 13 1 0 [.inl (nI (s + 1)), .inl (nI q), .inl (nI p)] (cset (cset σ 15 0 p 2) 18 0 p (σ 1 0 2 + σ 4 s 0)) none σ1) : CX 5 12 1 0 [.inl (nI p)] σ none σ1 := fun d μ r => M12 (by
  have v0 : vp_in (nI p) 120 := vp_in_nI (by omega) (by decide)
  have k0 : (nI p).toNatClampNeg = p := nI_cl (by omega)
  have v1 : vp_in (nI s) 6 := vp_in_nI (by omega) (by decide)
  have k1 : (nI s).toNatClampNeg = s := nI_cl (by omega)
  simp only [va_up_self, k0, v0, h13, v1, k1, true_and]
  refine ⟨_, _, T_rests.mono (by decide) d μ r, ?_⟩
  rw [if_pos hr]
  refine ⟨fun _ => ⟨_, (T_become hp).mono (by decide) d μ r, ?_⟩, fun e => absurd rfl e⟩
  simp (disch := decide) only [B12_80, va_up_self, cs_a, h13, h14, nI_1]
  exact ⟨_, hE d μ r, rfl⟩)
theorem T_toAsk1 {σ σ1 : Rg} {p s : Nat} (hp : p < 120) (hs : s < 6) (h13 : σ 13 0 p = nI s) (hr : ¬ σ 3 s 6 < σ 1 0 2) (hE : CX 3 18 1 0 [.inl (nI p), .inl 0] σ none σ1) : CX 4 12 1 0 [.inl (nI p)] σ none σ1 := fun d μ r => M12 (by
  have v0 : vp_in (nI p) 120 := vp_in_nI (by omega) (by decide)
  have k0 : (nI p).toNatClampNeg = p := nI_cl (by omega)
  have v1 : vp_in (nI s) 6 := vp_in_nI (by omega) (by decide)
  have k1 : (nI s).toNatClampNeg = s := nI_cl (by omega)
  simp only [va_up_self, k0, v0, h13, v1, k1, true_and]
  refine ⟨_, _, T_rests.mono (by decide) d μ r, ?_⟩
  rw [if_neg hr]
  refine ⟨fun e => absurd e (by decide), fun _ => ⟨_, hE d μ r, ?_⟩⟩
  simp only [B12_80])
theorem T_ask0 {m h h1 h' : Rg} {N z s q k : Nat} {n v : Int32} (hN : h 60 0 15 = nI N) (hb : N ≤ 120) (hz : z < N) (hn : h 67 0 z = n) (hu : ∀ i, i < z → ¬ h 67 0 i = n) (hs : s < 6) (h68 : h 68 0 z = nI s) (h69 : h 69 0 z = nI q) (hr : h 61 0 s < h 60 0 0) (hC : MX (k + 1) 92 [.inl (nI (s + 1)), .inl (nI q), .inl n, .inl (-1)] m (cset (cset (cset h 70 0 z 2) 72 0 z (h 60 0 0 + m 41 0 (9 * s))) 74 0 z (-1)) (some v) m h1) (hv : (¬ v < 0 ∧ h' = h1) ∨ (v = -1 ∧ MX (k + 1) 98 [.inl n, .inl 1] m h1 none m h') ∨ (v = -2 ∧ MX (k + 1) 98 [.inl n, .inl 0] m h1 none m h')) : MX (k + 2) 101 [.inl n] m h none m h' := fun d μ => M101 (by
  have v0 : vp_in (nI z) 120 := vp_in_nI (by omega) (by decide)
  have k0 : (nI z).toNatClampNeg = z := nI_cl (by omega)
  refine ⟨_, _, (T_placeOf hN hb hz hn hu).mono (by omega) d μ, v0, ?_⟩
  simp only [Nat.reduceAdd, mm4, k0, h68]
  refine ⟨_, _, (T_mrests hs).mono (by omega) d μ, ?_⟩
  rw [if_pos hr]
  refine ⟨fun _ => ⟨v0, ?_⟩, fun e => absurd rfl e⟩
  simp only [ms4]
  refine ⟨_, _, (T_ruled hs (by decide) rfl).mono (by omega) d μ, v0, v0, v0, ?_⟩
  simp (disch := decide) only [mm4, ms4, cs_a, h69, nI_1, B101_112, B101_115]
  refine ⟨_, _, hC d μ, ?_⟩
  rcases hv with ⟨e1, e2⟩ | ⟨e1, e2⟩ | ⟨e1, e2⟩
  · exact ⟨fun _ => by rw [e2], fun e => absurd (Int32.not_lt.mp e1) e⟩
  · rw [e1]
    exact ⟨fun e => absurd e (by decide), fun _ => ⟨fun e => absurd rfl e, fun _ => ⟨_, e2 d μ, rfl⟩⟩⟩
  · rw [e1]
    exact ⟨fun e => absurd e (by decide), fun _ => ⟨fun _ => ⟨_, e2 d μ, rfl⟩, fun e => absurd (by decide) e⟩⟩)
theorem T_ask1 {m h h' : Rg} {N z s k : Nat} {n : Int32} (hN : h 60 0 15 = nI N) (hb : N ≤ 120) (hz : z < N) (hn : h 67 0 z = n) (hu : ∀ i, i < z → ¬ h 67 0 i = n) (hs : s < 6) (h68 : h 68 0 z = nI s) (hr : ¬ h 61 0 s < h 60 0 0) (hC : MX (k + 1) 97 [.inl n, .inl 0] m h none m h') : MX (k + 2) 101 [.inl n] m h none m h' := fun d μ => M101 (by
  have v0 : vp_in (nI z) 120 := vp_in_nI (by omega) (by decide)
  have k0 : (nI z).toNatClampNeg = z := nI_cl (by omega)
  refine ⟨_, _, (T_placeOf hN hb hz hn hu).mono (by omega) d μ, v0, ?_⟩
  simp only [Nat.reduceAdd, mm4, k0, h68]
  refine ⟨_, _, (T_mrests hs).mono (by omega) d μ, ?_⟩
  rw [if_neg hr]
  exact ⟨fun e => absurd e (by decide), fun _ => ⟨_, hC d μ, rfl⟩⟩)
theorem SIM_ask {σ m h : Rg} {ns N G nn gc z s : Nat} {P Q PG QG : Nat → Nat} (hR : R σ m h ns N G nn gc P Q PG QG 1000 1000) (hnn : nn + 1 < 1073741824) (hz : z < N) (h68 : h 68 0 z = nI s) (hs : s + 1 < ns) (h70 : ¬ h 70 0 z = 0) (h702 : ¬ h 70 0 z = 2) (h11 : σ 1 0 11 = -1) :
    ∃ σ1 σ' h' N' G' P' Q' PG' QG' nn', CX 5 12 1 0 [.inl (nI (P z))] σ none σ1 ∧ ST 3 0 σ1 σ' ∧ MX (9 * s + 16) 101 [.inl (h 67 0 z)] m h none m h' ∧ R σ' m h' ns N' G' nn' gc P' Q' PG' QG' 1000 1000 ∧ nn' ≤ nn + 1 ∧ σ' 1 0 11 = -1 ∧ Tr N N' P P' σ σ' h h' := by
  obtain ⟨r1, r2, r3, r4, r5, r6, r7, r8, r9, r10, r11⟩ := id hR
  have hns : ns ≤ 6 := r10.1.1
  have hN120 : N ≤ 120 := r1.1
  have hNN : h 60 0 15 = nI N := r10.2.1
  have hG100 : G ≤ 100 := r2.1
  obtain ⟨tt, ht0, ht1, ht2⟩ := r10.2.2.2.2.2.1
  have hb := r1.2.1
  have hp := hb z hz
  obtain ⟨e12, e13, e14, e15, -⟩ := r3 z hz
  have h13 : σ 13 0 (P z) = nI s := e13.symm.trans h68
  obtain ⟨q, hq1, hq2⟩ := (r4.1 z hz).2.2.1
  have h14 : σ 14 0 (P z) = nI q := e14.symm.trans hq2
  have huz : ∀ i, i < z → ¬ h 67 0 i = h 67 0 z := fun i hi' e => absurd (r4.uniq (by omega) hz e) (by omega)
  obtain ⟨h17, h74⟩ : σ 17 0 (P z) = -1 ∧ h 74 0 z = -1 := by
    rcases r5.1 z hz (by omega) with w | ⟨w, -⟩
    · exact w
    · exact absurd w h702
  obtain ⟨q1, q2, q3⟩ := r9 s (by omega)
  have sv : σ 3 s 6 = h 61 0 s ∨ (σ 3 s 6 = -4 ∧ h 61 0 s = -1) := (r8 s (by omega)).2.2.2
  have rests : (σ 3 s 6 < σ 1 0 2) ↔ (h 61 0 s < h 60 0 0) := by
    rw [ht1, ht2]
    rcases sv with e | ⟨e1, e2⟩
    · rw [e]
    · rw [e1, e2]
      exact ⟨fun _ => Int32.lt_of_lt_of_le (by decide) (nI_leI (a := 0) (b := tt) (by decide) (by omega) |>.mpr (Nat.zero_le _)), fun _ => Int32.lt_of_lt_of_le (by decide) (nI_leI (a := 0) (b := tt) (by decide) (by omega) |>.mpr (Nat.zero_le _))⟩
  by_cases hr : σ 3 s 6 < σ 1 0 2
  · have hr' := rests.mp hr
    have ev : σ 1 0 2 + σ 4 s 0 = h 60 0 0 + m 41 0 (9 * s) := by rw [ht1, ht2, q1 0 (by decide)]; rfl
    obtain ⟨v, v1, v2, v3⟩ := q3.1
    have hne : ¬ h 60 0 0 + m 41 0 (9 * s) = h 60 0 0 := by
      rw [← ev, ht1, ht2, v3]; exact add_ne _ v1 (by omega)
    have hR1 := R_state (u := 2) (v := h 60 0 0 + m 41 0 (9 * s)) hR hz h70 (Or.inr ⟨Or.inl rfl, s, hs, h68⟩) (Or.inr h17)
    have tr1 : Tr N N P P σ _ h _ := Tr.st (σ := σ) (h := h) (P := P) (u := 2) hne (by decide) hz
    have e74 : cset (cset h 70 0 z 2) 72 0 z (h 60 0 0 + m 41 0 (9 * s)) 74 0 z = -1 := by simp (disch := decide) only [cs_a]; exact h74
    have ec := cs_same e74
    have e68 : cset (cset h 70 0 z 2) 72 0 z (h 60 0 0 + m 41 0 (9 * s)) 68 = h 68 := by simp (disch := decide) only [cs_a]
    have e67 : cset (cset h 70 0 z 2) 72 0 z (h 60 0 0 + m 41 0 (9 * s)) 67 = h 67 := by simp (disch := decide) only [cs_a]
    have e70 : cset (cset h 70 0 z 2) 72 0 z (h 60 0 0 + m 41 0 (9 * s)) 70 0 z = 2 := by simp (disch := decide) only [cs_a, cs_s]
    have c17 : cset (cset σ 15 0 (P z) 2) 18 0 (P z) (h 60 0 0 + m 41 0 (9 * s)) 17 0 (P z) = -1 := by simp (disch := decide) only [cs_a]; exact h17
    have c1 : cset (cset σ 15 0 (P z) 2) 18 0 (P z) (h 60 0 0 + m 41 0 (9 * s)) 1 = σ 1 := by simp (disch := decide) only [cs_a]
    have c13 : cset (cset σ 15 0 (P z) 2) 18 0 (P z) (h 60 0 0 + m 41 0 (9 * s)) 13 = σ 13 := by simp (disch := decide) only [cs_a]
    have CL := fun (σ1 : Rg) => T_toAsk0 (σ1 := σ1) hp (by omega) h13 h14 hr
    have MD := fun (k : Nat) (h1 h' : Rg) (v : Int32) => T_ask0 (m := m) (k := k) (h1 := h1) (h' := h') (v := v) hNN hN120 hz rfl huz (by omega) h68 hq2 hr'
    rw [ev] at CL
    rw [ec] at MD
    have X := comes_J (s := s + 1) (q := q) (x4 := -1) hR1 hnn hs hq1 (by rw [c1]; exact h11) hz e70 c17 (by rw [e68, h68, nI_1])
    rw [e67] at X
    obtain ⟨σ1, v, h1, x1, x2, x3⟩ := X
    rcases x3 with ⟨y1, y2, y3, y4, y5, y6⟩ | ⟨y1, σ', N', G', P', Q', PG', QG', y2, y3, y4, y5, -⟩
    · have hRw := R_weak (kk := z) y2 (by omega) (by rw [y5 17 (by decide)]; exact c17)
      have f68 : h1 68 0 z = nI s := by rw [y6 68 (by decide), e68]; exact h68
      have f70 : ¬ h1 70 0 z = 0 := by rw [y6 70 (by decide), e70]; decide
      have f67 : h1 67 0 z = h 67 0 z := by rw [y6 67 (by decide), e67]
      rcases y1 with ⟨v1, v2⟩ | ⟨v1, v2⟩
      · obtain ⟨σ', h', N', G', P', Q', PG', QG', a1, a2, a3, a4, a5⟩ := ans_at s (i := 0) (g := 1) hRw (by omega) hz f68 f70 hs (Or.inr rfl) y3 v2 (by omega)
        rw [f67] at a2
        exact ⟨σ1, σ', h', N', G', P', Q', PG', QG', nn, CL _ x1, a1, MD (9 * s + 14) _ _ _ x2 (Or.inr (Or.inl ⟨v1, a2.mono (by omega)⟩)), a3, by omega, a4, tr1.trans (y4.trans a5)⟩
      · obtain ⟨σ', h', N', G', P', Q', PG', QG', a1, a2, a3, a4, a5⟩ := ans_at s (i := 0) (g := 0) hRw (by omega) hz f68 f70 hs (Or.inl rfl) y3 v2 (by omega)
        rw [f67] at a2
        exact ⟨σ1, σ', h', N', G', P', Q', PG', QG', nn, CL _ x1, a1, MD (9 * s + 14) _ _ _ x2 (Or.inr (Or.inr ⟨v1, a2.mono (by omega)⟩)), a3, by omega, a4, tr1.trans (y4.trans a5)⟩
    · exact ⟨σ1, σ', h1, N', G', P', Q', PG', QG', nn + 1, CL _ x1, y2, MD (9 * s + 14) _ _ _ x2 (Or.inl ⟨y1, rfl⟩), y3, by omega, y4, tr1.trans y5⟩
  · have hr' : ¬ h 61 0 s < h 60 0 0 := fun e => hr (rests.mpr e)
    obtain ⟨σ2, σ', h', N', G', P', Q', PG', QG', a1, a2, a3, a4, a5, a6⟩ := end_at (s := s) (i := 0) (g := 0) hR (Or.inr ⟨by omega, h17⟩) (by omega) hz h68 h70 (Or.inl rfl) (by omega)
    exact ⟨σ2, σ', h', N', G', P', Q', PG', QG', nn, (T_toAsk1 hp (by omega) h13 hr a1).mono (by decide), a2, (T_ask1 (k := 9 * s + 6) hNN hN120 hz rfl huz (by omega) h68 hr' a3).mono (by omega), a4, by omega, a5, a6⟩
