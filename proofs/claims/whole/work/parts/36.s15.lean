/-! a guest asks -/
theorem nI_1000 (g : Nat) : 1000 + nI g = nI (1000 + g) := by
  have := ix_lin (c := 1) (s := 1000) (t := g) (x := nI g) 1 rfl rfl
  rw [Nat.one_mul] at this
  rw [← this]; rw [show (1 : Int32) * nI 1000 = 1000 from by decide]
theorem T_gAsks {σ σ1 : Rg} {g q : Nat} (hg : g < 100) (h24 : σ 24 0 g = nI q) (hE : CX 4 13 1 0 [.inl (nI 0), .inl (nI q), .inl (nI (1000 + g))] (cset σ 26 0 g (σ 1 0 2 + σ 20 0 5)) none σ1) : CX 5 11 1 0 [.inl (nI g)] σ none σ1 := fun d μ r => M11 (by
  have v0 : vp_in (nI g) 100 := vp_in_nI (by omega) (by decide)
  have k0 : (nI g).toNatClampNeg = g := nI_cl (by omega)
  simp only [va_up_self, ms_up, k0, v0, h24, true_and, nI_1000]
  exact ⟨_, hE d μ r, rfl⟩)
theorem T_mgAsks {m h h1 h' : Rg} {z q k : Nat} {v : Int32} (hz : z < 100) (h75 : h 75 0 z = nI q) (hC : MX (k + 1) 92 [.inl (nI 0), .inl (nI q), .inl (-4), .inl (nI z)] m (cset (cset h 76 0 z (-3)) 77 0 z (h 60 0 0 + m 40 0 3)) (some v) m h1) (hv : (¬ v < 0 ∧ h' = h1) ∨ (v = -1 ∧ MX (k + 1) 95 [.inl (nI z), .inl 1] m h1 none m h') ∨ (v = -2 ∧ MX (k + 1) 95 [.inl (nI z), .inl 0] m h1 none m h')) : MX (k + 2) 102 [.inl (nI z)] m h none m h' := fun d μ => M102 (by
  have v0 : vp_in (nI z) 100 := vp_in_nI (by omega) (by decide)
  have k0 : (nI z).toNatClampNeg = z := nI_cl (by omega)
  simp only [Nat.reduceAdd, mm3, mm4, ms4, k0, v0, h75, true_and, B102_66, B102_69]
  refine ⟨_, _, hC d μ, ?_⟩
  rcases hv with ⟨e1, e2⟩ | ⟨e1, e2⟩ | ⟨e1, e2⟩
  · exact ⟨fun _ => by rw [e2], fun e => absurd (Int32.not_lt.mp e1) e⟩
  · rw [e1]
    exact ⟨fun e => absurd e (by decide), fun _ => ⟨fun e => absurd rfl e, fun _ => ⟨_, e2 d μ, rfl⟩⟩⟩
  · rw [e1]
    exact ⟨fun e => absurd e (by decide), fun _ => ⟨fun _ => ⟨_, e2 d μ, rfl⟩, fun e => absurd (by decide) e⟩⟩)
theorem SIM_gasks0 {σ m h : Rg} {ns N G nn gc jj q vp : Nat} {P Q PG QG : Nat → Nat} (hR1 : R (cset σ 26 0 (PG jj) (h 60 0 0 + m 40 0 3)) m (cset (cset h 76 0 jj (-3)) 77 0 jj (h 60 0 0 + m 40 0 3)) ns N G nn gc P Q PG QG 1000 1000) (hnn : nn + 1 < 1073741824) (hns0 : 0 < ns) (hj : jj < G) (h25 : σ 25 0 (PG jj) = -1) (h11 : σ 1 0 11 = -1) (hq1 : q < 8) (h24 : σ 24 0 (PG jj) = nI q) (hq2 : h 75 0 jj = nI q) (ev : σ 1 0 2 + σ 20 0 5 = h 60 0 0 + m 40 0 3) (vp1 : 1 ≤ vp) (vp2 : vp ≤ 60) (vp3 : m 40 0 3 = nI vp) :
    ∃ σ1 σ' h' N' G' P' Q' PG' QG' nn', CX 5 11 1 0 [.inl (nI (PG jj))] σ none σ1 ∧ ST 3 0 σ1 σ' ∧ MX 7 102 [.inl (nI jj)] m h none m h' ∧ R σ' m h' ns N' G' nn' gc P' Q' PG' QG' 1000 1000 ∧ nn' ≤ nn + 1 ∧ σ' 1 0 11 = -1 ∧ Tr N N' P P' σ σ' h h' ∧ ((G' = G ∧ PG' = PG ∧ GK h h') ∨ (G' = G - 1 ∧ (PG' = fun k => PG (shk jj k)) ∧ ∀ k, k < G - 1 → h' 79 0 k = h 79 0 (shk jj k) ∧ h' 77 0 k = h 77 0 (shk jj k))) := by
  have hN120 : N ≤ 120 := hR1.1.1
  have hG100 : G ≤ 100 := hR1.2.1.1
  have hgb : PG jj < 100 := hR1.2.1.2.1 jj hj
  have c25 : cset σ 26 0 (PG jj) (h 60 0 0 + m 40 0 3) 25 0 (PG jj) = -1 := by rw [cs_a _ _ (by decide)]; exact h25
  have c1 : cset σ 26 0 (PG jj) (h 60 0 0 + m 40 0 3) 1 = σ 1 := by rw [cs_a _ _ (by decide)]
  have gk : GK h (cset (cset h 76 0 jj (-3)) 77 0 jj (h 60 0 0 + m 40 0 3)) := by
    refine ⟨by simp (disch := decide) only [cs_a], fun k hk => ?_⟩
    rw [cs_r, up_app] at hk
    by_cases e : k = jj
    · rw [if_pos e, vp3] at hk; exact absurd hk (add_ne _ vp1 vp2)
    · rw [if_neg e, cs_a _ _ (by decide)] at hk; exact hk
  have t0 : cset (cset h 76 0 jj (-3)) 77 0 jj (h 60 0 0 + m 40 0 3) 60 = h 60 := by simp (disch := decide) only [cs_a]
  have tr1 : Tr N N P P σ (cset σ 26 0 (PG jj) (h 60 0 0 + m 40 0 3)) h (cset (cset h 76 0 jj (-3)) 77 0 jj (h 60 0 0 + m 40 0 3)) := by
    refine Tr.same ?_ ?_ ?_ ?_ ?_ (fun a ha => ?_) ?_ ?_ <;> first | (simp (disch := decide) only [cs_a]; done) | (rw [cs_a _ _ (by omega)])
  have CL := fun (σ1 : Rg) => T_gAsks (σ1 := σ1) (q := q) hgb h24
  have MD := fun (k : Nat) (h1 h' : Rg) (v : Int32) => T_mgAsks (m := m) (h := h) (k := k) (h1 := h1) (h' := h') (v := v) (z := jj) (by omega) hq2
  rw [ev] at CL
  obtain ⟨σ1, v, h1, x1, x2, x3⟩ := comes_G (q := q) hR1 hnn hns0 hq1 (by rw [c1]; exact h11) hj c25
  have s79 : cset (cset h 76 0 jj (-3)) 77 0 jj (h 60 0 0 + m 40 0 3) 79 = h 79 := by simp (disch := decide) only [cs_a]
  have s77 : cset (cset h 76 0 jj (-3)) 77 0 jj (h 60 0 0 + m 40 0 3) 77 0 = va_up (h 77 0) jj (h 60 0 0 + m 40 0 3) := by simp (disch := decide) only [cs_a, cs_r]
  generalize cset (cset h 76 0 jj (-3)) 77 0 jj (h 60 0 0 + m 40 0 3) = hb at *
  generalize cset σ 26 0 (PG jj) (h 60 0 0 + m 40 0 3) = σb at *
  rcases x3 with ⟨y1, y2, y3, y4, y5, y6⟩ | ⟨y1, σ', N', G', P', Q', PG', QG', y2, y3, y4, y5, y6⟩
  · have hRw := R_gweak (z := jj) y2 (by omega) (by rw [y5 25 (by decide)]; exact c25)
    have e60 : h1 60 0 0 = h 60 0 0 := by rw [y4.2.2.1, t0]
    rcases y1 with ⟨v1, v2⟩ | ⟨v1, v2⟩
    · obtain ⟨σ', h', G', PG', QG', a1, a2, a3, a4, a5, a6⟩ := SIM_G (i := 0) hRw (by omega) hj y3 v2 (Or.inr rfl) (by omega)
      rcases a6 with ⟨a6, -⟩ | ⟨-, a7, a8, a9⟩
      · exact absurd a6 (by decide)
      · refine ⟨σ1, σ', h', N, G', P, Q, PG', QG', nn, CL _ x1, a1, MD 5 _ _ _ x2 (Or.inr (Or.inl ⟨v1, a2.mono (by decide)⟩)), a3, by omega, a4, tr1.trans (y4.trans a5), Or.inr ⟨a7, a8, fun k hk => ⟨?_, ?_⟩⟩⟩
        · rw [a9 79 (by decide) (by decide) k hk, y6 79 (by decide), s79]
        · rw [a9 77 (by decide) (by decide) k hk, y6 77 (by decide), s77, va_up_ne _ _ (shk_ne jj k)]
    · obtain ⟨σ', h', G', PG', QG', a1, a2, a3, a4, a5, a6⟩ := SIM_G (i := 0) hRw (by omega) hj y3 v2 (Or.inl rfl) (by omega)
      rcases a6 with ⟨-, a7, a8, a9⟩ | ⟨a6, -⟩
      · refine ⟨σ1, σ', h', N, G', P, Q, PG', QG', nn, CL _ x1, a1, MD 5 _ _ _ x2 (Or.inr (Or.inr ⟨v1, a2.mono (by decide)⟩)), a3, by omega, a4, tr1.trans (y4.trans a5), Or.inl ⟨a7, a8, ?_, fun k hk => ?_⟩⟩
        · rw [a9.1, y6 79 (by decide), s79]
        · have := a9.2 k
          rw [e60, y6 77 (by decide)] at this
          refine gk.2 k (this hk)
      · exact absurd a6 (by decide)
  · obtain ⟨z1, z2, z3, z4⟩ := y6 rfl
    refine ⟨σ1, σ', h1, N', G', P', Q', PG', QG', nn + 1, CL _ x1, y2, MD 5 _ _ _ x2 (Or.inl ⟨y1, rfl⟩), y3, by omega, y4, tr1.trans y5, Or.inl ⟨z1, z2, ?_, fun k hk => ?_⟩⟩
    · rw [z3, s79]
    · have := z4 k
      rw [t0] at this
      exact gk.2 k (this hk)
theorem SIM_gasks {σ m h : Rg} {ns N G nn gc jj : Nat} {P Q PG QG : Nat → Nat} (hR : R σ m h ns N G nn gc P Q PG QG 1000 jj) (hnn : nn + 1 < 1073741824) (hns0 : 0 < ns) (hj : jj < G) (h25 : σ 25 0 (PG jj) = -1) (h11 : σ 1 0 11 = -1) :
    ∃ σ1 σ' h' N' G' P' Q' PG' QG' nn', CX 5 11 1 0 [.inl (nI (PG jj))] σ none σ1 ∧ ST 3 0 σ1 σ' ∧ MX 7 102 [.inl (nI jj)] m h none m h' ∧ R σ' m h' ns N' G' nn' gc P' Q' PG' QG' 1000 1000 ∧ nn' ≤ nn + 1 ∧ σ' 1 0 11 = -1 ∧ Tr N N' P P' σ σ' h h' ∧ ((G' = G ∧ PG' = PG ∧ GK h h') ∨ (G' = G - 1 ∧ (PG' = fun k => PG (shk jj k)) ∧ ∀ k, k < G - 1 → h' 79 0 k = h 79 0 (shk jj k) ∧ h' 77 0 k = h 77 0 (shk jj k))) := by
  obtain ⟨r1, r2, r3, r4, r5, r6, r7, r8, r9, r10, r11⟩ := id hR
  have hN120 : N ≤ 120 := r1.1
  have hG100 : G ≤ 100 := r2.1
  have hgb := r2.2.1 jj hj
  obtain ⟨tt, ht0, ht1, ht2⟩ := r10.2.2.2.2.2.1
  obtain ⟨e5, vp, vp1, vp2, vp3⟩ := r10.2.2.2.2.2.2.2.2.2.2.2.1
  obtain ⟨g1, g2, g3, ⟨q, hq1, hq2⟩, g5⟩ := r11.1 jj hj
  have ev : σ 1 0 2 + σ 20 0 5 = h 60 0 0 + m 40 0 3 := by rw [ht1, ht2, e5]
  have hR1 := R_np (R_gbad (v := h 60 0 0 + m 40 0 3) hR hj (Nat.le_refl G)) (by omega) (by omega : N ≤ 1000) (Nat.le_refl G) (by omega : G ≤ 1000)
  rw [cs_same h25] at hR1
  exact SIM_gasks0 hR1 hnn hns0 hj h25 h11 hq1 (g1.symm.trans hq2) hq2 ev vp1 vp2 vp3
