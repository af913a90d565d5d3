/-! a whole tick, both sides -/
theorem R_tick {σ m h : Rg} {ns N G nn gc pj pg t : Nat} {P Q PG QG : Nat → Nat} (hR : R σ m h ns N G nn gc P Q PG QG pj pg) (h0 : h 60 0 0 = nI t) (ht : t + 1 ≤ 200000) : R (cset (cset σ 1 0 2 (σ 1 0 2 + 1)) 1 0 3 1) m (cset (cset h 60 0 0 (h 60 0 0 + 1)) 60 0 28 1) ns N G nn gc P Q PG QG pj pg := by
  obtain ⟨r1, r2, r3, r4, r5, r6, r7, r8, r9, ⟨c1, c2, c3, c4, c5, c6, c7, c8⟩, r11⟩ := hR
  obtain ⟨tt, _, t1, t2⟩ := c6
  refine ⟨?_, ?_, ?_, ?_, ?_, ?_, ?_, ?_, ?_, ?_, ?_⟩ <;> simp (disch := decide) only [cs_a, cs_i, cs_s]
  · exact r1
  · exact r2
  · exact r3
  · exact r4
  · exact r5
  · exact r6
  · exact r7
  · exact r8
  · exact r9
  · exact ⟨c1, c2, c3, c4, c5, ⟨t + 1, ht, by rw [t1, ← t2, h0, nI_1], by rw [h0, nI_1]⟩, ⟨rfl, Or.inr rfl⟩, c8⟩
  · exact r11
theorem R_find {σ σ' m h : Rg} {ns N G nn gc pj pg : Nat} {P Q PG QG : Nat → Nat} (hR : R σ m h ns N G nn gc P Q PG QG pj pg) (f : ∀ a, a ≠ 1 → a ≠ 35 → σ' a = σ a) (f1 : ∀ i, i ≠ 10 → σ' 1 0 i = σ 1 0 i) : R σ' m h ns N G nn gc P Q PG QG pj pg := by
  unfold R
  simp (disch := decide) only [f, f1]
  exact hR
def TM (σ m : Rg) (t : Nat) : Prop := (m 40 0 14 = 0 ∧ ∃ tn, TL σ m tn) ∨ (¬ m 40 0 14 = 0 ∧ TY σ m (nI t))
theorem TM.keep {σ σ' m m' : Rg} {t : Nat} (h : TM σ m t) (e28 : σ' 28 = σ 28) (e29 : σ' 29 = σ 29) (e30 : σ' 30 = σ 30) (e31 : σ' 31 = σ 31) (e40 : ∀ i, i ≠ 19 → m' 40 0 i = m 40 0 i) (e43 : m' 43 = m 43) (e44 : m' 44 = m 44) (e45 : m' 45 = m 45) : TM σ' m' t := by
  unfold TM TL TY
  rw [e28, e29, e30, e31, e43, e44, e45, e40 14 (by decide), e40 8 (by decide), e40 15 (by decide), e40 16 (by decide)]
  exact h
def StepM (m m' : Rg) : Prop := (∀ a, a ≠ 40 → a ≠ 43 → a ≠ 44 → a ≠ 45 → a ≠ 48 → a ≠ 49 → m' a = m a) ∧ (∀ i, i ≠ 8 → i ≠ 16 → i ≠ 19 → m' 40 0 i = m 40 0 i) ∧ (¬ m 40 0 14 = 0 → m' 43 = m 43 ∧ m' 44 = m 44 ∧ m' 45 = m 45 ∧ m' 40 0 8 = m 40 0 8)
theorem SIM_step {σ m h : Rg} {ns N G nn gc t pd : Nat} {P Q PG QG : Nat → Nat} (hR : R σ m h ns N G nn gc P Q PG QG 1000 1000) (hns : 0 < ns) (h11 : σ 1 0 11 = -1) (h0 : h 60 0 0 = nI t) (ht : t + 1 ≤ 200000) (hT : TM σ m (t + 1)) (hU : US σ m pd) (hnn : nn + 1700 < 1073741824) (hgc : gc + 1700 < 1073741824) :
    ∃ σ' m' h' N' G' P' Q' PG' QG' nn' gc', CX 9 3 1 0 [] σ none σ' ∧ MX 63 112 [] m h none m' h' ∧ StepM m m' ∧ (∀ t', TM σ' m' t') ∧ US σ' m' pd ∧ R σ' m' h' ns N' G' nn' gc' P' Q' PG' QG' 1000 1000 ∧ nn' ≤ nn + 1700 ∧ gc' ≤ gc + 1700 ∧ σ' 1 0 11 = -1 ∧ h' 60 0 0 = nI (t + 1) := by
  have hR0 := R_tick hR h0 ht
  have s11 : cset (cset σ 1 0 2 (σ 1 0 2 + 1)) 1 0 3 1 1 0 11 = -1 := by simp (disch := decide) only [cs_i]; exact h11
  have sa : ∀ a, a ≠ 1 → cset (cset σ 1 0 2 (σ 1 0 2 + 1)) 1 0 3 1 a = σ a := fun a ha => by rw [cs_a _ _ ha, cs_a _ _ ha]
  have q60 : cset (cset h 60 0 0 (h 60 0 0 + 1)) 60 0 28 1 60 0 0 = nI (t + 1) := by simp (disch := decide) only [cs_i, cs_s]; rw [h0, nI_1]
  have CL : ∀ (σ' : Rg), (∀ (d : Nat) (μ : Mem) (r : Nat), ∃ μ1, M (d + 8) 4 [.inr (r, 1, 0)] (va_up μ r (cset (cset σ 1 0 2 (σ 1 0 2 + 1)) 1 0 3 1)) (none, μ1) ∧ ∃ μ2, M (d + 8) 5 [.inr (r, 1, 0)] μ1 (none, μ2) ∧ ∃ μ3, M (d + 8) 6 [.inr (r, 1, 0)] μ2 (none, μ3) ∧ ∃ μ4, M (d + 8) 7 [.inr (r, 1, 0)] μ3 (none, μ4) ∧ ∃ μ5, M (d + 8) 8 [.inr (r, 1, 0)] μ4 (none, μ5) ∧ ∃ μ6, M (d + 8) 9 [.inr (r, 1, 0)] μ5 (none, μ6) ∧ EvE (M (d + 8)) 3 41 [some (.inr (r, 1, 0)), some (.inl 0)] [] μ6 (none, va_up μ r σ')) → CX 9 3 1 0 [] σ none σ' := fun σ' H d μ r => M3 (by
    simp only [va_up_self, ms_up]
    exact H d μ r)
  have MD : ∀ (m' h' : Rg), (∀ (d : Nat) (μ : Mem), ∃ μ1, M (d + 62) 106 [.inr (3, 40, 0)] (mm μ m (cset (cset h 60 0 0 (h 60 0 0 + 1)) 60 0 28 1)) (none, μ1) ∧ ∃ μ2, M (d + 62) 107 [.inr (3, 40, 0)] μ1 (none, μ2) ∧ ∃ μ3, M (d + 62) 108 [.inr (3, 40, 0)] μ2 (none, μ3) ∧ ∃ μ4, M (d + 62) 109 [.inr (3, 40, 0)] μ3 (none, μ4) ∧ ∃ μ5, M (d + 62) 110 [.inr (3, 40, 0)] μ4 (none, μ5) ∧ ∃ μ6, M (d + 62) 111 [.inr (3, 40, 0)] μ5 (none, μ6) ∧ (none, mm μ m' h') = ((none, μ6) : Res)) → MX 63 112 [] m h none m' h' := fun m' h' H d μ => M112 (by
    simp only [Nat.reduceAdd, mm4, ms4]
    exact H d μ)
  generalize cset (cset h 60 0 0 (h 60 0 0 + 1)) 60 0 28 1 = h0' at hR0 q60 MD
  generalize cset (cset σ 1 0 2 (σ 1 0 2 + 1)) 1 0 3 1 = σ0 at hR0 s11 sa CL
  obtain ⟨σ1, dn, pl, nu, b1, b2, b3, b4⟩ := T_find hR0
  have hR1 := R_find hR0 b2 b3
  obtain ⟨σ2, m2, h2, N2, G2, P2, Q2, PG2, QG2, nn2, c1, c2, c3, c4, c5, c6, c7⟩ := SIM_work hR1 (by rw [b3 11 (by decide)]; exact s11) hns b4 (by omega)
  have D2 := b4.tr c7
  obtain ⟨σ3, m3, h3, N3, G3, P3, Q3, PG3, QG3, nn3, d1, d2, d3, d4, d5, d6, d7⟩ := SIM_pauses c4 c6 hns D2 (by omega)
  have D3 := D2.tr d7
  obtain ⟨σ4, m4, h4, N4, G4, P4, Q4, PG4, QG4, nn4, e1, e2, e3, e4, e5, e6, e7⟩ := SIM_asking d4 d6 hns D3 (by omega)
  obtain ⟨σ5, m5, h5, N5, G5, P5, Q5, PG5, QG5, nn5, f1, f2, f3, f4, f5, f6, f7⟩ := SIM_patience e4 hns (by omega) e6
  obtain ⟨σ6, h6, g1, g2, g3, g4, g5⟩ := SIM_hands f4 f6
  have mk5 : MK m m5 := c3.trans (d3.trans (e3.trans ⟨fun a x1 x2 x3 => f3 a x3, fun i hi => by rw [f3 40 (by decide)]⟩))
  have TR : ∀ a, 28 ≤ a → a ≠ 35 → σ6 a = σ a := fun a ha h35 => by
    rw [g5.2.2.2.1 a ha, f7.2.2.2.1 a ha, e7.2.2.2.1 a ha, d7.2.2.2.1 a ha, c7.2.2.2.1 a ha, b2 a (by omega) h35, sa a (by omega)]
  have T6 : h6 60 0 0 = nI (t + 1) := by rw [g5.2.2.1, f7.2.2.1, e7.2.2.1, d7.2.2.1, c7.2.2.1]; exact q60
  have hT6 : TM σ6 m5 (t + 1) := hT.keep (TR 28 (by decide) (by decide)) (TR 29 (by decide) (by decide)) (TR 30 (by decide) (by decide)) (TR 31 (by decide) (by decide)) (mk5.2) (mk5.1 43 (by decide) (by decide) (by decide)) (mk5.1 44 (by decide) (by decide) (by decide)) (mk5.1 45 (by decide) (by decide) (by decide))
  have hU6 : US σ6 m5 pd := hU.keep (TR 32 (by decide) (by decide)) (TR 33 (by decide) (by decide)) (TR 34 (by decide) (by decide)) (mk5.2 9 (by decide)) (mk5.1 46 (by decide) (by decide) (by decide)) (mk5.1 47 (by decide) (by decide) (by decide))
  have e14 : m5 40 0 14 = m 40 0 14 := mk5.2 14 (by decide)
  rcases hT6 with ⟨x1, tn, x2⟩ | ⟨x1, x2⟩
  · obtain ⟨σ7, m7, h7, N7, G7, P7, Q7, PG7, QG7, nn7, gc7, tn7, y1, y2, y3, y4, y5, y6, y7, y8, y9, y10, y11⟩ := SIM_come0 g3 hns g4 T6 ht x1 x2 hU6 (by omega) (by omega)
    refine ⟨σ7, m7, h7, N7, G7, P7, Q7, PG7, QG7, nn7, gc7, CL _ (fun d μ r => ⟨_, b1.mono (by decide) d μ r, _, c1.mono (by decide) d μ r, _, d1.mono (by decide) d μ r, _, e1.mono (by decide) d μ r, _, f1.mono (by decide) d μ r, _, g1.mono (by decide) d μ r, y1 d μ r⟩), MD _ _ (fun d μ => ⟨_, c2.mono (by decide) d μ, _, d2.mono (by decide) d μ, _, e2.mono (by decide) d μ, _, f2.mono (by decide) d μ, _, g2.mono (by decide) d μ, _, y2.mono (by decide) d μ, rfl⟩), ⟨fun a z1 z2 z3 z4 z5 z6 => by rw [y3 a z1 z2 z3 z4, mk5.1 a z1 z5 z6], fun i z1 z2 z3 => by rw [y4 i z1, mk5.2 i z3], fun e => absurd (e14.symm.trans x1) e⟩, fun t' => Or.inl ⟨by rw [y4 14 (by decide)]; exact x1, tn7, y5⟩, y6, y7, by omega, by omega, y10, by rw [y11]; exact T6⟩
  · obtain ⟨σ7, m7, h7, N7, G7, P7, Q7, PG7, QG7, nn7, gc7, y1, y2, y3, y4, y5, y6, y7, y8, y9, y10, y11⟩ := SIM_come1 g3 hns g4 T6 ht x1 x2 hU6 (by omega) (by omega)
    refine ⟨σ7, m7, h7, N7, G7, P7, Q7, PG7, QG7, nn7, gc7, CL _ (fun d μ r => ⟨_, b1.mono (by decide) d μ r, _, c1.mono (by decide) d μ r, _, d1.mono (by decide) d μ r, _, e1.mono (by decide) d μ r, _, f1.mono (by decide) d μ r, _, g1.mono (by decide) d μ r, y1 d μ r⟩), MD _ _ (fun d μ => ⟨_, c2.mono (by decide) d μ, _, d2.mono (by decide) d μ, _, e2.mono (by decide) d μ, _, f2.mono (by decide) d μ, _, g2.mono (by decide) d μ, _, y2.mono (by decide) d μ, rfl⟩), ⟨fun a z1 z2 z3 z4 z5 z6 => by rw [y3 a z1, mk5.1 a z1 z5 z6], fun i z1 z2 z3 => by rw [y4 i z2, mk5.2 i z3], fun _ => ⟨?_, ?_, ?_, ?_⟩⟩, fun t' => Or.inr ⟨by rw [y4 14 (by decide)]; exact x1, Or.inl y5⟩, y6, y7, by omega, by omega, y10, by rw [y11]; exact T6⟩
    · rw [y3 43 (by decide), mk5.1 43 (by decide) (by decide) (by decide)]
    · rw [y3 44 (by decide), mk5.1 44 (by decide) (by decide) (by decide)]
    · rw [y3 45 (by decide), mk5.1 45 (by decide) (by decide) (by decide)]
    · rw [y4 8 (by decide), mk5.2 8 (by decide)]
