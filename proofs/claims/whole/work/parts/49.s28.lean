/-! a tick -/
theorem E3_one {σ σ1 : Rg} {tn t q n i : Nat} {d : Nat} {μ : Mem} {r : Nat} {res : Res} (h3 : σ 28 0 3 = nI tn) (htn : tn ≤ 40) (hi : i < tn) (ht1 : σ 1 0 2 = nI t) (h30 : σ 30 0 i = nI q) (hn : n ≤ 30) (hv : (if σ 29 0 i = nI t then σ 31 0 i else 0) = nI n) (hC : CGn n q σ σ1) (H : EvE (M (d + 8)) 3 41 [some (.inr (r, 1, 0)), some (.inl (nI (i + 1)))] [] (va_up μ r σ1) res) : EvE (M (d + 8)) 3 41 [some (.inr (r, 1, 0)), some (.inl (nI i))] [] (va_up μ r σ) res := by
  have v0 : vp_in (nI i) 40 := vp_in_nI (by omega) (by decide)
  have k0 : (nI i).toNatClampNeg = i := nI_cl (by omega)
  rw [B3_41]
  simp (disch := omega) only [va_up_self, h3, nI_le', k0, ht1, nI_1]
  refine ⟨fun e => absurd e (by omega), fun _ => ⟨v0, _, _, (T_manyFor (by omega) h3 (by omega)).mono (by omega) d μ r, ?_⟩⟩
  rw [hv, h30]
  exact ⟨_, (T_come (by omega) hC).mono (by omega) d μ r, H⟩
theorem SIM_come1 {σ m h : Rg} {ns N G nn gc t pd : Nat} {P Q PG QG : Nat → Nat} (hR : R σ m h ns N G nn gc P Q PG QG 1000 1000) (hns : 0 < ns) (h11 : σ 1 0 11 = -1) (h0 : h 60 0 0 = nI t) (ht : t ≤ 200000) (h14 : ¬ m 40 0 14 = 0) (hT : TY σ m (nI t)) (hU : US σ m pd) (hnn : nn + 1205 < 1073741824) (hgc : gc + 1205 < 1073741824) :
    ∃ σ' m' h' N' G' P' Q' PG' QG' nn' gc', (∀ (d : Nat) (μ : Mem) (r : Nat), EvE (M (d + 8)) 3 41 [some (.inr (r, 1, 0)), some (.inl 0)] [] (va_up μ r σ) (none, va_up μ r σ')) ∧ MX 9 111 [] m h none m' h' ∧ (∀ a, a ≠ 40 → m' a = m a) ∧ (∀ i, i ≠ 16 → m' 40 0 i = m 40 0 i) ∧ (σ' 28 0 3 = nI 0 ∧ m' 40 0 16 = nI 0) ∧ US σ' m' pd ∧ R σ' m' h' ns N' G' nn' gc' P' Q' PG' QG' 1000 1000 ∧ nn' ≤ nn + 1205 ∧ gc' ≤ gc + 1205 ∧ σ' 1 0 11 = -1 ∧ h' 60 0 0 = h 60 0 0 := by
  obtain ⟨q, many, tn, hq, hm, htn, h3, h16, h15, hcl⟩ : ∃ q many tn, q < 8 ∧ many ≤ 30 ∧ tn ≤ 1 ∧ σ 28 0 3 = nI tn ∧ m 40 0 16 = nI many ∧ (0 < many → m 40 0 15 = nI q) ∧ ((tn = 0 ∧ many = 0) ∨ (tn = 1 ∧ σ 29 0 0 = nI t ∧ σ 30 0 0 = nI q ∧ σ 31 0 0 = nI many)) := by
    rcases hT with ⟨a, b⟩ | ⟨q, many, a1, a2, a3, a4, a5, a6, a7, a8⟩
    · exact ⟨0, 0, 0, by omega, by omega, by omega, a, b, fun e => absurd e (by omega), Or.inl ⟨rfl, rfl⟩⟩
    · exact ⟨q, many, 1, a1, a2, by omega, a3, a8, fun _ => a7, Or.inr ⟨rfl, a4, a5, a6⟩⟩
  have ht0 : σ 1 0 2 = nI t := by
    obtain ⟨tt, _, t1, t2⟩ := hR.2.2.2.2.2.2.2.2.2.1.2.2.2.2.2.1
    rw [t1, ← t2]; exact h0
  obtain ⟨σ1, h1, N1, G1, P1, Q1, PG1, QG1, nn1, g1, g2, g3, g4, g5, g6⟩ : ∃ σ1 h1 N1 G1 P1 Q1 PG1 QG1 nn1, (∀ (d : Nat) (μ : Mem) (r : Nat) (res : Res), EvE (M (d + 8)) 3 41 [some (.inr (r, 1, 0)), some (.inl (nI tn))] [] (va_up μ r σ1) res → EvE (M (d + 8)) 3 41 [some (.inr (r, 1, 0)), some (.inl 0)] [] (va_up μ r σ) res) ∧ MGn q m many h h1 ∧ R σ1 m h1 ns N1 G1 nn1 (gc + many) P1 Q1 PG1 QG1 1000 1000 ∧ nn1 ≤ nn + many ∧ σ1 1 0 11 = -1 ∧ Tr N N1 P P1 σ σ1 h h1 := by
    rcases hcl with ⟨e1, e2⟩ | ⟨e1, e2, e3, e4⟩
    · subst e1; subst e2
      exact ⟨σ, h, N, G, P, Q, PG, QG, nn, fun d μ r res H => H, rfl, hR, by omega, h11, Tr.refl⟩
    · subst e1
      obtain ⟨σ1, h1, N1, G1, P1, Q1, PG1, QG1, nn1, g1, g2, g3, g4, g5, g6⟩ := SIM_gn hq many hR hns (by omega) (by omega) h11
      exact ⟨σ1, h1, N1, G1, P1, Q1, PG1, QG1, nn1, fun d μ r res H => E3_one (i := 0) h3 (by omega) (by omega) ht0 e3 hm (by rw [if_pos e2]; exact e4) g1 H, g2, g3, g4, g5, g6⟩
  have t4 := g6.2.2.2.1
  have tk1 : h1 60 0 0 = nI t := by rw [g6.2.2.1]; exact h0
  have ht1 : σ1 1 0 2 = nI t := by
    obtain ⟨tt, _, t1, t2⟩ := g3.2.2.2.2.2.2.2.2.2.1.2.2.2.2.2.1
    rw [t1, ← t2]; exact tk1
  obtain ⟨σ2, b1, b2, b3, b4, b5, b6⟩ := T_forget (σ := σ1) (n := tn) (t := nI t) (by omega) (by rw [t4 28 (by decide)]; exact h3)
  have b3' : σ2 28 0 3 = nI 0 := by
    rw [b3]
    rcases hcl with ⟨e1, -⟩ | ⟨e1, e2, -⟩
    · subst e1; rfl
    · subst e1
      have kp : (fun i => decide (¬ σ1 29 0 i = nI t)) 0 = false := decide_eq_false (fun w => w (by rw [t4 29 (by decide)]; exact e2))
      rw [en_drop kp]; rfl
  have hR2 : R σ2 (cset m 40 0 16 0) h1 ns N1 G1 nn1 (gc + many) P1 Q1 PG1 QG1 1000 1000 := R_m (R_28 g3 (fun a ha => b2 a (by omega) (by omega) (by omega) (by omega))) (cs_a _ _ (by decide)) (cs_a _ _ (by decide)) (cs_i _ _ (by decide)) (cs_i _ _ (by decide)) (cs_i _ _ (by decide))
  have hU2 : US σ2 (cset m 40 0 16 0) pd := hU.keep (by rw [b2 32 (by decide) (by decide) (by decide) (by decide), t4 32 (by decide)]) (by rw [b2 33 (by decide) (by decide) (by decide) (by decide), t4 33 (by decide)]) (by rw [b2 34 (by decide) (by decide) (by decide) (by decide), t4 34 (by decide)]) (cs_i _ _ (by decide)) (cs_a _ _ (by decide)) (cs_a _ _ (by decide))
  obtain ⟨σ', h', N', G', P', Q', PG', QG', nn', gc', ⟨q', n, c1, c2, c3, c4⟩, c5, c6, c7, c8, c9, c10⟩ := SIM_usual hR2 hns (by rw [b2 1 (by decide) (by decide) (by decide) (by decide)]; exact g5) tk1 ht hU2 (by omega) (by omega)
  have u4 := c10.2.2.2.1
  refine ⟨σ', cset m 40 0 16 0, h', N', G', P', Q', PG', QG', nn', gc', fun d μ r => ?_, fun d μ => M111 ?_, fun a x1 => cs_a _ _ x1, fun i hi => cs_i _ _ hi, ⟨by rw [u4 28 (by decide)]; exact b3', cs_s _ _ _ _ _⟩, hU2.keep (u4 32 (by decide)) (u4 33 (by decide)) (u4 34 (by decide)) rfl rfl rfl, c6, by omega, by omega, c9, by rw [c10.2.2.1, g6.2.2.1]⟩
  · exact g1 d μ r _ (E3_end (tn := tn) (by rw [t4 28 (by decide)]; exact h3) (by omega) ht1 ht b1 (by rw [b2 1 (by decide) (by decide) (by decide) (by decide)]; exact ht1) hU2.1 hU2.2.1 c1 c2 c3 c4)
  · rw [mm3]
    refine ⟨fun e => absurd e h14, fun _ => G9 (by omega) h16 h15 many 0 h h1 (by omega) g2 d μ _ _ _ ?_⟩
    rw [B111_148]
    exact c5 d μ _ _
