/-! guests told come, both sides -/
theorem SIM_tells {ns tn t : Nat} {o29 o30 o31 p43 p44 p45 : Nat → Int32} (htn : tn ≤ 40) (hns : 0 < ns) (ho : ∀ i, i < tn → o29 i = p43 i ∧ o30 i = p44 i ∧ o31 i = p45 i ∧ (∃ q, q < 8 ∧ o30 i = nI q) ∧ ∃ k, k ≤ 30 ∧ o31 i = nI k) : ∀ (c i : Nat) {σ m h : Rg} {N G nn gc : Nat} {P Q PG QG : Nat → Nat}, i + c = tn → R σ m h ns N G nn gc P Q PG QG 1000 1000 → σ 1 0 11 = -1 → h 60 0 0 = nI t → nn + 30 * c < 1073741824 → gc + 30 * c < 1073741824 → σ 28 0 3 = nI tn → σ 29 0 = o29 → σ 30 0 = o30 → σ 31 0 = o31 → m 40 0 8 = nI tn → Cp (m 43 0) p43 (fun i => decide (¬ o29 i = nI t)) i → Cp (m 44 0) p44 (fun i => decide (¬ o29 i = nI t)) i → Cp (m 45 0) p45 (fun i => decide (¬ o29 i = nI t)) i →
    ∃ σ' m' h' N' G' P' Q' PG' QG' nn' gc', (∀ (d : Nat) (μ : Mem) (r : Nat) (res : Res), EvE (M (d + 8)) 3 41 [some (.inr (r, 1, 0)), some (.inl (nI tn))] [] (va_up μ r σ') res → EvE (M (d + 8)) 3 41 [some (.inr (r, 1, 0)), some (.inl (nI i))] [] (va_up μ r σ) res) ∧
      (∀ (d : Nat) (μ : Mem) (res : Res), (∀ u3, EvE (M (d + 8)) 111 43 [some (.inr (3, 40, 0)), some (.inl (nI (en (fun i => decide (¬ o29 i = nI t)) tn).1)), some (.inl (nI tn)), u3] [] (mm μ m' h') res) → ∀ u3, EvE (M (d + 8)) 111 43 [some (.inr (3, 40, 0)), some (.inl (nI (en (fun i => decide (¬ o29 i = nI t)) i).1)), some (.inl (nI i)), u3] [] (mm μ m h) res) ∧
      (∀ a, a ≠ 43 → a ≠ 44 → a ≠ 45 → m' a = m a) ∧ Cp (m' 43 0) p43 (fun i => decide (¬ o29 i = nI t)) tn ∧ Cp (m' 44 0) p44 (fun i => decide (¬ o29 i = nI t)) tn ∧ Cp (m' 45 0) p45 (fun i => decide (¬ o29 i = nI t)) tn ∧
      R σ' m' h' ns N' G' nn' gc' P' Q' PG' QG' 1000 1000 ∧ nn' ≤ nn + 30 * c ∧ gc' ≤ gc + 30 * c ∧ σ' 1 0 11 = -1 ∧ Tr N N' P P' σ σ' h h' := by
  intro c
  induction c with
  | zero =>
    intro i σ m h N G nn gc P Q PG QG hi hR h11 h0 hnn hgc h3 e29 e30 e31 h8 c1 c2 c3
    have : i = tn := by omega
    subst this
    exact ⟨σ, m, h, N, G, P, Q, PG, QG, nn, gc, fun d μ r res H => H, fun d μ res H u3 => H u3, fun _ _ _ _ => rfl, c1, c2, c3, hR, by omega, by omega, h11, Tr.refl⟩
  | succ c ih =>
    intro i σ m h N G nn gc P Q PG QG hi hR h11 h0 hnn hgc h3 e29 e30 e31 h8 c1 c2 c3
    obtain ⟨o1, o2, o3, ⟨q, hq, o4⟩, ⟨k, hk, o5⟩⟩ := ho i (by omega)
    have ht1 : σ 1 0 2 = nI t := by
      obtain ⟨tt, _, t1, t2⟩ := hR.2.2.2.2.2.2.2.2.2.1.2.2.2.2.2.1
      rw [t1, ← t2]; exact h0
    have v0 : vp_in (nI i) 40 := vp_in_nI (by omega) (by decide)
    have k0 : (nI i).toNatClampNeg = i := nI_cl (by omega)
    have le := en_le (fun i => decide (¬ o29 i = nI t)) i
    have v1 : vp_in (nI (en (fun i => decide (¬ o29 i = nI t)) i).1) 40 := vp_in_nI (by omega) (by decide)
    have k1 : (nI (en (fun i => decide (¬ o29 i = nI t)) i).1).toNatClampNeg = (en (fun i => decide (¬ o29 i = nI t)) i).1 := nI_cl (by omega)
    have m43 : m 43 0 i = o29 i := (c1.2 i (Nat.le_refl i)).trans o1.symm
    have m44 : m 44 0 i = nI q := (c2.2 i (Nat.le_refl i)).trans (o2.symm.trans o4)
    have m45 : m 45 0 i = nI k := (c3.2 i (Nat.le_refl i)).trans (o3.symm.trans o5)
    have cl : ∀ (n : Nat) (σ1 : Rg) (d : Nat) (μ : Mem) (r : Nat) (res : Res), n ≤ 30 → (if o29 i = nI t then o31 i else 0) = nI n → CGn n q σ σ1 → EvE (M (d + 8)) 3 41 [some (.inr (r, 1, 0)), some (.inl (nI (i + 1)))] [] (va_up μ r σ1) res → EvE (M (d + 8)) 3 41 [some (.inr (r, 1, 0)), some (.inl (nI i))] [] (va_up μ r σ) res := by
      intro n σ1 d μ r res hn en hC H
      rw [B3_41]
      simp (disch := omega) only [va_up_self, h3, nI_le', k0, ht1, nI_1]
      refine ⟨fun e => absurd e (by omega), fun _ => ⟨v0, _, _, (T_manyFor (by omega) h3 (by omega)).mono (by omega) d μ r, ?_⟩⟩
      rw [e29, e30, e31, en, o4]
      exact ⟨_, (T_come (by omega) hC).mono (by omega) d μ r, H⟩
    by_cases e : o29 i = nI t
    · have kp : (fun i => decide (¬ o29 i = nI t)) i = false := decide_eq_false (fun q => q e)
      obtain ⟨σ1, h1, N1, G1, P1, Q1, PG1, QG1, nn1, g1, g2, g3, g4, g5, g6⟩ := SIM_gn hq k hR hns (by omega) (by omega) h11
      obtain ⟨σ', m', h', N', G', P', Q', PG', QG', nn', gc', a1, a2, a3, a4, a5, a6, a7, a8, a9, a10, a11⟩ := ih (i + 1) (by omega) g3 g5 (by rw [g6.2.2.1]; exact h0) (by omega) (by omega) (by rw [g6.2.2.2.1 28 (by decide)]; exact h3) (by rw [g6.2.2.2.1 29 (by decide)]; exact e29) (by rw [g6.2.2.2.1 30 (by decide)]; exact e30) (by rw [g6.2.2.2.1 31 (by decide)]; exact e31) h8 (c1.drop kp) (c2.drop kp) (c3.drop kp)
      refine ⟨σ', m', h', N', G', P', Q', PG', QG', nn', gc', fun d μ r res H => cl k σ1 d μ r res hk (by rw [if_pos e]; exact o5) g1 (a1 d μ r res H), fun d μ res H u3 => ?_, a3, a4, a5, a6, a7, by omega, by omega, a10, g6.trans a11⟩
      have := a2 d μ res H
      rw [en_drop kp] at this
      rw [B111_43]
      simp (disch := omega) only [Nat.reduceAdd, mm3, mm4, h8, nI_le', k0, m43, h0]
      refine ⟨fun e2 => absurd e2 (by omega), fun _ => ⟨v0, fun e2 => absurd e e2, fun _ => G69 (by omega) (by omega) m45 m44 k 0 h h1 (by omega) g2 d μ res ?_⟩⟩
      rw [B111_137, nI_1]
      exact this _
    · have kp : (fun i => decide (¬ o29 i = nI t)) i = true := decide_eq_true e
      have hR1 := R_m (m' := cset (cset (cset m 43 0 (en (fun i => decide (¬ o29 i = nI t)) i).1 (m 43 0 i)) 44 0 (en (fun i => decide (¬ o29 i = nI t)) i).1 (m 44 0 i)) 45 0 (en (fun i => decide (¬ o29 i = nI t)) i).1 (m 45 0 i)) hR (by simp (disch := decide) only [cs_a]) (by simp (disch := decide) only [cs_a]) (by simp (disch := decide) only [cs_a]) (by simp (disch := decide) only [cs_a]) (by simp (disch := decide) only [cs_a])
      obtain ⟨σ', m', h', N', G', P', Q', PG', QG', nn', gc', a1, a2, a3, a4, a5, a6, a7, a8, a9, a10, a11⟩ := ih (i + 1) (by omega) hR1 h11 h0 (by omega) (by omega) h3 e29 e30 e31 (by simp (disch := decide) only [cs_a]; exact h8) (by simp (disch := decide) only [cs_a, cs_r]; exact c1.keep kp) (by simp (disch := decide) only [cs_a, cs_r]; exact c2.keep kp) (by simp (disch := decide) only [cs_a, cs_r]; exact c3.keep kp)
      have cz : CGn 0 q σ σ := fun i many hi hm d μ r u4 => by
        rw [B10_2]
        simp (disch := omega) only [nI_le']
        exact ⟨fun _ => True.intro, fun e => absurd (by omega) e⟩
      refine ⟨σ', m', h', N', G', P', Q', PG', QG', nn', gc', fun d μ r res H => cl 0 σ d μ r res (by omega) (by rw [if_neg e]; rfl) cz (a1 d μ r res H), fun d μ res H u3 => ?_, fun a b1 b2 b3 => by rw [a3 a b1 b2 b3, cs_a _ _ b3, cs_a _ _ b2, cs_a _ _ b1], a4, a5, a6, a7, by omega, by omega, a10, a11⟩
      have := a2 d μ res H
      rw [en_keep kp] at this
      rw [B111_43]
      simp (disch := first | omega | decide) only [Nat.reduceAdd, mm3, mm4, ms3, h8, nI_le', k0, k1, h0, B111_137, nI_1, cs_a]
      refine ⟨fun e2 => absurd e2 (by omega), fun _ => ⟨v0, fun _ => ⟨v0, v1, v0, v1, v0, v1, this _⟩, fun e2 => absurd (fun q => e (m43.symm.trans q)) e2⟩⟩
