/-! phases of a tick; free hands take -/
def MK (m m' : Rg) : Prop := (∀ a, a ≠ 40 → a ≠ 48 → a ≠ 49 → m' a = m a) ∧ ∀ i, i ≠ 19 → m' 40 0 i = m 40 0 i
theorem MK.refl {m : Rg} : MK m m := ⟨fun _ _ _ _ => rfl, fun _ _ => rfl⟩
theorem MK.trans {m m' m2 : Rg} (a : MK m m') (b : MK m' m2) : MK m m2 := ⟨fun x h1 h2 h3 => (b.1 x h1 h2 h3).trans (a.1 x h1 h2 h3), fun i hi => (b.2 i hi).trans (a.2 i hi)⟩
theorem R_mk {σ m m' h : Rg} {ns N G nn gc pj pg : Nat} {P Q PG QG : Nat → Nat} (hR : R σ m h ns N G nn gc P Q PG QG pj pg) (k : MK m m') : R σ m' h ns N G nn gc P Q PG QG pj pg := R_m hR (k.1 41 (by decide) (by decide) (by decide)) (k.1 42 (by decide) (by decide) (by decide)) (k.2 2 (by decide)) (k.2 3 (by decide)) (k.2 4 (by decide))
theorem SIM_work {σ m h : Rg} {ns N G nn gc dn : Nat} {P Q PG QG pl : Nat → Nat} {nu : Nat → Int32} (hR : R σ m h ns N G nn gc P Q PG QG 1000 1000) (h11 : σ 1 0 11 = -1) (hns : 0 < ns) (hD : DU σ h N P dn pl nu) (hnn : nn + 120 < 1073741824) :
    ∃ σ' m' h' N' G' P' Q' PG' QG' nn', CX 7 5 1 0 [] σ none σ' ∧ MX 61 106 [] m h none m' h' ∧ MK m m' ∧ R σ' m' h' ns N' G' nn' gc P' Q' PG' QG' 1000 1000 ∧ nn' ≤ nn + 120 ∧ σ' 1 0 11 = -1 ∧ Tr N N' P P' σ σ' h h' := by
  obtain ⟨m', mn, a1, a2, a3, a4, a5, a6⟩ := T_mean (m := m) (st := 1) hR.2.2.2.2.2.2.2.2.2.1.2.1 hR.1.1
  have mk : MK m m' := ⟨fun a b1 b2 _ => a1 a b1 b2, a2⟩
  have hdn : dn ≤ 120 := hD.1
  obtain ⟨σ', h', N', G', P', Q', PG', QG', nn', b1, b2, b3, b4, b5, b6⟩ := phase (st := 1) (by decide) C5 D6 C5_stop C5_skip D6_stop D6_skip body5 dn (R_mk hR mk) h11 hns hD (Nat.zero_add dn) (hD.scan 1 hR) a5 a4 a3 (by omega)
  exact ⟨σ', m', h', N', G', P', Q', PG', QG', nn', fun d μ r => M5 (b1 d μ r none), fun d μ => M106 ⟨_, a6.mono (by decide) d μ, b2 d μ none⟩, mk, b3, by omega, b5, b6⟩
theorem SIM_pauses {σ m h : Rg} {ns N G nn gc dn : Nat} {P Q PG QG pl : Nat → Nat} {nu : Nat → Int32} (hR : R σ m h ns N G nn gc P Q PG QG 1000 1000) (h11 : σ 1 0 11 = -1) (hns : 0 < ns) (hD : DU σ h N P dn pl nu) (hnn : nn + 120 < 1073741824) :
    ∃ σ' m' h' N' G' P' Q' PG' QG' nn', CX 7 6 1 0 [] σ none σ' ∧ MX 61 107 [] m h none m' h' ∧ MK m m' ∧ R σ' m' h' ns N' G' nn' gc P' Q' PG' QG' 1000 1000 ∧ nn' ≤ nn + 120 ∧ σ' 1 0 11 = -1 ∧ Tr N N' P P' σ σ' h h' := by
  obtain ⟨m', mn, a1, a2, a3, a4, a5, a6⟩ := T_mean (m := m) (st := 3) hR.2.2.2.2.2.2.2.2.2.1.2.1 hR.1.1
  have mk : MK m m' := ⟨fun a b1 b2 _ => a1 a b1 b2, a2⟩
  have hdn : dn ≤ 120 := hD.1
  obtain ⟨σ', h', N', G', P', Q', PG', QG', nn', b1, b2, b3, b4, b5, b6⟩ := phase (st := 3) (by decide) C6 D7 C6_stop C6_skip D7_stop D7_skip body6 dn (R_mk hR mk) h11 hns hD (Nat.zero_add dn) (hD.scan 3 hR) a5 a4 a3 (by omega)
  exact ⟨σ', m', h', N', G', P', Q', PG', QG', nn', fun d μ r => M6 (b1 d μ r none), fun d μ => M107 ⟨_, a6.mono (by decide) d μ, b2 d μ⟩, mk, b3, by omega, b5, b6⟩
theorem SIM_asking {σ m h : Rg} {ns N G nn gc dn : Nat} {P Q PG QG pl : Nat → Nat} {nu : Nat → Int32} (hR : R σ m h ns N G nn gc P Q PG QG 1000 1000) (h11 : σ 1 0 11 = -1) (hns : 0 < ns) (hD : DU σ h N P dn pl nu) (hnn : nn + 120 < 1073741824) :
    ∃ σ' m' h' N' G' P' Q' PG' QG' nn', CX 7 7 1 0 [] σ none σ' ∧ MX 61 108 [] m h none m' h' ∧ MK m m' ∧ R σ' m' h' ns N' G' nn' gc P' Q' PG' QG' 1000 1000 ∧ nn' ≤ nn + 120 ∧ σ' 1 0 11 = -1 ∧ Tr N N' P P' σ σ' h h' := by
  obtain ⟨m', mn, a1, a2, a3, a4, a5, a6⟩ := T_mean (m := m) (st := 2) hR.2.2.2.2.2.2.2.2.2.1.2.1 hR.1.1
  have mk : MK m m' := ⟨fun a b1 b2 _ => a1 a b1 b2, a2⟩
  have hdn : dn ≤ 120 := hD.1
  obtain ⟨σ', h', N', G', P', Q', PG', QG', nn', b1, b2, b3, b4, b5, b6⟩ := phase (st := 2) (by decide) C7 D8 C7_stop C7_skip D8_stop D8_skip body7 dn (R_mk hR mk) h11 hns hD (Nat.zero_add dn) (hD.scan 2 hR) a5 a4 a3 (by omega)
  exact ⟨σ', m', h', N', G', P', Q', PG', QG', nn', fun d μ r => M7 (b1 d μ r none), fun d μ => M108 ⟨_, a6.mono (by decide) d μ, b2 d μ⟩, mk, b3, by omega, b5, b6⟩
/-- one service's hands -/
theorem SIM_fill1 {m : Rg} {ns s : Nat} (hs : s < ns) : ∀ (w : Nat) {σ h : Rg} {N G nn gc : Nat} {P Q PG QG : Nat → Nat} {x2 : Nat}, R σ m h ns N G nn gc P Q PG QG 1000 1000 → σ 3 s 4 = nI w → x2 + w ≤ 20 → σ 1 0 11 = -1 →
    ∃ σ' h', (∀ (d : Nat) (μ : Mem) (r : Nat) (res : Res), (∀ u2, EvE (M (d + 3)) 9 2 [some (.inr (r, 1, 0)), some (.inl (nI (s + 1))), u2] [] (va_up μ r σ') res) → EvE (M (d + 3)) 9 12 [some (.inr (r, 1, 0)), some (.inl (nI s)), some (.inl (nI x2))] [] (va_up μ r σ) res) ∧
      (∀ (d : Nat) (μ : Mem) (res : Res), (∀ u2, EvE (M (d + 3)) 110 2 [some (.inr (3, 40, 0)), some (.inl (nI (s + 1))), u2] [] (mm μ m h') res) → ∀ u2, EvE (M (d + 3)) 110 10 [some (.inr (3, 40, 0)), some (.inl (nI s)), u2] [] (mm μ m h) res) ∧
      R σ' m h' ns N G nn gc P Q PG QG 1000 1000 ∧ σ' 1 0 11 = -1 ∧ Tr N N P P σ σ' h h' := by
  intro w
  induction w with
  | zero =>
    intro σ h N G nn gc P Q PG QG x2 hR hw hx h11
    have hns : ns ≤ 6 := hR.2.2.2.2.2.2.2.2.2.1.1.1
    have v1 : vp_in (nI s) 6 := vp_in_nI (by omega) (by decide)
    have k1 : (nI s).toNatClampNeg = s := nI_cl (by omega)
    obtain ⟨w', w1, w2, w3, -⟩ := hR.2.2.2.2.2.1 s hs
    have : 0 = w' := nI_inj (by omega) (by omega) (hw.symm.trans w2)
    subst this
    refine ⟨σ, h, fun d μ r res H => ?_, fun d μ res H u2 => ?_, hR, h11, Tr.refl⟩
    · rw [B9_12]
      simp only [va_up_self, k1, hw, B9_61, nI_1]
      exact ⟨fun _ => H _, fun _ => ⟨v1, fun _ => H _, fun e => absurd (by decide) e⟩⟩
    · rw [B110_10]
      simp only [Nat.reduceAdd, mm4, k1, w3, B110_63, nI_1]
      exact ⟨v1, fun _ => H _, fun e => absurd (by decide) e⟩
  | succ w ih =>
    intro σ h N G nn gc P Q PG QG x2 hR hw hx h11
    obtain ⟨r1, r2, r3, r4, r5, r6, r7, r8, r9, r10, r11⟩ := id hR
    have hns : ns ≤ 6 := r10.1.1
    have hN120 : N ≤ 120 := r1.1
    have hNN : h 60 0 15 = nI N := r10.2.1
    have v1 : vp_in (nI s) 6 := vp_in_nI (by omega) (by decide)
    have k1 : (nI s).toNatClampNeg = s := nI_cl (by omega)
    obtain ⟨w', w1, w2, w3, w4, w5⟩ := r6 s hs
    have : w + 1 = w' := nI_inj (by omega) (by omega) (hw.symm.trans w2)
    subst this
    have c0 : ¬ (20 : Int32) ≤ nI x2 := nI_ge (b := 20) (by omega) (by decide)
    have c1 : ¬ nI (w + 1) ≤ 0 := nI_ge (a := 0) (by omega) (by omega)
    obtain ⟨q1, q2, q3⟩ := r9 s hs
    have h5 := r7 s hs
    have m7 : m 41 0 (9 * s + 7) = σ 4 s 7 := (q1 7 (by decide)).symm
    have hcn : σ 3 s 5 = nI (cnt (hup h (nI s)) N) := h5
    by_cases hf : σ 4 s 7 ≤ σ 3 s 5
    · refine ⟨σ, h, fun d μ r res H => ?_, fun d μ res H u2 => ?_, hR, h11, Tr.refl⟩
      · rw [B9_12]
        simp only [va_up_self, k1, hw]
        refine ⟨fun e => absurd e c0, fun _ => ⟨v1, fun e => absurd e c1, fun _ => ⟨v1, _, _, T_free.mono (by omega) d μ r, ?_⟩⟩⟩
        rw [if_pos hf]
        simp only [B9_61, nI_1]
        exact ⟨fun _ => H _, fun e => absurd True.intro e⟩
      · rw [B110_10]
        simp only [Nat.reduceAdd, mm4, k1, w3]
        refine ⟨v1, fun e => absurd e c1, fun _ => ⟨_, _, (T_hands hNN hN120).mono (by omega) d μ, _, _, (T_ruled (by omega) (by decide) rfl).mono (by omega) d μ, ?_⟩⟩
        rw [m7, ← hcn]
        simp only [B110_63, nI_1]
        exact ⟨fun _ => H _, fun e => absurd hf e⟩
    · obtain ⟨k0, p1, p2, p3, p4, p5⟩ := w4 0 (by omega)
      obtain ⟨n0, hn0, hn1⟩ := (r4.1 k0 p1).1
      have hb := r1.2.1
      have hinj := r1.2.2.2.1
      have huz : ∀ i, i < k0 → ¬ h 67 0 i = h 67 0 k0 := fun i hi' e => absurd (r4.uniq (by omega) p1 e) (by omega)
      have h17 : σ 17 0 (P k0) = -1 := by
        rcases r5.1 k0 p1 (by omega) with z | ⟨z, -⟩
        · exact z.1
        · rw [p4] at z; exact absurd z (by decide)
      obtain ⟨hL, l1, l2, l3, l4⟩ := T_leaveRow (m := m) (h := h) (by omega : s < 6) w3 (by omega) w1
      have hR3 := R_deq hR hs hw (by omega) w1 l2 l3 l4
      have no0 := r6.deq_no hs hw (by omega) w1 p1 hinj hb hns p2 p5
      have lL : ∀ a, a ≠ 65 → a ≠ 66 → hL a = h a := fun a a1 a2 => by rw [l4 a a1, cs_a _ _ a2]
      have hT : CX 1 41 3 s [] σ (some (nI (P k0))) (crow (cset σ 3 s 4 (nI (w + 1 - 1))) 7 s (va_cpy (σ 7 s) (σ 7 s) 1 0 (w + 1 - 1))) := by rw [← p2]; exact T_takeFirst hw (by omega) w1
      have q4 : crow (cset σ 3 s 4 (nI (w + 1 - 1))) 7 s (va_cpy (σ 7 s) (σ 7 s) 1 0 (w + 1 - 1)) 3 s 4 = nI w := by simp (disch := decide) only [cr_a, cs_s]; rfl
      have c7 : (fun s_1 => crow (cset σ 3 s 4 (nI (w + 1 - 1))) 7 s (va_cpy (σ 7 s) (σ 7 s) 1 0 (w + 1 - 1)) 3 s_1 4) = va_up (fun s => σ 3 s 4) s (nI (w + 1 - 1)) := by simp (disch := decide) only [cr_a, cs_col]
      have c8 : crow (cset σ 3 s 4 (nI (w + 1 - 1))) 7 s (va_cpy (σ 7 s) (σ 7 s) 1 0 (w + 1 - 1)) 7 = va_up (σ 7) s (va_cpy (σ 7 s) (σ 7 s) 1 0 (w + 1 - 1)) := by simp (disch := decide) only [cr_f, cs_a]
      have f3 : ∀ a, a ≠ 3 → a ≠ 7 → crow (cset σ 3 s 4 (nI (w + 1 - 1))) 7 s (va_cpy (σ 7 s) (σ 7 s) 1 0 (w + 1 - 1)) a = σ a := fun a a1 a2 => by rw [cr_a _ _ a2, cs_a _ _ a1]
      generalize crow (cset σ 3 s 4 (nI (w + 1 - 1))) 7 s (va_cpy (σ 7 s) (σ 7 s) 1 0 (w + 1 - 1)) = σ3 at hR3 hT q4 c7 c8 f3
      have hR4 := R_begin (z := k0) (s := s) hR3 p1 (by rw [lL 70 (by decide) (by decide)]; exact p4) (by rw [lL 68 (by decide) (by decide)]; exact p5) hs (by rw [c7, c8]; exact no0) (by rw [f3 17 (by decide) (by decide)]; exact h17)
      have tr3 := Tr.begin (z := k0) (s := s) hR3 p1 hs
      have tr0 : Tr N N P P σ σ3 h hL := Tr.same (lL 67 (by decide) (by decide)) (lL 70 (by decide) (by decide)) (lL 72 (by decide) (by decide)) (by rw [lL 60 (by decide) (by decide)]) (f3 15 (by decide) (by decide)) (fun a ha => f3 a (by omega) (by omega)) (by rw [f3 1 (by decide) (by decide)]) (f3 4 (by decide) (by decide))
      have hB := T_begin (σ := σ3) (hb _ p1) (by omega : s < 6) (by rw [f3 13 (by decide) (by decide), ← (r3 k0 p1).2.1]; exact p5)
      have hMB := T_mbegin (m := m) (h := hL) (N := N) (z := k0) (s := s) (n := h 67 0 k0) (by rw [lL 60 (by decide) (by decide)]; exact hNN) hN120 p1 (by rw [lL 67 (by decide) (by decide)]) (by rw [lL 67 (by decide) (by decide)]; exact huz) (by omega) (by rw [lL 68 (by decide) (by decide)]; exact p5)
      obtain ⟨σ', h', a1, a2, a3, a4, a5⟩ := ih (x2 := x2 + 1) hR4 (by unfold cBegin; simp (disch := decide) only [cs_a, cs_i]; exact q4) (by omega) (by unfold cBegin; simp (disch := decide) only [cs_a]; rw [f3 1 (by decide) (by decide)]; exact h11)
      have e0 : 20 * nI s = nI (20 * s) := by have := ix_lin (c := 20) (s := s) (t := 0) (x := 0) 20 rfl rfl; rw [Int32.add_zero] at this; exact this
      have v0 : vp_in (nI (20 * s)) 120 := vp_in_nI (by omega) (by decide)
      have kk0 : (nI (20 * s)).toNatClampNeg = 20 * s := nI_cl (by omega)
      have e65 : h 65 0 (20 * s) = h 67 0 k0 := p3
      refine ⟨σ', h', fun d μ r res H => ?_, fun d μ res H u2 => ?_, a3, a4, tr0.trans (tr3.trans a5)⟩
      · rw [B9_12]
        simp only [va_up_self, k1, hw]
        refine ⟨fun e => absurd e c0, fun _ => ⟨v1, fun e => absurd e c1, fun _ => ⟨v1, _, _, T_free.mono (by omega) d μ r, ?_⟩⟩⟩
        rw [if_neg hf]
        refine ⟨fun e => absurd e (by decide), fun _ => ⟨v1, _, _, hT.mono (by omega) d μ r, _, hB.mono (by omega) d μ r, ?_⟩⟩
        rw [nI_1]
        exact a1 d μ r res H
      · rw [B110_10]
        simp only [Nat.reduceAdd, mm4, k1, w3]
        refine ⟨v1, fun e => absurd e c1, fun _ => ⟨_, _, (T_hands hNN hN120).mono (by omega) d μ, _, _, (T_ruled (by omega) (by decide) rfl).mono (by omega) d μ, ?_⟩⟩
        rw [m7, ← hcn]
        refine ⟨fun e => absurd e hf, fun _ => ?_⟩
        simp only [mm4, e0, kk0, e65]
        exact ⟨v0, _, l1.mono (by omega) d μ, _, hMB.mono (by omega) d μ, a2 d μ res H _⟩
theorem SIM_fill {m : Rg} {ns : Nat} : ∀ (c s : Nat) {σ h : Rg} {N G nn gc : Nat} {P Q PG QG : Nat → Nat}, s + c = ns → R σ m h ns N G nn gc P Q PG QG 1000 1000 → σ 1 0 11 = -1 →
    ∃ σ' h', (∀ (d : Nat) (μ : Mem) (r : Nat) u2, EvE (M (d + 3)) 9 2 [some (.inr (r, 1, 0)), some (.inl (nI s)), u2] [] (va_up μ r σ) (none, va_up μ r σ')) ∧
      (∀ (d : Nat) (μ : Mem) u2, EvE (M (d + 3)) 110 2 [some (.inr (3, 40, 0)), some (.inl (nI s)), u2] [] (mm μ m h) (none, mm μ m h')) ∧
      R σ' m h' ns N G nn gc P Q PG QG 1000 1000 ∧ σ' 1 0 11 = -1 ∧ Tr N N P P σ σ' h h' := by
  intro c
  induction c with
  | zero =>
    intro s σ h N G nn gc P Q PG QG hsc hR h11
    have hns : ns ≤ 6 := hR.2.2.2.2.2.2.2.2.2.1.1.1
    have hc1 : σ 1 0 1 = nI ns := hR.2.2.2.2.2.2.2.2.2.1.1.2.1
    have hm2 : m 40 0 2 = nI ns := hR.2.2.2.2.2.2.2.2.2.1.1.2.2
    refine ⟨σ, h, fun d μ r u2 => ?_, fun d μ u2 => ?_, hR, h11, Tr.refl⟩
    · rw [B9_2]
      simp (disch := omega) only [va_up_self, hc1, nI_le']
      exact ⟨fun _ => True.intro, fun e => absurd (by omega) e⟩
    · rw [B110_2]
      simp (disch := omega) only [mm3, hm2, nI_le']
      exact ⟨fun _ => True.intro, fun e => absurd (by omega) e⟩
  | succ c ih =>
    intro s σ h N G nn gc P Q PG QG hsc hR h11
    have hns : ns ≤ 6 := hR.2.2.2.2.2.2.2.2.2.1.1.1
    have hc1 : σ 1 0 1 = nI ns := hR.2.2.2.2.2.2.2.2.2.1.1.2.1
    have hm2 : m 40 0 2 = nI ns := hR.2.2.2.2.2.2.2.2.2.1.1.2.2
    have hs : s < ns := by omega
    obtain ⟨w, w1, w2, -⟩ := hR.2.2.2.2.2.1 s hs
    obtain ⟨σ1, h1, a1, a2, a3, a4, a5⟩ := SIM_fill1 hs w (x2 := 0) hR w2 (by omega) h11
    obtain ⟨σ', h', b1, b2, b3, b4, b5⟩ := ih (s + 1) (by omega) a3 a4
    refine ⟨σ', h', fun d μ r u2 => ?_, fun d μ u2 => ?_, b3, b4, a5.trans b5⟩
    · rw [B9_2]
      simp (disch := omega) only [va_up_self, hc1, nI_le']
      exact ⟨fun e => absurd e (by omega), fun _ => a1 d μ r _ (fun u2 => b1 d μ r u2)⟩
    · rw [B110_2]
      simp (disch := omega) only [mm3, hm2, nI_le']
      exact ⟨fun e => absurd e (by omega), fun _ => a2 d μ _ (fun u2 => b2 d μ u2) u2⟩
theorem SIM_hands {σ m h : Rg} {ns N G nn gc : Nat} {P Q PG QG : Nat → Nat} (hR : R σ m h ns N G nn gc P Q PG QG 1000 1000) (h11 : σ 1 0 11 = -1) : ∃ σ' h', CX 4 9 1 0 [] σ none σ' ∧ MX 4 110 [] m h none m h' ∧ R σ' m h' ns N G nn gc P Q PG QG 1000 1000 ∧ σ' 1 0 11 = -1 ∧ Tr N N P P σ σ' h h' := by
  obtain ⟨σ', h', a1, a2, a3, a4, a5⟩ := SIM_fill ns 0 (Nat.zero_add ns) hR h11
  exact ⟨σ', h', fun d μ r => M9 (a1 d μ r none), fun d μ => M110 (a2 d μ none), a3, a4, a5⟩
