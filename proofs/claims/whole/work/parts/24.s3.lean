/-! a job fails -/
def cF (σ : Rg) (p s : Nat) : Rg := cset (if σ 4 s 4 ≤ 0 ∨ σ 3 s 7 + 1 < σ 4 s 4 then cset (cset (cset σ 1 0 3 0) 5 s 6 (σ 5 s 6 + 1)) 3 s 7 (σ 3 s 7 + 1) else cset (cset (cset (cset (cset σ 1 0 3 0) 5 s 6 (σ 5 s 6 + 1)) 3 s 7 (σ 3 s 7 + 1)) 3 s 6 (σ 1 0 2 + σ 4 s 5)) 3 s 7 0) 17 0 p (-1)
def cP (σ : Rg) (p s : Nat) : Int32 := σ 1 0 2 + 1 + (σ 4 s 2 <<< (σ 19 0 p &&& 31))
theorem T_fail {σ : Rg} {p s : Nat} (hp : p < 120) (hs : s < 6) (h13 : σ 13 0 p = nI s) : (σ 19 0 p < σ 4 s 1 → CX 2 22 1 0 [.inl (nI p)] σ (some 1) (cset (cset (cF σ p s) 15 0 p 3) 18 0 p (cP σ p s))) ∧ (¬ σ 19 0 p < σ 4 s 1 → CX 2 22 1 0 [.inl (nI p)] σ (some 0) (cF σ p s)) := by
  have v0 : vp_in (nI p) 120 := vp_in_nI hp (by decide)
  have k0 : (nI p).toNatClampNeg = p := nI_cl (by omega)
  have v1 : vp_in (nI s) 6 := vp_in_nI hs (by decide)
  have k1 : (nI s).toNatClampNeg = s := nI_cl (by omega)
  constructor
  · intro ha d μ r
    refine M22 ?_
    have fin := T_become (σ := cF σ p s) (p := p) (u := 3) (v := cP σ p s) hp d μ r
    unfold cF cP at fin
    unfold cF cP
    by_cases e1 : σ 4 s 4 ≤ 0
    · simp (disch := decide) only [B22_83, va_up_self, ms_up, cs_a, cs_i, cs_s, k0, v0, h13, k1, v1, e1, ha, true_or, if_true, not_true_eq_false, not_false_eq_true, true_and, and_true, false_implies, true_implies] at fin ⊢
      exact ⟨_, fin, rfl⟩
    · by_cases e2 : σ 3 s 7 + 1 < σ 4 s 4
      · simp (disch := decide) only [B22_83, va_up_self, ms_up, cs_a, cs_i, cs_s, k0, v0, h13, k1, v1, e1, e2, ha, or_true, if_true, not_true_eq_false, not_false_eq_true, true_and, and_true, false_implies, true_implies] at fin ⊢
        exact ⟨_, fin, rfl⟩
      · simp (disch := decide) only [B22_83, va_up_self, ms_up, cs_a, cs_i, cs_s, k0, v0, h13, k1, v1, e1, e2, ha, or_self, if_false, not_true_eq_false, not_false_eq_true, true_and, and_true, false_implies, true_implies] at fin ⊢
        exact ⟨_, fin, rfl⟩
  · intro ha d μ r
    refine M22 ?_
    unfold cF
    by_cases e1 : σ 4 s 4 ≤ 0
    · simp (disch := decide) only [B22_83, va_up_self, ms_up, cs_a, cs_i, cs_s, k0, v0, h13, k1, v1, e1, ha, true_or, if_true, not_true_eq_false, not_false_eq_true, true_and, and_true, false_implies, true_implies]
    · by_cases e2 : σ 3 s 7 + 1 < σ 4 s 4
      · simp (disch := decide) only [B22_83, va_up_self, ms_up, cs_a, cs_i, cs_s, k0, v0, h13, k1, v1, e1, e2, ha, or_true, if_true, not_true_eq_false, not_false_eq_true, true_and, and_true, false_implies, true_implies]
      · simp (disch := decide) only [B22_83, va_up_self, ms_up, cs_a, cs_i, cs_s, k0, v0, h13, k1, v1, e1, e2, ha, or_self, if_false, not_true_eq_false, not_false_eq_true, true_and, and_true, false_implies, true_implies]
def mF (m h : Rg) (k s : Nat) : Rg := if m 41 0 (9 * s + 4) ≤ 0 ∨ h 62 0 s + 1 < m 41 0 (9 * s + 4) then cset (cset (cset (cset h 74 0 k (-1)) 60 0 28 0) 63 0 (13 * s + 12) (h 63 0 (13 * s + 12) + 1)) 62 0 s (h 62 0 s + 1) else cset (cset (cset (cset (cset (cset h 74 0 k (-1)) 60 0 28 0) 63 0 (13 * s + 12) (h 63 0 (13 * s + 12) + 1)) 62 0 s (h 62 0 s + 1)) 61 0 s (h 60 0 0 + m 41 0 (9 * s + 5))) 62 0 s 0
def mPz (m h : Rg) (k s : Nat) : Int32 := h 60 0 0 + 1 + (m 41 0 (9 * s + 2) <<< (h 73 0 k &&& 31))
theorem T_mfail {m h : Rg} {N z s : Nat} {n : Int32} (hN : h 60 0 15 = nI N) (hb : N ≤ 120) (hz : z < N) (hn : h 67 0 z = n) (hu : ∀ i, i < z → ¬ h 67 0 i = n) (hs : s < 6) (h68 : h 68 0 z = nI s) : (¬ m 41 0 (9 * s + 1) ≤ h 73 0 z → MX 2 99 [.inl n] m h none m (cset (cset (mF m h z s) 70 0 z 3) 72 0 z (mPz m h z s))) ∧ (m 41 0 (9 * s + 1) ≤ h 73 0 z → ∀ k h', MX k 97 [.inl n, .inl 0] m (mF m h z s) none m h' → MX (k + 2) 99 [.inl n] m h none m h') := by
  have v0 : vp_in (nI z) 120 := vp_in_nI (by omega) (by decide)
  have k0 : (nI z).toNatClampNeg = z := nI_cl (by omega)
  have v1 : vp_in (nI s) 6 := vp_in_nI hs (by decide)
  have k1 : (nI s).toNatClampNeg = s := nI_cl (by omega)
  have main : ∀ (d : Nat) (μ : Mem) (res : Res), EvE (M (d + 1)) 99 114 [some (.inr (3, 40, 0)), some (.inl n), some (.inl (nI z)), some (.inl (nI s))] [] (mm μ m (mF m h z s)) res → M (d + 2) 99 (.inr (3, 40, 0) :: [.inl n]) (mm μ m h) res := by
    intro d μ res hE
    refine M99 ⟨nI z, _, T_placeOf hN hb hz hn hu d μ, v0, v0, ?_⟩
    simp only [Nat.reduceAdd, mm4, ms4, k0, h68]
    refine ⟨_, T_madd (t := 12) hs (by decide) rfl d μ, v1, v1, ?_⟩
    simp (disch := decide) only [mm4, ms4, k1, cs_a]
    refine ⟨_, _, T_ruled (j := 4) hs (by decide) rfl d μ, ?_⟩
    unfold mF at hE
    by_cases e1 : m 41 0 (9 * s + 4) ≤ 0
    · simp only [e1, true_or, if_true] at hE
      exact ⟨fun _ => hE, fun e => absurd e1 e⟩
    · refine ⟨fun e => absurd e e1, fun _ => ⟨v1, _, _, T_ruled (j := 4) hs (by decide) rfl d μ, ?_⟩⟩
      simp (disch := decide) only [mm4, k1, cs_a, cs_s]
      by_cases e2 : h 62 0 s + 1 < m 41 0 (9 * s + 4)
      · simp only [e2, or_true, if_true] at hE
        exact ⟨fun _ => hE, fun e => absurd e2 e⟩
      · simp only [e1, e2, or_self, if_false] at hE
        refine ⟨fun e => absurd e e2, fun _ => ⟨_, _, T_ruled (j := 5) hs (by decide) rfl d μ, v1, v1, ?_⟩⟩
        simp (disch := decide) only [mm4, ms4, k1, cs_a, cs_i]
        exact hE
  have f73 : mF m h z s 73 = h 73 := by unfold mF; split <;> simp (disch := decide) only [cs_a]
  have f600 : mF m h z s 60 0 0 = h 60 0 0 := by unfold mF; split <;> simp (disch := decide) only [cs_a, cs_i]
  constructor
  · intro ha d μ
    refine main d μ _ (B99_114.mpr ⟨v0, _, _, T_ruled (j := 1) hs (by decide) rfl d μ, ?_⟩)
    simp only [Nat.reduceAdd, mm4, ms4, k0, f73]
    refine ⟨fun e => absurd e ha, fun _ => ⟨v0, _, _, T_ruled (j := 2) hs (by decide) rfl d μ, v0, v0, B99_186.mpr ?_⟩⟩
    simp (disch := decide) only [mm4, ms4, k0, cs_a, f73, f600]
    rfl
  · intro ha k h' hov d μ
    have := main (d + k) μ (none, mm μ m h') (B99_114.mpr ⟨v0, _, _, T_ruled (j := 1) hs (by decide) rfl (d + k) μ, by
      simp only [Nat.reduceAdd, mm4, k0, f73]
      exact ⟨fun _ => ⟨_, (hov.mono (Nat.le_add_right k 1)) d μ, B99_186.mpr rfl⟩, fun e => absurd ha e⟩⟩)
    exact this
theorem R_fail {σ m h : Rg} {ns N G nn gc z s pg pj' : Nat} {P Q PG QG : Nat → Nat} (hR : R σ m h ns N G nn gc P Q PG QG z pg) (hz : z < N) (hs2 : s < ns) (hpj : N ≤ pj') : R (cF σ (P z) s) m (mF m h z s) ns N G nn gc P Q PG QG pj' pg := by
  obtain ⟨r1, r2, r3, r4, r5, r6, r7, r8, r9, r10, r11⟩ := hR
  have hi := r1.2.2.2.1
  have hns := r10.1.1
  obtain ⟨tt, ht0, ht1, ht2⟩ := r10.2.2.2.2.2.1
  obtain ⟨c1, c2, c3, c4, c5, c6, c7, c8⟩ := r10
  have r8s := r8 s (by omega)
  have e7 : σ 3 s 7 = h 62 0 s := r8s.2.2.1
  have ru := (r9 s hs2).1
  have fr : ∀ a, a ≠ 1 → a ≠ 3 → a ≠ 5 → a ≠ 17 → cF σ (P z) s a = σ a := by
    intro a a1 a3 a5 a17
    unfold cF
    split <;> simp (disch := assumption) only [cs_a]
  have f17 : cF σ (P z) s 17 0 = va_up (σ 17 0) (P z) (-1) := by
    unfold cF
    split <;> simp (disch := decide) only [cs_r, cs_a]
  have f1 : ∀ i, i ≠ 3 → cF σ (P z) s 1 0 i = σ 1 0 i := by
    intro i hi
    unfold cF
    split <;> simp (disch := first | decide | assumption) only [cs_a, cs_i]
  have f13 : cF σ (P z) s 1 0 3 = 0 := by
    unfold cF
    split <;> simp (disch := decide) only [cs_a, cs_s]
  have f3 : ∀ s' i, i ≠ 6 → i ≠ 7 → cF σ (P z) s 3 s' i = σ 3 s' i := by
    intro s' i i6 i7
    unfold cF
    split <;> simp (disch := first | decide | assumption) only [cs_a, cs_i]
  have gr : ∀ a, a ≠ 60 → a ≠ 61 → a ≠ 62 → a ≠ 63 → a ≠ 74 → mF m h z s a = h a := by
    intro a a1 a3 a5 a6 a17
    unfold mF
    split <;> simp (disch := assumption) only [cs_a]
  have g74 : mF m h z s 74 0 = va_up (h 74 0) z (-1) := by
    unfold mF
    split <;> simp (disch := decide) only [cs_r, cs_a]
  have g60 : ∀ i, i ≠ 28 → mF m h z s 60 0 i = h 60 0 i := by
    intro i hi
    unfold mF
    split <;> simp (disch := first | decide | assumption) only [cs_a, cs_i]
  have g28 : mF m h z s 60 0 28 = 0 := by
    unfold mF
    split <;> simp (disch := decide) only [cs_a, cs_s]
  have hsv : SV (fun s' => cF σ (P z) s 3 s' 6) (fun s' => cF σ (P z) s 3 s' 7) (cF σ (P z) s 5) (cF σ (P z) s 6) (mF m h z s 61 0) (mF m h z s 62 0) (mF m h z s 63 0) (mF m h z s 64 0) := by
    have b1 := (r8.tal (s := s) (t := 6) (by omega) (by decide)).fails (s := s) (v := h 62 0 s + 1)
    unfold cF mF
    rw [← ru 4 (by decide), ← ru 5 (by decide), e7, ht1, ← ht2]
    by_cases e : σ 4 s 4 ≤ 0 ∨ h 62 0 s + 1 < σ 4 s 4
    · simp (disch := decide) only [if_pos e, cs_a, cs_col, cs_i]
      simp (disch := decide) only [cs_a, cs_f, va_up_self]
      exact b1
    · simp (disch := decide) only [if_neg e, cs_a, cs_col, cs_i]
      simp (disch := decide) only [cs_a, cs_f, va_up_self]
      exact (b1.rest (s := s) (v := h 60 0 0 + σ 4 s 5)).fails (s := s) (v := 0)
  refine ⟨?_, ?_, ?_, ?_, ?_, ?_, ?_, hsv, ?_, ?_, ?_⟩
  · simp (disch := decide) only [fr]; exact r1
  · simp (disch := decide) only [fr]; exact r2
  · simp (disch := decide) only [fr, gr]; exact r3
  · simp (disch := decide) only [gr]; exact r4
  · simp (disch := decide) only [fr, gr, f17, g74]
    exact r5.fail hz hi hpj
  · simp (disch := decide) only [fr, gr, f3]; exact r6
  · simp (disch := decide) only [gr, f3]; exact r7
  · simp (disch := decide) only [fr]; exact r9
  · simp (disch := decide) only [fr, f1, f13, g60, g28]
    exact ⟨c1, c2, c3, c4, c5, c6, ⟨rfl, Or.inl rfl⟩, c8⟩
  · simp (disch := decide) only [fr, gr]; exact r11
theorem R_state {σ m h : Rg} {ns N G nn gc z pj pg : Nat} {P Q PG QG : Nat → Nat} {u v : Int32} (hR : R σ m h ns N G nn gc P Q PG QG pj pg) (hz : z < N) (h70 : ¬ h 70 0 z = 0) (hu : u = 1 ∨ ((u = 2 ∨ u = 3) ∧ ∃ s, s + 1 < ns ∧ h 68 0 z = nI s)) (hch : z = pj ∨ σ 17 0 (P z) = -1) : R (cset (cset σ 15 0 (P z) u) 18 0 (P z) v) m (cset (cset h 70 0 z u) 72 0 z v) ns N G nn gc P Q PG QG pj pg := by
  obtain ⟨r1, r2, r3, r4, r5, r6, r7, r8, r9, r10, r11⟩ := hR
  have hi := r1.2.2.2.1
  have hb := r1.2.1
  have hu0 : ¬ u = 0 := by rcases hu with rfl | rfl | ⟨rfl, -⟩ <;> decide
  have hno := r6.noRow hz hi hb h70
  refine ⟨?_, ?_, ?_, ?_, ?_, ?_, ?_, ?_, ?_, ?_, ?_⟩ <;> simp (disch := decide) only [cs_a, cs_r]
  · exact r1
  · exact r2
  · exact r3.become hi hz
  · exact r4.become hz hu
  · exact r5.st hb hch
  · exact r6.become hno
  · exact r7.keep h70 hu0
  · exact r8
  · exact r9
  · exact r10
  · exact r11
