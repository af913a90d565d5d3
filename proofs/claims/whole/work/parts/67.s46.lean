/-! a trial begins: the class's copies -/
theorem cpy0 {f g : Nat → Int32} {n i : Nat} (h : i < n) : va_cpy f g 0 0 n i = f i := by
  unfold va_cpy
  rw [if_pos ⟨by omega, by omega⟩]
  congr 1; omega
def CS (τ σ : Rg) (s : Nat) : Prop := (∀ j, j < 10 → σ 4 s j = τ 4 s j) ∧ (∀ j, j < 7 → σ 5 s j = τ 5 s j) ∧ (∀ j, j < 8 → σ 6 s j = τ 6 s j) ∧ (∀ j, j < 20 → σ 7 s j = τ 7 s j) ∧ σ 3 s 4 = τ 3 s 4 ∧ σ 3 s 5 = τ 3 s 5 ∧ σ 3 s 6 = τ 3 s 6 ∧ σ 3 s 7 = τ 3 s 7
theorem T_cpS (σ τ : Rg) (s : Nat) : ∃ σ', (∀ (d : Nat) (μ : Mem), μ 1 = τ → M (d + 1) 42 [.inr (2, 3, s), .inr (1, 3, s)] (va_up μ 2 σ) (none, va_up μ 2 σ')) ∧ CS τ σ' s ∧ (∀ a, ¬ (3 ≤ a ∧ a ≤ 7) → σ' a = σ a) ∧ ∀ a s', s' ≠ s → σ' a s' = σ a s' := by
  apply Exists.intro
  refine ⟨fun d μ e => M42 ?_, ?_, ?_, ?_⟩
  · have e1 : va_up μ 2 σ 1 = τ := by rw [va_up_ne _ _ (by decide)]; exact e
    simp only [e1, va_up_self, mr_up, ms_up]
    exact rfl
  · refine ⟨fun j hj => ?_, fun j hj => ?_, fun j hj => ?_, fun j hj => ?_, ?_, ?_, ?_, ?_⟩ <;> simp (disch := decide) only [cs_a, cs_i, cs_s, cr_a, cr_r]
    · exact cpy0 hj
    · exact cpy0 hj
    · exact cpy0 hj
    · exact cpy0 hj
  · intro a ha
    have h3 : a ≠ 3 := by omega
    have h4 : a ≠ 4 := by omega
    have h5 : a ≠ 5 := by omega
    have h6 : a ≠ 6 := by omega
    have h7 : a ≠ 7 := by omega
    simp (disch := assumption) only [cs_a, cr_a]
  · intro a s' hs
    by_cases h3 : a = 3
    · subst h3
      simp (disch := first | assumption | decide) only [cs_o, cr_a]
    · by_cases h7 : a = 7
      · subst h7
        simp (disch := first | assumption | decide) only [cs_a, cr_o, cr_a]
      · by_cases h6 : a = 6
        · subst h6
          simp (disch := first | assumption | decide) only [cs_a, cr_o, cr_a]
        · by_cases h5 : a = 5
          · subst h5
            simp (disch := first | assumption | decide) only [cs_a, cr_o, cr_a]
          · by_cases h4 : a = 4
            · subst h4
              simp (disch := first | assumption | decide) only [cs_a, cr_o, cr_a]
            · simp (disch := assumption) only [cs_a, cr_a]
theorem T_min (d : Nat) (μ : Mem) (x : Int32) : M (d + 1) 129 [.inl x, .inl x] μ (some x, μ) := M129 ⟨fun _ => B129_10.mpr rfl, fun _ => B129_10.mpr rfl⟩
theorem T_cpL9 (σ τ : Rg) : ∃ σ', (∀ (d : Nat) (μ : Mem), μ 1 = τ → M (d + 2) 33 [.inr (2, 9, 0), .inr (1, 9, 0)] (va_up μ 2 σ) (none, va_up μ 2 σ')) ∧ (σ' 9 0 2 = τ 9 0 2 ∧ σ' 9 0 3 = τ 9 0 3 ∧ σ' 9 0 4 = τ 9 0 4 ∧ σ' 9 0 5 = τ 9 0 5) ∧ (∀ i, i < 120 → σ' 10 0 i = τ 10 0 i) ∧ (∀ i, i < 120 → σ' 11 0 i = τ 11 0 i) ∧ ∀ a, a ≠ 9 → a ≠ 10 → a ≠ 11 → σ' a = σ a := by
  apply Exists.intro
  refine ⟨fun d μ e => M33v9 ⟨nI 120, va_up μ 2 σ, T_min d _ _, ⟨by decide, by decide, by decide, by decide, by decide⟩, ⟨by decide, by decide, by decide, by decide, by decide⟩, ?_⟩, ?_, ?_, ?_, ?_⟩
  · have e1 : va_up μ 2 σ 1 = τ := by rw [va_up_ne _ _ (by decide)]; exact e
    rw [nI_cl (by decide)]
    simp only [e1, va_up_self, mr_up, ms_up]
    exact rfl
  · simp (disch := decide) only [cs_a, cs_i, cs_s, cr_a, cr_r, and_self]
  · intro i hi
    simp (disch := decide) only [cs_a, cs_i, cs_s, cr_a, cr_r]
    exact cpy0 hi
  · intro i hi
    simp (disch := decide) only [cs_a, cs_i, cs_s, cr_a, cr_r]
    exact cpy0 hi
  · intro a h1 h2 h3
    simp (disch := assumption) only [cs_a, cr_a]
theorem T_cpL21 (σ τ : Rg) : ∃ σ', (∀ (d : Nat) (μ : Mem), μ 1 = τ → M (d + 2) 33 [.inr (2, 21, 0), .inr (1, 21, 0)] (va_up μ 2 σ) (none, va_up μ 2 σ')) ∧ (σ' 21 0 2 = τ 21 0 2 ∧ σ' 21 0 3 = τ 21 0 3 ∧ σ' 21 0 4 = τ 21 0 4 ∧ σ' 21 0 5 = τ 21 0 5) ∧ (∀ i, i < 100 → σ' 22 0 i = τ 22 0 i) ∧ (∀ i, i < 100 → σ' 23 0 i = τ 23 0 i) ∧ ∀ a, a ≠ 21 → a ≠ 22 → a ≠ 23 → σ' a = σ a := by
  apply Exists.intro
  refine ⟨fun d μ e => M33v21 ⟨nI 100, va_up μ 2 σ, T_min d _ _, ⟨by decide, by decide, by decide, by decide, by decide⟩, ⟨by decide, by decide, by decide, by decide, by decide⟩, ?_⟩, ?_, ?_, ?_, ?_⟩
  · have e1 : va_up μ 2 σ 1 = τ := by rw [va_up_ne _ _ (by decide)]; exact e
    rw [nI_cl (by decide)]
    simp only [e1, va_up_self, mr_up, ms_up]
    exact rfl
  · simp (disch := decide) only [cs_a, cs_i, cs_s, cr_a, cr_r, and_self]
  · intro i hi
    simp (disch := decide) only [cs_a, cs_i, cs_s, cr_a, cr_r]
    exact cpy0 hi
  · intro i hi
    simp (disch := decide) only [cs_a, cs_i, cs_s, cr_a, cr_r]
    exact cpy0 hi
  · intro a h1 h2 h3
    simp (disch := assumption) only [cs_a, cr_a]
def CJ (τ σ : Rg) : Prop := (σ 9 0 2 = τ 9 0 2 ∧ σ 9 0 3 = τ 9 0 3 ∧ σ 9 0 4 = τ 9 0 4 ∧ σ 9 0 5 = τ 9 0 5) ∧ σ 8 0 9 = τ 8 0 9 ∧ ∀ i, i < 120 → σ 10 0 i = τ 10 0 i ∧ σ 11 0 i = τ 11 0 i ∧ σ 12 0 i = τ 12 0 i ∧ σ 13 0 i = τ 13 0 i ∧ σ 14 0 i = τ 14 0 i ∧ σ 15 0 i = τ 15 0 i ∧ σ 16 0 i = τ 16 0 i ∧ σ 17 0 i = τ 17 0 i ∧ σ 18 0 i = τ 18 0 i ∧ σ 19 0 i = τ 19 0 i
theorem T_cpJ (σ τ : Rg) : ∃ σ', (∀ (d : Nat) (μ : Mem), μ 1 = τ → M (d + 3) 29 [.inr (2, 8, 0), .inr (1, 8, 0)] (va_up μ 2 σ) (none, va_up μ 2 σ')) ∧ CJ τ σ' ∧ ∀ a, ¬ (8 ≤ a ∧ a ≤ 19) → σ' a = σ a := by
  obtain ⟨σ1, a1, a2, a3, a4, a5⟩ := T_cpL9 σ τ
  apply Exists.intro
  refine ⟨fun d μ e => M29 ⟨_, a1 d μ e, ?_⟩, ?_, ?_⟩
  · have e1 : va_up μ 2 σ1 1 = τ := by rw [va_up_ne _ _ (by decide)]; exact e
    simp only [e1, va_up_self, mr_up, ms_up]
    exact rfl
  · refine ⟨?_, ?_, fun i hi => ?_⟩ <;> simp (disch := decide) only [cs_a, cs_i, cs_s, cr_a, cr_r]
    · exact a2
    · exact ⟨a3 i hi, a4 i hi, cpy0 hi, cpy0 hi, cpy0 hi, cpy0 hi, cpy0 hi, cpy0 hi, cpy0 hi, cpy0 hi⟩
  · intro a ha
    simp (disch := omega) only [cs_a, cr_a]
    exact a5 a (by omega) (by omega) (by omega)
def CG (τ σ : Rg) : Prop := (σ 21 0 2 = τ 21 0 2 ∧ σ 21 0 3 = τ 21 0 3 ∧ σ 21 0 4 = τ 21 0 4 ∧ σ 21 0 5 = τ 21 0 5) ∧ (σ 20 0 5 = τ 20 0 5 ∧ σ 20 0 6 = τ 20 0 6 ∧ σ 20 0 7 = τ 20 0 7 ∧ σ 20 0 8 = τ 20 0 8 ∧ σ 20 0 9 = τ 20 0 9 ∧ σ 20 0 10 = τ 20 0 10) ∧ ∀ i, i < 100 → σ 22 0 i = τ 22 0 i ∧ σ 23 0 i = τ 23 0 i ∧ σ 24 0 i = τ 24 0 i ∧ σ 25 0 i = τ 25 0 i ∧ σ 26 0 i = τ 26 0 i ∧ σ 27 0 i = τ 27 0 i
theorem T_cpG (σ τ : Rg) : ∃ σ', (∀ (d : Nat) (μ : Mem), μ 1 = τ → M (d + 3) 1 [.inr (2, 20, 0), .inr (1, 20, 0)] (va_up μ 2 σ) (none, va_up μ 2 σ')) ∧ CG τ σ' ∧ ∀ a, ¬ (20 ≤ a ∧ a ≤ 27) → σ' a = σ a := by
  obtain ⟨σ1, a1, a2, a3, a4, a5⟩ := T_cpL21 σ τ
  apply Exists.intro
  refine ⟨fun d μ e => M1 ⟨_, a1 d μ e, ?_⟩, ?_, ?_⟩
  · have e1 : va_up μ 2 σ1 1 = τ := by rw [va_up_ne _ _ (by decide)]; exact e
    simp only [e1, va_up_self, mr_up, ms_up]
    exact rfl
  · refine ⟨?_, ?_, fun i hi => ?_⟩ <;> simp (disch := decide) only [cs_a, cs_i, cs_s, cr_a, cr_r, and_self]
    · exact a2
    · exact ⟨a3 i hi, a4 i hi, cpy0 hi, cpy0 hi, cpy0 hi, cpy0 hi⟩
  · intro a ha
    simp (disch := omega) only [cs_a, cr_a]
    exact a5 a (by omega) (by omega) (by omega)
def CU (τ σ : Rg) : Prop := σ 32 0 2 = τ 32 0 2 ∧ ∀ i, i < 12 → σ 33 0 i = τ 33 0 i ∧ σ 34 0 i = τ 34 0 i
theorem T_cpU (σ τ : Rg) : ∃ σ', (∀ (d : Nat) (μ : Mem), μ 1 = τ → M (d + 1) 36 [.inr (2, 32, 0), .inr (1, 32, 0)] (va_up μ 2 σ) (none, va_up μ 2 σ')) ∧ CU τ σ' ∧ ∀ a, ¬ (32 ≤ a ∧ a ≤ 34) → σ' a = σ a := by
  apply Exists.intro
  refine ⟨fun d μ e => M36 ?_, ?_, ?_⟩
  · have e1 : va_up μ 2 σ 1 = τ := by rw [va_up_ne _ _ (by decide)]; exact e
    simp only [e1, va_up_self, mr_up, ms_up]
    exact rfl
  · refine ⟨?_, fun i hi => ?_⟩ <;> simp (disch := decide) only [cs_a, cs_i, cs_s, cr_a, cr_r]
    exact ⟨cpy0 hi, cpy0 hi⟩
  · intro a ha
    simp (disch := omega) only [cs_a, cr_a]
def CE (τ σ : Rg) : Prop := (∀ s, s < 6 → CS τ σ s) ∧ (σ 1 0 1 = τ 1 0 1 ∧ σ 1 0 2 = τ 1 0 2 ∧ σ 1 0 3 = τ 1 0 3 ∧ σ 1 0 4 = τ 1 0 4) ∧ CJ τ σ ∧ CG τ σ ∧ CU τ σ
theorem CS.keep {τ σ σ' : Rg} {s : Nat} (h : CS τ σ s) (e : ∀ a, 3 ≤ a → a ≤ 7 → σ' a s = σ a s) : CS τ σ' s := by
  unfold CS
  rw [e 3 (by decide) (by decide), e 4 (by decide) (by decide), e 5 (by decide) (by decide), e 6 (by decide) (by decide), e 7 (by decide) (by decide)]
  exact h
theorem CJ.keep {τ σ σ' : Rg} (h : CJ τ σ) (e : ∀ a, 8 ≤ a → a ≤ 19 → σ' a = σ a) : CJ τ σ' := by
  unfold CJ
  simp (disch := decide) only [e]
  exact h
theorem CG.keep {τ σ σ' : Rg} (h : CG τ σ) (e : ∀ a, 20 ≤ a → a ≤ 27 → σ' a = σ a) : CG τ σ' := by
  unfold CG
  simp (disch := decide) only [e]
  exact h
theorem CU.keep {τ σ σ' : Rg} (h : CU τ σ) (e : ∀ a, 32 ≤ a → a ≤ 34 → σ' a = σ a) : CU τ σ' := by
  unfold CU
  simp (disch := decide) only [e]
  exact h
theorem cp_loop {τ : Rg} (hb : τ 1 0 3 = 0 ∨ τ 1 0 3 = 1) : ∀ (q k : Nat) (σ : Rg), q + k = 6 → (∀ s, s < k → CS τ σ s) → ∃ σ', (∀ (d : Nat) (μ : Mem), μ 1 = τ → EvE (M (d + 3)) 23 2 [some (.inr (2, 1, 0)), some (.inr (1, 1, 0)), some (.inl (nI k))] [] (va_up μ 2 σ) (none, va_up μ 2 σ')) ∧ CE τ σ' ∧ (∀ a, 28 ≤ a → a ≤ 31 → σ' a = σ a) ∧ σ' 1 0 11 = σ 1 0 11 := by
  intro q
  induction q with
  | zero =>
    intro k σ hk hS
    obtain ⟨σj, j1, j2, j3⟩ := T_cpJ (cset (cset (cset (cset σ 1 0 1 (τ 1 0 1)) 1 0 2 (τ 1 0 2)) 1 0 3 (τ 1 0 3)) 1 0 4 (τ 1 0 4)) τ
    obtain ⟨σg, g1, g2, g3⟩ := T_cpG σj τ
    obtain ⟨σu, u1, u2, u3⟩ := T_cpU σg τ
    have f1 : σu 1 = cset (cset (cset (cset σ 1 0 1 (τ 1 0 1)) 1 0 2 (τ 1 0 2)) 1 0 3 (τ 1 0 3)) 1 0 4 (τ 1 0 4) 1 := by rw [u3 1 (by decide), g3 1 (by decide), j3 1 (by decide)]
    refine ⟨σu, fun d μ e => B23_2.mpr ⟨fun _ => ⟨?_, va_up μ 2 σj, ?_, va_up μ 2 σg, g1 d μ e, va_up μ 2 σu, u1 (d + 2) μ e, rfl⟩, fun e2 => absurd ?_ e2⟩, ⟨fun s hs => (hS s (by omega)).keep (fun a a1 a2 => ?_), ?_, ?_, ?_, u2⟩, fun a a1 a2 => ?_, ?_⟩
    · rw [va_up_ne _ _ (by decide), e]; exact hb
    · have e1 : va_up μ 2 σ 1 = τ := by rw [va_up_ne _ _ (by decide)]; exact e
      simp only [e1, va_up_self, ms_up]
      exact j1 d μ e
    · exact (nI_leI (a := 6) (by decide) (by omega)).mpr (by omega)
    · rw [u3 a (by omega), g3 a (by omega), j3 a (by omega), cs_a _ _ (by omega), cs_a _ _ (by omega), cs_a _ _ (by omega), cs_a _ _ (by omega)]
    · rw [f1]
      simp (disch := decide) only [cs_i, cs_s, and_self]
    · exact j2.keep (fun a a1 a2 => by rw [u3 a (by omega), g3 a (by omega)])
    · exact g2.keep (fun a a1 a2 => by rw [u3 a (by omega)])
    · rw [u3 a (by omega), g3 a (by omega), j3 a (by omega), cs_a _ _ (by omega), cs_a _ _ (by omega), cs_a _ _ (by omega), cs_a _ _ (by omega)]
    · rw [f1]
      simp (disch := decide) only [cs_i]
  | succ q ih =>
    intro k σ hk hS
    have v0 : vp_in (nI k) 6 := vp_in_nI (by omega) (by decide)
    have k0 : (nI k).toNatClampNeg = k := nI_cl (by omega)
    obtain ⟨σ1, a1, a2, a3, a4⟩ := T_cpS σ τ k
    obtain ⟨σ', b1, b2, b3, b4⟩ := ih (k + 1) σ1 (by omega) (fun s hs => by
      by_cases e : s = k
      · rw [e]; exact a2
      · exact (hS s (by omega)).keep (fun a _ _ => a4 a s e))
    refine ⟨σ', fun d μ e => B23_2.mpr ⟨fun e2 => absurd ((nI_leI (a := 6) (by decide) (by omega)).mp e2) (by omega), fun _ => ⟨v0, v0, va_up μ 2 σ1, ?_, ?_⟩⟩, b2, fun a h1 h2 => by rw [b3 a h1 h2, a3 a (by omega)], by rw [b4, a3 1 (by omega)]⟩
    · rw [k0]; exact a1 (d + 2) μ e
    · rw [nI_1]; exact b1 d μ e
theorem T_copy {τ σ : Rg} (hb : τ 1 0 3 = 0 ∨ τ 1 0 3 = 1) : ∃ σ', (∀ (d : Nat) (μ : Mem), μ 1 = τ → M (d + 4) 23 [.inr (2, 1, 0), .inr (1, 1, 0)] (va_up μ 2 σ) (none, va_up μ 2 σ')) ∧ CE τ σ' ∧ σ' 1 0 11 = σ 1 0 11 := by
  obtain ⟨σ', a1, a2, a3, a4⟩ := cp_loop hb 6 0 σ (by omega) (fun s hs => absurd hs (by omega))
  exact ⟨σ', fun d μ e => M23 (a1 d μ e), a2, a4⟩
theorem CE.keep {τ σ σ' : Rg} (h : CE τ σ) (e : ∀ a, a < 28 → σ' a = σ a) (e2 : ∀ a, 32 ≤ a → a ≤ 34 → σ' a = σ a) : CE τ σ' := by
  obtain ⟨h1, h2, h3, h4, h5⟩ := h
  refine ⟨fun s hs => (h1 s hs).keep (fun a a1 a2 => by rw [e a (by omega)]), ?_, h3.keep (fun a a1 a2 => e a (by omega)), h4.keep (fun a a1 a2 => e a (by omega)), h5.keep e2⟩
  rw [e 1 (by decide)]; exact h2
/-- beginTrial -/
theorem T_beginT {τ σ : Rg} {t q c : Nat} (hb : τ 1 0 3 = 0 ∨ τ 1 0 3 = 1) (ht : τ 1 0 2 = nI t) (hq : q < 8) (hc : c ≤ 30) : ∃ σ', (∀ (d : Nat) (μ : Mem), μ 1 = τ → M (d + 5) 64 [.inr (0, 0, 0), .inl (nI q), .inl (nI c)] (va_up μ 2 σ) (none, va_up μ 2 σ')) ∧ CE τ σ' ∧ σ' 1 0 11 = σ 1 0 11 ∧ ((c = 0 ∧ σ' 28 0 3 = nI 0) ∨ (σ' 28 0 3 = nI 1 ∧ σ' 29 0 0 = nI (t + 1) ∧ σ' 30 0 0 = nI q ∧ σ' 31 0 0 = nI c)) := by
  obtain ⟨σ1, a1, a2, a4⟩ := T_copy (σ := σ) hb
  have hc0 : (nI c ≤ 0) = (c ≤ 0) := nI_le' (b := 0) (by omega) (by decide)
  have c28 : (cset σ1 28 0 3 0) 28 0 3 = nI 0 := cs_s _ _ _ _ _
  by_cases e0 : c = 0
  · refine ⟨cset σ1 28 0 3 0, fun d μ e => M64 ⟨_, a1 d μ e, fun _ => B64_47.mpr ?_, fun e2 => absurd (by rw [hc0]; omega) e2⟩, a2.keep (fun a ha => cs_a _ _ (by omega)) (fun a h1 h2 => cs_a _ _ (by omega)), by rw [cs_a _ _ (by decide)]; exact a4, Or.inl ⟨e0, c28⟩⟩
    rw [ms_up]
  · refine ⟨cset (cset (cset (cset (cset σ1 28 0 3 0) 29 0 0 (nI (t + 1))) 30 0 0 (nI q)) 31 0 0 (nI c)) 28 0 3 (nI 1), fun d μ e => M64 ⟨_, a1 d μ e, fun e2 => absurd (by rw [hc0] at e2; omega) e0, fun _ => ⟨_, M43 ?_, B64_47.mpr rfl⟩⟩, a2.keep (fun a ha => ?_) (fun a h1 h2 => ?_), ?_, Or.inr ⟨?_, ?_, ?_, ?_⟩⟩
    · have k0 : (nI 0).toNatClampNeg = 0 := nI_cl (by decide)
      have t1 : σ1 1 0 2 = nI t := by rw [a2.2.1.2.1]; exact ht
      simp only [Nat.reduceAdd, ms_up, va_up_self, c28, k0, t1, nI_1]
      exact ⟨fun e3 => absurd e3 (by decide), fun _ => ⟨vp_in_nI (by decide) (by decide), vp_in_nI (by decide) (by decide), vp_in_nI (by decide) (by decide), B43_49.mpr rfl⟩⟩
    · simp (disch := omega) only [cs_a]
    · simp (disch := omega) only [cs_a]
    · simp (disch := decide) only [cs_a]; exact a4
    · simp (disch := decide) only [cs_a, cs_s]
    · simp (disch := decide) only [cs_a, cs_s]
    · simp (disch := decide) only [cs_a, cs_s]
    · simp (disch := decide) only [cs_a, cs_s]
