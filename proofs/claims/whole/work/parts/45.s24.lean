/-! tellings: what is left of them -/
def en (kp : Nat → Bool) : Nat → Nat × (Nat → Nat)
  | 0 => (0, id)
  | n + 1 => if kp n then ((en kp n).1 + 1, snoc (en kp n).2 (en kp n).1 n) else en kp n
theorem en_le (kp : Nat → Bool) : ∀ n, (en kp n).1 ≤ n := by
  intro n
  induction n with
  | zero => exact Nat.le_refl 0
  | succ n ih =>
    show (if kp n then ((en kp n).1 + 1, snoc (en kp n).2 (en kp n).1 n) else en kp n).1 ≤ n + 1
    split
    · show (en kp n).1 + 1 ≤ n + 1; omega
    · omega
theorem en_lt (kp : Nat → Bool) : ∀ n j, j < (en kp n).1 → (en kp n).2 j < n := by
  intro n
  induction n with
  | zero => intro j hj; exact absurd hj (Nat.not_lt_zero j)
  | succ n ih =>
    intro j hj
    by_cases e : kp n = true
    · have q : en kp (n + 1) = ((en kp n).1 + 1, snoc (en kp n).2 (en kp n).1 n) := if_pos e
      rw [q] at hj ⊢
      have hj' : j < (en kp n).1 + 1 := hj
      show snoc (en kp n).2 (en kp n).1 n j < n + 1
      unfold snoc
      split
      · omega
      · have := ih j (by omega); omega
    · have q : en kp (n + 1) = en kp n := if_neg e
      rw [q] at hj ⊢
      have := ih j hj; omega
def Cp (A orig : Nat → Int32) (kp : Nat → Bool) (i : Nat) : Prop := (∀ j, j < (en kp i).1 → A j = orig ((en kp i).2 j)) ∧ ∀ j, i ≤ j → A j = orig j
theorem Cp.zero {orig : Nat → Int32} {kp : Nat → Bool} : Cp orig orig kp 0 := ⟨fun j hj => absurd hj (Nat.not_lt_zero j), fun _ _ => rfl⟩
theorem Cp.drop {A orig : Nat → Int32} {kp : Nat → Bool} {i : Nat} (h : Cp A orig kp i) (hk : kp i = false) : Cp A orig kp (i + 1) := by
  have q : en kp (i + 1) = en kp i := if_neg (by rw [hk]; decide)
  unfold Cp
  rw [q]
  exact ⟨h.1, fun j hj => h.2 j (by omega)⟩
theorem Cp.keep {A orig : Nat → Int32} {kp : Nat → Bool} {i : Nat} (h : Cp A orig kp i) (hk : kp i = true) : Cp (va_up A (en kp i).1 (A i)) orig kp (i + 1) := by
  have q : en kp (i + 1) = ((en kp i).1 + 1, snoc (en kp i).2 (en kp i).1 i) := if_pos hk
  have le := en_le kp i
  unfold Cp
  rw [q]
  constructor
  · intro j hj
    have hj' : j < (en kp i).1 + 1 := hj
    show va_up A (en kp i).1 (A i) j = orig (snoc (en kp i).2 (en kp i).1 i j)
    unfold snoc
    by_cases e : j = (en kp i).1
    · rw [if_pos e, e, va_up_self]; exact h.2 i (Nat.le_refl i)
    · rw [if_neg e, va_up_ne _ _ e]; exact h.1 j (by omega)
  · intro j hj
    rw [va_up_ne _ _ (by omega)]
    exact h.2 j (by omega)
theorem en_keep {kp : Nat → Bool} {i : Nat} (hk : kp i = true) : (en kp (i + 1)).1 = (en kp i).1 + 1 := by
  have q : en kp (i + 1) = ((en kp i).1 + 1, snoc (en kp i).2 (en kp i).1 i) := if_pos hk
  rw [q]
theorem en_drop {kp : Nat → Bool} {i : Nat} (hk : kp i = false) : (en kp (i + 1)).1 = (en kp i).1 := by
  have q : en kp (i + 1) = en kp i := if_neg (by rw [hk]; decide)
  rw [q]
/-- class: the tellings of a tick are forgotten -/
theorem fg_loop {o29 o30 o31 : Nat → Int32} {n : Nat} {t : Int32} (hn : n ≤ 40) : ∀ (c i : Nat) (σ : Rg), i + c = n → σ 28 0 3 = nI n → Cp (σ 29 0) o29 (fun i => decide (¬ o29 i = t)) i → Cp (σ 30 0) o30 (fun i => decide (¬ o29 i = t)) i → Cp (σ 31 0) o31 (fun i => decide (¬ o29 i = t)) i →
    ∃ σ', (∀ d μ r, EvE (M d) 45 4 [some (.inr (r, 28, 0)), some (.inl t), some (.inl (nI (en (fun i => decide (¬ o29 i = t)) i).1)), some (.inl (nI i))] [] (va_up μ r σ) (none, va_up μ r σ')) ∧ (∀ a, a ≠ 28 → a ≠ 29 → a ≠ 30 → a ≠ 31 → σ' a = σ a) ∧ σ' 28 0 3 = nI (en (fun i => decide (¬ o29 i = t)) n).1 ∧ Cp (σ' 29 0) o29 (fun i => decide (¬ o29 i = t)) n ∧ Cp (σ' 30 0) o30 (fun i => decide (¬ o29 i = t)) n ∧ Cp (σ' 31 0) o31 (fun i => decide (¬ o29 i = t)) n := by
  intro c
  induction c with
  | zero =>
    intro i σ hi h3 c1 c2 c3
    have : i = n := by omega
    subst this
    refine ⟨cset σ 28 0 3 (nI (en (fun i => decide (¬ o29 i = t)) i).1), fun d μ r => ?_, fun a a1 _ _ _ => cs_a _ _ a1, cs_s _ _ _ _ _, ?_, ?_, ?_⟩
    · rw [B45_4]
      simp (disch := omega) only [va_up_self, h3, nI_le', ms_up]
      exact ⟨fun _ => True.intro, fun e => absurd (Nat.le_refl _) e⟩
    · rw [cs_a _ _ (by decide)]; exact c1
    · rw [cs_a _ _ (by decide)]; exact c2
    · rw [cs_a _ _ (by decide)]; exact c3
  | succ c ih =>
    intro i σ hi h3 c1 c2 c3
    have v0 : vp_in (nI i) 40 := vp_in_nI (by omega) (by decide)
    have k0 : (nI i).toNatClampNeg = i := nI_cl (by omega)
    have le := en_le (fun i => decide (¬ o29 i = t)) i
    have v1 : vp_in (nI (en (fun i => decide (¬ o29 i = t)) i).1) 40 := vp_in_nI (by omega) (by decide)
    have k1 : (nI (en (fun i => decide (¬ o29 i = t)) i).1).toNatClampNeg = (en (fun i => decide (¬ o29 i = t)) i).1 := nI_cl (by omega)
    have e29 : σ 29 0 i = o29 i := c1.2 i (Nat.le_refl i)
    by_cases e : o29 i = t
    · have kp : (fun i => decide (¬ o29 i = t)) i = false := decide_eq_false (fun q => q e)
      obtain ⟨σ', a1, a2, a3⟩ := ih (i + 1) σ (by omega) h3 (c1.drop kp) (c2.drop kp) (c3.drop kp)
      rw [en_drop kp] at a1
      refine ⟨σ', fun d μ r => ?_, a2, a3⟩
      rw [B45_4]
      simp (disch := omega) only [va_up_self, h3, nI_le', k0, B45_61, nI_1, e29]
      exact ⟨fun e2 => absurd e2 (by omega), fun _ => ⟨v0, fun _ => a1 d μ r, fun e2 => absurd e e2⟩⟩
    · have kp : (fun i => decide (¬ o29 i = t)) i = true := decide_eq_true e
      obtain ⟨σ', a1, a2, a3⟩ := ih (i + 1) (cset (cset (cset σ 29 0 (en (fun i => decide (¬ o29 i = t)) i).1 (σ 29 0 i)) 30 0 (en (fun i => decide (¬ o29 i = t)) i).1 (σ 30 0 i)) 31 0 (en (fun i => decide (¬ o29 i = t)) i).1 (σ 31 0 i)) (by omega) (by simp (disch := decide) only [cs_a]; exact h3) (by simp (disch := decide) only [cs_a, cs_r]; exact c1.keep kp) (by simp (disch := decide) only [cs_a, cs_r]; exact c2.keep kp) (by simp (disch := decide) only [cs_a, cs_r]; exact c3.keep kp)
      rw [en_keep kp] at a1
      refine ⟨σ', fun d μ r => ?_, fun a b1 b2 b3 b4 => by rw [a2 a b1 b2 b3 b4, cs_a _ _ b4, cs_a _ _ b3, cs_a _ _ b2], a3⟩
      rw [B45_4]
      simp (disch := first | omega | decide) only [va_up_self, ms_up, h3, nI_le', k0, k1, B45_61, nI_1, e29, cs_a]
      refine ⟨fun e2 => absurd e2 (by omega), fun _ => ⟨v0, fun e2 => absurd e2 e, fun _ => ⟨v0, v1, v0, v1, v0, v1, ?_⟩⟩⟩
      have := a1 d μ r
      rw [e29] at this
      exact this
theorem T_forget {σ : Rg} {n : Nat} {t : Int32} (hn : n ≤ 40) (h3 : σ 28 0 3 = nI n) : ∃ σ', CX 1 45 28 0 [.inl t] σ none σ' ∧ (∀ a, a ≠ 28 → a ≠ 29 → a ≠ 30 → a ≠ 31 → σ' a = σ a) ∧ σ' 28 0 3 = nI (en (fun i => decide (¬ σ 29 0 i = t)) n).1 ∧ Cp (σ' 29 0) (σ 29 0) (fun i => decide (¬ σ 29 0 i = t)) n ∧ Cp (σ' 30 0) (σ 30 0) (fun i => decide (¬ σ 29 0 i = t)) n ∧ Cp (σ' 31 0) (σ 31 0) (fun i => decide (¬ σ 29 0 i = t)) n := by
  obtain ⟨σ', a1, a2⟩ := fg_loop (o29 := σ 29 0) (o30 := σ 30 0) (o31 := σ 31 0) (t := t) hn n 0 σ (by omega) h3 Cp.zero Cp.zero Cp.zero
  exact ⟨σ', fun d μ r => M45 (a1 d μ r), a2⟩
theorem T_manyFor {σ : Rg} {n i : Nat} {t : Int32} (hn : n ≤ 40) (h3 : σ 28 0 3 = nI n) (hi : i < n) : CX 1 44 28 0 [.inl t, .inl (nI i)] σ (some (if σ 29 0 i = t then σ 31 0 i else 0)) σ := fun d μ r => M44 (by
  have v0 : vp_in (nI i) 40 := vp_in_nI (by omega) (by decide)
  have k0 : (nI i).toNatClampNeg = i := nI_cl (by omega)
  have c0 : ¬ nI i < 0 := nI_pos (by omega)
  simp (disch := omega) only [va_up_self, h3, nI_le', k0, B44_31, B44_32]
  refine ⟨fun e => absurd e c0, fun _ => ⟨fun e => absurd e (by omega), fun _ => ⟨v0, fun e => ?_, fun e => ⟨v0, ?_⟩⟩⟩⟩
  · rw [if_neg e]
  · rw [if_pos (Classical.not_not.mp e)])
theorem T_come {n q : Nat} {σ σ' : Rg} (hn : n ≤ 100) (h : CGn n q σ σ') : CX 7 10 1 0 [.inl (nI q), .inl (nI n)] σ none σ' := fun d μ r => M10 (h 0 n (by omega) hn d μ r none)
