/-! placeAt of both lines -/
theorem nI_rng (x : Int32) {n : Nat} (hn : n < 2147483648) : (∃ i, i < n ∧ x = nI i ∧ ¬ x < 0 ∧ x < nI n) ∨ ((x < 0 ∨ nI n ≤ x) ∧ ¬ (¬ x < 0 ∧ x < nI n)) := by
  by_cases h : x < 0 ∨ nI n ≤ x
  · exact Or.inr ⟨h, fun q => h.elim q.1 (fun e => absurd q.2 (Int32.not_lt.mpr e))⟩
  · have h1 : ¬ x < 0 := fun e => h (Or.inl e)
    have h2 : ¬ nI n ≤ x := fun e => h (Or.inr e)
    have z : 0 < n := by
      rcases Nat.eq_zero_or_pos n with q | q
      · subst q; exact absurd (Int32.not_lt.mp h1) h2
      · exact q
    obtain ⟨s, s1, s2, rfl⟩ := nI_btw (x := x) (a := 0) (b := n - 1) (by decide) (by omega) h1 (fun e => h2 (by
      have e2 := Int32.lt_iff_toInt_lt.mp e
      rw [nI_toInt (by omega)] at e2
      apply Int32.le_iff_toInt_le.mpr
      rw [nI_toInt (by omega)]
      omega))
    exact Or.inl ⟨s, by omega, rfl, h1, Int32.not_le.mp h2⟩
theorem at_loop9 {σ : Rg} {N i : Nat} {P Q : Nat → Nat} (h : LN (σ 9 0) (σ 10 0) (σ 11 0) 120 N P Q) (hi : i < N) : ∀ (q k : Nat), q + k = i → ∀ (d : Nat) (μ : Mem) (r : Nat), EvE (M d) 32 21 [some (.inr (r, 9, 0)), some (.inl (nI i)), some (.inl (nI (P k))), some (.inl (nI k))] [] (va_up μ r σ) (some (nI (P i)), va_up μ r σ) := by
  obtain ⟨h1, h2, h3, h4, h5, h6, h7, h8, h9, h10, h11, h12, h13⟩ := h
  intro q
  induction q with
  | zero =>
    intro k hk d μ r
    have : k = i := by omega
    subst this
    refine B32v9_21.mpr ⟨fun _ => B32v9_44.mpr rfl, fun e => absurd ?_ e⟩
    rw [nI_le' (by omega) (by omega)]
    exact Nat.le_refl _
  | succ q ih =>
    intro k hk d μ r
    have hb := h2 k (by omega)
    have v0 : vp_in (nI (P k)) 120 := vp_in_nI (by omega) (by decide)
    have k0 : (nI (P k)).toNatClampNeg = P k := nI_cl (by omega)
    have e0 : σ 11 0 (P k) = nI (P (k + 1)) := by rw [h11 k (by omega), if_pos (by omega)]
    refine B32v9_21.mpr ⟨fun e => absurd e ?_, fun _ => ⟨fun e => absurd e (nI_m1 (by omega)), fun _ => ⟨v0, ?_⟩⟩⟩
    · rw [nI_le' (by omega) (by omega)]; omega
    · rw [k0, va_up_self, e0, nI_1]
      exact ih (k + 1) (by omega) d μ r
theorem T_at9 {σ : Rg} {N i : Nat} {P Q : Nat → Nat} (h : LN (σ 9 0) (σ 10 0) (σ 11 0) 120 N P Q) (hi : i < N) : CX 1 32 9 0 [.inl (nI i)] σ (some (nI (P i))) σ := fun d μ r => M32v9 (by
  have hc := h.1
  have h7 := h.2.2.2.2.2.2.1
  have h8 := h.2.2.2.2.2.2.2.1
  rw [if_neg (by omega)] at h8
  rw [va_up_self, h7, h8]
  refine ⟨fun e => absurd e (nI_pos (by omega)), fun _ => ⟨fun _ => at_loop9 h hi i 0 (by omega) d μ r, fun e => absurd (nI_lt hi (by omega)) e⟩⟩)
theorem T_no9 {σ : Rg} {N : Nat} {x : Int32} {P Q : Nat → Nat} (h : LN (σ 9 0) (σ 10 0) (σ 11 0) 120 N P Q) (hx : ¬ (¬ x < 0 ∧ x < nI N)) : CX 1 32 9 0 [.inl x] σ (some (-1)) σ := fun d μ r => M32v9 (by
  have h7 := h.2.2.2.2.2.2.1
  rw [va_up_self, h7]
  exact ⟨fun _ => B32v9_12.mpr rfl, fun e => ⟨fun e2 => absurd ⟨e, e2⟩ hx, fun _ => B32v9_12.mpr rfl⟩⟩)
theorem at_loop21 {σ : Rg} {N i : Nat} {P Q : Nat → Nat} (h : LN (σ 21 0) (σ 22 0) (σ 23 0) 100 N P Q) (hi : i < N) : ∀ (q k : Nat), q + k = i → ∀ (d : Nat) (μ : Mem) (r : Nat), EvE (M d) 32 21 [some (.inr (r, 21, 0)), some (.inl (nI i)), some (.inl (nI (P k))), some (.inl (nI k))] [] (va_up μ r σ) (some (nI (P i)), va_up μ r σ) := by
  obtain ⟨h1, h2, h3, h4, h5, h6, h7, h8, h9, h10, h11, h12, h13⟩ := h
  intro q
  induction q with
  | zero =>
    intro k hk d μ r
    have : k = i := by omega
    subst this
    refine B32v21_21.mpr ⟨fun _ => B32v21_44.mpr rfl, fun e => absurd ?_ e⟩
    rw [nI_le' (by omega) (by omega)]
    exact Nat.le_refl _
  | succ q ih =>
    intro k hk d μ r
    have hb := h2 k (by omega)
    have v0 : vp_in (nI (P k)) 100 := vp_in_nI (by omega) (by decide)
    have k0 : (nI (P k)).toNatClampNeg = P k := nI_cl (by omega)
    have e0 : σ 23 0 (P k) = nI (P (k + 1)) := by rw [h11 k (by omega), if_pos (by omega)]
    refine B32v21_21.mpr ⟨fun e => absurd e ?_, fun _ => ⟨fun e => absurd e (nI_m1 (by omega)), fun _ => ⟨v0, ?_⟩⟩⟩
    · rw [nI_le' (by omega) (by omega)]; omega
    · rw [k0, va_up_self, e0, nI_1]
      exact ih (k + 1) (by omega) d μ r
theorem T_at21 {σ : Rg} {N i : Nat} {P Q : Nat → Nat} (h : LN (σ 21 0) (σ 22 0) (σ 23 0) 100 N P Q) (hi : i < N) : CX 1 32 21 0 [.inl (nI i)] σ (some (nI (P i))) σ := fun d μ r => M32v21 (by
  have hc := h.1
  have h7 := h.2.2.2.2.2.2.1
  have h8 := h.2.2.2.2.2.2.2.1
  rw [if_neg (by omega)] at h8
  rw [va_up_self, h7, h8]
  refine ⟨fun e => absurd e (nI_pos (by omega)), fun _ => ⟨fun _ => at_loop21 h hi i 0 (by omega) d μ r, fun e => absurd (nI_lt hi (by omega)) e⟩⟩)
theorem T_no21 {σ : Rg} {N : Nat} {x : Int32} {P Q : Nat → Nat} (h : LN (σ 21 0) (σ 22 0) (σ 23 0) 100 N P Q) (hx : ¬ (¬ x < 0 ∧ x < nI N)) : CX 1 32 21 0 [.inl x] σ (some (-1)) σ := fun d μ r => M32v21 (by
  have h7 := h.2.2.2.2.2.2.1
  rw [va_up_self, h7]
  exact ⟨fun _ => B32v21_12.mpr rfl, fun e => ⟨fun e2 => absurd ⟨e, e2⟩ hx, fun _ => B32v21_12.mpr rfl⟩⟩)
