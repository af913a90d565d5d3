/-! CLASS: lines executed -/
/-- a method of the class at a region: it turns σ into σ' and answers v -/
def CX (k y a o : Nat) (as : List AV) (σ : Rg) (v : Option Int32) (σ' : Rg) : Prop := ∀ (d : Nat) (μ : Mem) (r : Nat), M (d + k) y (.inr (r, a, o) :: as) (va_up μ r σ) (v, va_up μ r σ')
theorem CX.mono {k k' y a o : Nat} {as : List AV} {σ σ' : Rg} {v : Option Int32} (h : CX k y a o as σ v σ') (hk : k ≤ k') : CX k' y a o as σ v σ' := fun d μ r => by
  have := h (d + (k' - k)) μ r
  rw [show d + (k' - k) + k = d + k' by omega] at this
  exact this

theorem T_take9 {σ : Rg} {N : Nat} {P Q : Nat → Nat} (h : LN (σ 9 0) (σ 10 0) (σ 11 0) 120 N P Q) (hN : N < 120) : ∃ σ', CX 1 30 9 0 [] σ (some (nI (Q 0))) σ' ∧ LN (σ' 9 0) (σ' 10 0) (σ' 11 0) 120 (N + 1) (snoc P N (Q 0)) (tail1 Q) ∧ ∀ a, a ≠ 9 → a ≠ 10 → a ≠ 11 → σ' a = σ a := by
  obtain ⟨h1, h2, h3, h4, h5, h6, h7, h8, h9, h10, h11, h12, h13⟩ := id h
  have hq := h3 0 (by omega)
  rw [if_neg (by omega)] at h10
  have c0 : ¬ nI (Q 0) = -1 := nI_m1 (by omega)
  have v0 : vp_in (nI (Q 0)) 120 := vp_in_nI hq (by decide)
  have k0 : (nI (Q 0)).toNatClampNeg = Q 0 := nI_cl (by omega)
  by_cases q : N = 0
  · rw [if_pos q] at h9
    apply Exists.intro
    refine ⟨fun d μ r => M30v9 ?_, ?_, ?_⟩
    · simp only [B30v9_65, va_up_self, ms_up, h10, h9, k0, c0, v0, not_true_eq_false, not_false_eq_true, true_and, and_true, false_implies, true_implies]
      exact rfl
    · refine LN_take h hN (by decide) ?_ ?_ ?_ ?_ ?_ ?_
      · simp (disch := decide) only [cs_a, cs_i, cs_s, h7]; exact nI_1 N
      · simp (disch := decide) only [cs_a, cs_i, cs_s]
      · simp (disch := decide) only [cs_a, cs_i, cs_s]
      · simp (disch := decide) only [cs_a, cs_i, cs_s]; rw [if_pos q]
      · intro x; simp (disch := decide) only [cs_a, cs_r, up_app, h9]
      · intro x; simp (disch := decide) only [cs_a, cs_r, up_app]; rw [if_neg (show ¬ (¬ N = 0 ∧ x = P (N - 1)) from fun e => e.1 q)]
    · intro a n1 n2 n3
      simp (disch := assumption) only [cs_a]
  · rw [if_neg q] at h9
    have hl := h2 (N - 1) (by omega)
    have v1 : vp_in (nI (P (N - 1))) 120 := vp_in_nI hl (by decide)
    have k1 : (nI (P (N - 1))).toNatClampNeg = P (N - 1) := nI_cl (by omega)
    have c1 : ¬ nI (P (N - 1)) = -1 := nI_m1 (by omega)
    apply Exists.intro
    refine ⟨fun d μ r => M30v9 ?_, ?_, ?_⟩
    · simp only [B30v9_65, va_up_self, ms_up, h10, h9, k0, k1, c0, c1, v0, v1, not_true_eq_false, not_false_eq_true, true_and, and_true, false_implies, true_implies]
      exact rfl
    · refine LN_take h hN (by decide) ?_ ?_ ?_ ?_ ?_ ?_
      · simp (disch := decide) only [cs_a, cs_i, cs_s, h7]; exact nI_1 N
      · simp (disch := decide) only [cs_a, cs_i, cs_s]
      · simp (disch := decide) only [cs_a, cs_i, cs_s]
      · simp (disch := decide) only [cs_a, cs_i, cs_s]; rw [if_neg q]
      · intro x; simp (disch := decide) only [cs_a, cs_r, up_app, h9]
      · intro x; simp (disch := decide) only [cs_a, cs_r, up_app]
        by_cases e : x = P (N - 1)
        · rw [if_pos e, if_pos ⟨q, e⟩]
        · rw [if_neg e, if_neg (show ¬ (¬ N = 0 ∧ x = P (N - 1)) from fun e2 => e e2.2)]
    · intro a n1 n2 n3
      simp (disch := assumption) only [cs_a]
theorem T_full9 {σ : Rg} {P Q : Nat → Nat} (h : LN (σ 9 0) (σ 10 0) (σ 11 0) 120 120 P Q) : CX 1 30 9 0 [] σ (some (-1)) σ := by
  obtain ⟨h1, h2, h3, h4, h5, h6, h7, h8, h9, h10, h11, h12, h13⟩ := id h
  rw [if_pos rfl] at h10
  refine fun d μ r => M30v9 ?_
  simp only [va_up_self, h10, not_true_eq_false, not_false_eq_true, true_and, and_true, false_implies, true_implies]
theorem T_give9 {σ : Rg} {N z : Nat} {P Q : Nat → Nat} (h : LN (σ 9 0) (σ 10 0) (σ 11 0) 120 N P Q) (hz : z < N) : ∃ σ', CX 1 31 9 0 [.inl (nI (P z))] σ none σ' ∧ LN (σ' 9 0) (σ' 10 0) (σ' 11 0) 120 (N - 1) (fun k => P (shk z k)) (cons1 (P z) Q) ∧ ∀ a, a ≠ 9 → a ≠ 10 → a ≠ 11 → σ' a = σ a := by
  obtain ⟨h1, h2, h3, h4, h5, h6, h7, h8, h9, h10, h11, h12, h13⟩ := id h
  have hp := h2 z hz
  have e1 := h12 z hz
  have e2 := h11 z hz
  have v0 : vp_in (nI (P z)) 120 := vp_in_nI hp (by decide)
  have k0 : (nI (P z)).toNatClampNeg = P z := nI_cl (by omega)
  have c0 : ¬ nI (P z) < 0 := nI_pos (by omega)
  have c1 : nI (P z) < nI 120 := nI_lt hp (by decide)
  have n5 : nI N - 1 = nI (N - 1) := by
    have := nI_pred (N - 1)
    rw [show N - 1 + 1 = N by omega] at this
    exact this
  by_cases q1 : z = 0
  · rw [if_pos q1] at e1
    by_cases q2 : z + 1 < N
    · rw [if_pos q2] at e2
      have v2 : vp_in (nI (P (z + 1))) 120 := vp_in_nI (h2 _ q2) (by decide)
      have k2 : (nI (P (z + 1))).toNatClampNeg = P (z + 1) := nI_cl (by have := h2 _ q2; omega)
      have c2 : ¬ nI (P (z + 1)) = -1 := nI_m1 (by have := h2 _ q2; omega)
      apply Exists.intro
      refine ⟨fun d μ r => M31v9 ?_, ?_, ?_⟩
      · simp only [B31v9_48, B31v9_68, va_up_self, ms_up, k0, c0, c1, v0, e1, e2, v2, k2, c2, not_true_eq_false, not_false_eq_true, true_and, and_true, false_implies, true_implies]
        exact rfl
      · refine LN_give h hz (by decide) ?_ ?_ ?_ ?_ ?_ ?_
        · simp (disch := decide) only [cs_a, cs_i, cs_s, h7, n5]
        · simp (disch := decide) only [cs_a, cs_i, cs_s]
        · simp (disch := decide) only [cs_a, cs_i, cs_s]; rw [if_neg (by omega)]
        · simp (disch := decide) only [cs_a, cs_i, cs_s]; rw [if_pos q1, e2]
        · intro x; simp (disch := decide) only [cs_a, cs_r, up_app, e1]
          by_cases e : x = P (z + 1)
          · rw [if_pos e, if_pos ⟨q2, e⟩]
          · rw [if_neg e, if_neg (fun w => e w.2)]
        · intro x; simp (disch := decide) only [cs_a, cs_i, cs_r, up_app]
          by_cases e : x = P z
          · rw [if_pos e, if_pos e]
          · rw [if_neg e, if_neg e, if_neg (fun w => w.1 q1)]
      · intro a n1 n2 n3
        simp (disch := assumption) only [cs_a]
    · rw [if_neg q2] at e2
      apply Exists.intro
      refine ⟨fun d μ r => M31v9 ?_, ?_, ?_⟩
      · simp only [B31v9_48, B31v9_68, va_up_self, ms_up, k0, c0, c1, v0, e1, e2, not_true_eq_false, not_false_eq_true, true_and, and_true, false_implies, true_implies]
        exact rfl
      · refine LN_give h hz (by decide) ?_ ?_ ?_ ?_ ?_ ?_
        · simp (disch := decide) only [cs_a, cs_i, cs_s, h7, n5]
        · simp (disch := decide) only [cs_a, cs_i, cs_s]
        · simp (disch := decide) only [cs_a, cs_i, cs_s]; rw [if_pos (by omega), e1]
        · simp (disch := decide) only [cs_a, cs_i, cs_s]; rw [if_pos q1, e2]
        · intro x; simp (disch := decide) only [cs_a, cs_r, up_app, e1]
          rw [if_neg (fun w => q2 w.1)]
        · intro x; simp (disch := decide) only [cs_a, cs_i, cs_r, up_app]
          by_cases e : x = P z
          · rw [if_pos e, if_pos e]
          · rw [if_neg e, if_neg e, if_neg (fun w => w.1 q1)]
      · intro a n1 n2 n3
        simp (disch := assumption) only [cs_a]
  · rw [if_neg q1] at e1
    have v3 : vp_in (nI (P (z - 1))) 120 := vp_in_nI (h2 _ (by omega)) (by decide)
    have k3 : (nI (P (z - 1))).toNatClampNeg = P (z - 1) := nI_cl (by have := h2 (z - 1) (by omega); omega)
    have c3 : ¬ nI (P (z - 1)) = -1 := nI_m1 (by have := h2 (z - 1) (by omega); omega)
    by_cases q2 : z + 1 < N
    · rw [if_pos q2] at e2
      have v2 : vp_in (nI (P (z + 1))) 120 := vp_in_nI (h2 _ q2) (by decide)
      have k2 : (nI (P (z + 1))).toNatClampNeg = P (z + 1) := nI_cl (by have := h2 _ q2; omega)
      have c2 : ¬ nI (P (z + 1)) = -1 := nI_m1 (by have := h2 _ q2; omega)
      apply Exists.intro
      refine ⟨fun d μ r => M31v9 ?_, ?_, ?_⟩
      · simp only [B31v9_48, B31v9_68, va_up_self, ms_up, k0, c0, c1, v0, e1, e2, v2, k2, c2, v3, k3, c3, not_true_eq_false, not_false_eq_true, true_and, and_true, false_implies, true_implies]
        exact rfl
      · refine LN_give h hz (by decide) ?_ ?_ ?_ ?_ ?_ ?_
        · simp (disch := decide) only [cs_a, cs_i, cs_s, h7, n5]
        · simp (disch := decide) only [cs_a, cs_i, cs_s]
        · simp (disch := decide) only [cs_a, cs_i, cs_s]; rw [if_neg (by omega)]
        · simp (disch := decide) only [cs_a, cs_i, cs_s]; rw [if_neg q1]
        · intro x; simp (disch := decide) only [cs_a, cs_r, up_app, e1]
          by_cases e : x = P (z + 1)
          · rw [if_pos e, if_pos ⟨q2, e⟩]
          · rw [if_neg e, if_neg (fun w => e w.2)]
        · intro x; simp (disch := decide) only [cs_a, cs_i, cs_r, up_app, e2]
          by_cases e : x = P z
          · rw [if_pos e, if_pos e]
          · rw [if_neg e, if_neg e]
            by_cases e3 : x = P (z - 1)
            · rw [if_pos e3, if_pos ⟨q1, e3⟩]
            · rw [if_neg e3, if_neg (fun w => e3 w.2)]
      · intro a n1 n2 n3
        simp (disch := assumption) only [cs_a]
    · rw [if_neg q2] at e2
      apply Exists.intro
      refine ⟨fun d μ r => M31v9 ?_, ?_, ?_⟩
      · simp only [B31v9_48, B31v9_68, va_up_self, ms_up, k0, c0, c1, v0, e1, e2, v3, k3, c3, not_true_eq_false, not_false_eq_true, true_and, and_true, false_implies, true_implies]
        exact rfl
      · refine LN_give h hz (by decide) ?_ ?_ ?_ ?_ ?_ ?_
        · simp (disch := decide) only [cs_a, cs_i, cs_s, h7, n5]
        · simp (disch := decide) only [cs_a, cs_i, cs_s]
        · simp (disch := decide) only [cs_a, cs_i, cs_s]; rw [if_pos (by omega), e1]
        · simp (disch := decide) only [cs_a, cs_i, cs_s]; rw [if_neg q1]
        · intro x; simp (disch := decide) only [cs_a, cs_r, up_app, e1]
          rw [if_neg (fun w => q2 w.1)]
        · intro x; simp (disch := decide) only [cs_a, cs_i, cs_r, up_app, e2]
          by_cases e : x = P z
          · rw [if_pos e, if_pos e]
          · rw [if_neg e, if_neg e]
            by_cases e3 : x = P (z - 1)
            · rw [if_pos e3, if_pos ⟨q1, e3⟩]
            · rw [if_neg e3, if_neg (fun w => e3 w.2)]
      · intro a n1 n2 n3
        simp (disch := assumption) only [cs_a]

theorem T_take21 {σ : Rg} {N : Nat} {P Q : Nat → Nat} (h : LN (σ 21 0) (σ 22 0) (σ 23 0) 100 N P Q) (hN : N < 100) : ∃ σ', CX 1 30 21 0 [] σ (some (nI (Q 0))) σ' ∧ LN (σ' 21 0) (σ' 22 0) (σ' 23 0) 100 (N + 1) (snoc P N (Q 0)) (tail1 Q) ∧ ∀ a, a ≠ 21 → a ≠ 22 → a ≠ 23 → σ' a = σ a := by
  obtain ⟨h1, h2, h3, h4, h5, h6, h7, h8, h9, h10, h11, h12, h13⟩ := id h
  have hq := h3 0 (by omega)
  rw [if_neg (by omega)] at h10
  have c0 : ¬ nI (Q 0) = -1 := nI_m1 (by omega)
  have v0 : vp_in (nI (Q 0)) 100 := vp_in_nI hq (by decide)
  have k0 : (nI (Q 0)).toNatClampNeg = Q 0 := nI_cl (by omega)
  by_cases q : N = 0
  · rw [if_pos q] at h9
    apply Exists.intro
    refine ⟨fun d μ r => M30v21 ?_, ?_, ?_⟩
    · simp only [B30v21_65, va_up_self, ms_up, h10, h9, k0, c0, v0, not_true_eq_false, not_false_eq_true, true_and, and_true, false_implies, true_implies]
      exact rfl
    · refine LN_take h hN (by decide) ?_ ?_ ?_ ?_ ?_ ?_
      · simp (disch := decide) only [cs_a, cs_i, cs_s, h7]; exact nI_1 N
      · simp (disch := decide) only [cs_a, cs_i, cs_s]
      · simp (disch := decide) only [cs_a, cs_i, cs_s]
      · simp (disch := decide) only [cs_a, cs_i, cs_s]; rw [if_pos q]
      · intro x; simp (disch := decide) only [cs_a, cs_r, up_app, h9]
      · intro x; simp (disch := decide) only [cs_a, cs_r, up_app]; rw [if_neg (show ¬ (¬ N = 0 ∧ x = P (N - 1)) from fun e => e.1 q)]
    · intro a n1 n2 n3
      simp (disch := assumption) only [cs_a]
  · rw [if_neg q] at h9
    have hl := h2 (N - 1) (by omega)
    have v1 : vp_in (nI (P (N - 1))) 100 := vp_in_nI hl (by decide)
    have k1 : (nI (P (N - 1))).toNatClampNeg = P (N - 1) := nI_cl (by omega)
    have c1 : ¬ nI (P (N - 1)) = -1 := nI_m1 (by omega)
    apply Exists.intro
    refine ⟨fun d μ r => M30v21 ?_, ?_, ?_⟩
    · simp only [B30v21_65, va_up_self, ms_up, h10, h9, k0, k1, c0, c1, v0, v1, not_true_eq_false, not_false_eq_true, true_and, and_true, false_implies, true_implies]
      exact rfl
    · refine LN_take h hN (by decide) ?_ ?_ ?_ ?_ ?_ ?_
      · simp (disch := decide) only [cs_a, cs_i, cs_s, h7]; exact nI_1 N
      · simp (disch := decide) only [cs_a, cs_i, cs_s]
      · simp (disch := decide) only [cs_a, cs_i, cs_s]
      · simp (disch := decide) only [cs_a, cs_i, cs_s]; rw [if_neg q]
      · intro x; simp (disch := decide) only [cs_a, cs_r, up_app, h9]
      · intro x; simp (disch := decide) only [cs_a, cs_r, up_app]
        by_cases e : x = P (N - 1)
        · rw [if_pos e, if_pos ⟨q, e⟩]
        · rw [if_neg e, if_neg (show ¬ (¬ N = 0 ∧ x = P (N - 1)) from fun e2 => e e2.2)]
    · intro a n1 n2 n3
      simp (disch := assumption) only [cs_a]
theorem T_full21 {σ : Rg} {P Q : Nat → Nat} (h : LN (σ 21 0) (σ 22 0) (σ 23 0) 100 100 P Q) : CX 1 30 21 0 [] σ (some (-1)) σ := by
  obtain ⟨h1, h2, h3, h4, h5, h6, h7, h8, h9, h10, h11, h12, h13⟩ := id h
  rw [if_pos rfl] at h10
  refine fun d μ r => M30v21 ?_
  simp only [va_up_self, h10, not_true_eq_false, not_false_eq_true, true_and, and_true, false_implies, true_implies]
theorem T_give21 {σ : Rg} {N z : Nat} {P Q : Nat → Nat} (h : LN (σ 21 0) (σ 22 0) (σ 23 0) 100 N P Q) (hz : z < N) : ∃ σ', CX 1 31 21 0 [.inl (nI (P z))] σ none σ' ∧ LN (σ' 21 0) (σ' 22 0) (σ' 23 0) 100 (N - 1) (fun k => P (shk z k)) (cons1 (P z) Q) ∧ ∀ a, a ≠ 21 → a ≠ 22 → a ≠ 23 → σ' a = σ a := by
  obtain ⟨h1, h2, h3, h4, h5, h6, h7, h8, h9, h10, h11, h12, h13⟩ := id h
  have hp := h2 z hz
  have e1 := h12 z hz
  have e2 := h11 z hz
  have v0 : vp_in (nI (P z)) 100 := vp_in_nI hp (by decide)
  have k0 : (nI (P z)).toNatClampNeg = P z := nI_cl (by omega)
  have c0 : ¬ nI (P z) < 0 := nI_pos (by omega)
  have c1 : nI (P z) < nI 100 := nI_lt hp (by decide)
  have n5 : nI N - 1 = nI (N - 1) := by
    have := nI_pred (N - 1)
    rw [show N - 1 + 1 = N by omega] at this
    exact this
  by_cases q1 : z = 0
  · rw [if_pos q1] at e1
    by_cases q2 : z + 1 < N
    · rw [if_pos q2] at e2
      have v2 : vp_in (nI (P (z + 1))) 100 := vp_in_nI (h2 _ q2) (by decide)
      have k2 : (nI (P (z + 1))).toNatClampNeg = P (z + 1) := nI_cl (by have := h2 _ q2; omega)
      have c2 : ¬ nI (P (z + 1)) = -1 := nI_m1 (by have := h2 _ q2; omega)
      apply Exists.intro
      refine ⟨fun d μ r => M31v21 ?_, ?_, ?_⟩
      · simp only [B31v21_48, B31v21_68, va_up_self, ms_up, k0, c0, c1, v0, e1, e2, v2, k2, c2, not_true_eq_false, not_false_eq_true, true_and, and_true, false_implies, true_implies]
        exact rfl
      · refine LN_give h hz (by decide) ?_ ?_ ?_ ?_ ?_ ?_
        · simp (disch := decide) only [cs_a, cs_i, cs_s, h7, n5]
        · simp (disch := decide) only [cs_a, cs_i, cs_s]
        · simp (disch := decide) only [cs_a, cs_i, cs_s]; rw [if_neg (by omega)]
        · simp (disch := decide) only [cs_a, cs_i, cs_s]; rw [if_pos q1, e2]
        · intro x; simp (disch := decide) only [cs_a, cs_r, up_app, e1]
          by_cases e : x = P (z + 1)
          · rw [if_pos e, if_pos ⟨q2, e⟩]
          · rw [if_neg e, if_neg (fun w => e w.2)]
        · intro x; simp (disch := decide) only [cs_a, cs_i, cs_r, up_app]
          by_cases e : x = P z
          · rw [if_pos e, if_pos e]
          · rw [if_neg e, if_neg e, if_neg (fun w => w.1 q1)]
      · intro a n1 n2 n3
        simp (disch := assumption) only [cs_a]
    · rw [if_neg q2] at e2
      apply Exists.intro
      refine ⟨fun d μ r => M31v21 ?_, ?_, ?_⟩
      · simp only [B31v21_48, B31v21_68, va_up_self, ms_up, k0, c0, c1, v0, e1, e2, not_true_eq_false, not_false_eq_true, true_and, and_true, false_implies, true_implies]
        exact rfl
      · refine LN_give h hz (by decide) ?_ ?_ ?_ ?_ ?_ ?_
        · simp (disch := decide) only [cs_a, cs_i, cs_s, h7, n5]
        · simp (disch := decide) only [cs_a, cs_i, cs_s]
        · simp (disch := decide) only [cs_a, cs_i, cs_s]; rw [if_pos (by omega), e1]
        · simp (disch := decide) only [cs_a, cs_i, cs_s]; rw [if_pos q1, e2]
        · intro x; simp (disch := decide) only [cs_a, cs_r, up_app, e1]
          rw [if_neg (fun w => q2 w.1)]
        · intro x; simp (disch := decide) only [cs_a, cs_i, cs_r, up_app]
          by_cases e : x = P z
          · rw [if_pos e, if_pos e]
          · rw [if_neg e, if_neg e, if_neg (fun w => w.1 q1)]
      · intro a n1 n2 n3
        simp (disch := assumption) only [cs_a]
  · rw [if_neg q1] at e1
    have v3 : vp_in (nI (P (z - 1))) 100 := vp_in_nI (h2 _ (by omega)) (by decide)
    have k3 : (nI (P (z - 1))).toNatClampNeg = P (z - 1) := nI_cl (by have := h2 (z - 1) (by omega); omega)
    have c3 : ¬ nI (P (z - 1)) = -1 := nI_m1 (by have := h2 (z - 1) (by omega); omega)
    by_cases q2 : z + 1 < N
    · rw [if_pos q2] at e2
      have v2 : vp_in (nI (P (z + 1))) 100 := vp_in_nI (h2 _ q2) (by decide)
      have k2 : (nI (P (z + 1))).toNatClampNeg = P (z + 1) := nI_cl (by have := h2 _ q2; omega)
      have c2 : ¬ nI (P (z + 1)) = -1 := nI_m1 (by have := h2 _ q2; omega)
      apply Exists.intro
      refine ⟨fun d μ r => M31v21 ?_, ?_, ?_⟩
      · simp only [B31v21_48, B31v21_68, va_up_self, ms_up, k0, c0, c1, v0, e1, e2, v2, k2, c2, v3, k3, c3, not_true_eq_false, not_false_eq_true, true_and, and_true, false_implies, true_implies]
        exact rfl
      · refine LN_give h hz (by decide) ?_ ?_ ?_ ?_ ?_ ?_
        · simp (disch := decide) only [cs_a, cs_i, cs_s, h7, n5]
        · simp (disch := decide) only [cs_a, cs_i, cs_s]
        · simp (disch := decide) only [cs_a, cs_i, cs_s]; rw [if_neg (by omega)]
        · simp (disch := decide) only [cs_a, cs_i, cs_s]; rw [if_neg q1]
        · intro x; simp (disch := decide) only [cs_a, cs_r, up_app, e1]
          by_cases e : x = P (z + 1)
          · rw [if_pos e, if_pos ⟨q2, e⟩]
          · rw [if_neg e, if_neg (fun w => e w.2)]
        · intro x; simp (disch := decide) only [cs_a, cs_i, cs_r, up_app, e2]
          by_cases e : x = P z
          · rw [if_pos e, if_pos e]
          · rw [if_neg e, if_neg e]
            by_cases e3 : x = P (z - 1)
            · rw [if_pos e3, if_pos ⟨q1, e3⟩]
            · rw [if_neg e3, if_neg (fun w => e3 w.2)]
      · intro a n1 n2 n3
        simp (disch := assumption) only [cs_a]
    · rw [if_neg q2] at e2
      apply Exists.intro
      refine ⟨fun d μ r => M31v21 ?_, ?_, ?_⟩
      · simp only [B31v21_48, B31v21_68, va_up_self, ms_up, k0, c0, c1, v0, e1, e2, v3, k3, c3, not_true_eq_false, not_false_eq_true, true_and, and_true, false_implies, true_implies]
        exact rfl
      · refine LN_give h hz (by decide) ?_ ?_ ?_ ?_ ?_ ?_
        · simp (disch := decide) only [cs_a, cs_i, cs_s, h7, n5]
        · simp (disch := decide) only [cs_a, cs_i, cs_s]
        · simp (disch := decide) only [cs_a, cs_i, cs_s]; rw [if_pos (by omega), e1]
        · simp (disch := decide) only [cs_a, cs_i, cs_s]; rw [if_neg q1]
        · intro x; simp (disch := decide) only [cs_a, cs_r, up_app, e1]
          rw [if_neg (fun w => q2 w.1)]
        · intro x; simp (disch := decide) only [cs_a, cs_i, cs_r, up_app, e2]
          by_cases e : x = P z
          · rw [if_pos e, if_pos e]
          · rw [if_neg e, if_neg e]
            by_cases e3 : x = P (z - 1)
            · rw [if_pos e3, if_pos ⟨q1, e3⟩]
            · rw [if_neg e3, if_neg (fun w => e3 w.2)]
      · intro a n1 n2 n3
        simp (disch := assumption) only [cs_a]
