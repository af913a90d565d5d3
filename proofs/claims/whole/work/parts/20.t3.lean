/-! CLASS: the house's small methods executed -/
theorem cs_col (σ : Rg) (a o i : Nat) (v : Int32) : (fun s => cset σ a o i v a s i) = va_up (fun s => σ a s i) o v := by
  funext s
  unfold va_up
  by_cases e : s = o
  · subst e; rw [if_pos rfl, cs_s]
  · rw [if_neg e, cs_o _ _ e]
theorem T_become {σ : Rg} {p : Nat} {u v : Int32} (hp : p < 120) : CX 1 26 8 0 [.inl (nI p), .inl u, .inl v] σ none (cset (cset σ 15 0 p u) 18 0 p v) := fun d μ r => M26 (by
  have v0 : vp_in (nI p) 120 := vp_in_nI hp (by decide)
  have k0 : (nI p).toNatClampNeg = p := nI_cl (by omega)
  simp only [va_up_self, ms_up, k0, v0, true_and])
theorem T_isDue {σ : Rg} {p : Nat} {u v : Int32} (hp : p < 120) : CX 1 27 8 0 [.inl (nI p), .inl u, .inl v] σ (some (if σ 15 0 p = u ∧ σ 18 0 p = v then 1 else 0)) σ := fun d μ r => M27 (by
  have v0 : vp_in (nI p) 120 := vp_in_nI hp (by decide)
  have k0 : (nI p).toNatClampNeg = p := nI_cl (by omega)
  simp only [B27_24, B27_25, va_up_self, k0, v0, true_and]
  by_cases e1 : σ 15 0 p = u
  · by_cases e2 : σ 18 0 p = v
    · simp [e1, e2]
    · simp [e1, e2]
  · simp [e1])
theorem T_answer {σ : Rg} {x g : Int32} (hg : g = 0 ∨ g = 1) : CX 1 19 1 0 [.inl x, .inl g] σ none (cset (cset σ 1 0 11 x) 1 0 12 g) := fun d μ r => M19 (by
  simp only [ms_up, and_true]
  exact hg)
theorem T_refuse {σ : Rg} {s : Nat} {x : Int32} (d : Nat) (μ : Mem) (r : Nat) : M (d + 2) 15 [.inr (r, 1, 0), .inr (r, 3, s), .inl x] (va_up μ r σ) (none, va_up μ r (cset (cset (cset (cset σ 5 s 4 (σ 5 s 4 + 1)) 1 0 3 0) 1 0 11 x) 1 0 12 0)) := M15 (by
  refine ⟨_, ?_, rfl⟩
  simp only [va_up_self, ms_up]
  exact T_answer (Or.inl rfl) d μ r)
def cBegin (σ : Rg) (p s : Nat) : Rg := cset (cset (cset (cset σ 3 s 5 (σ 3 s 5 + 1)) 5 s 1 (σ 5 s 1 + 1)) 15 0 p 1) 18 0 p (σ 1 0 2 + σ 4 s 8)
theorem T_begin {σ : Rg} {p s : Nat} (hp : p < 120) (hs : s < 6) (h13 : σ 13 0 p = nI s) : CX 2 16 1 0 [.inl (nI p)] σ none (cBegin σ p s) := fun d μ r => M16 (by
  have v0 : vp_in (nI p) 120 := vp_in_nI hp (by decide)
  have k0 : (nI p).toNatClampNeg = p := nI_cl (by omega)
  have v1 : vp_in (nI s) 6 := vp_in_nI hs (by decide)
  have k1 : (nI s).toNatClampNeg = s := nI_cl (by omega)
  simp only [va_up_self, ms_up, k0, v0, h13, k1, v1, true_and]
  exact ⟨_, T_become hp d μ r, rfl⟩)
theorem T_giveNo {σ : Rg} : CX 1 17 1 0 [.inl (-1)] σ none σ := fun d μ r => M17 (by
  simp only [B17_15, not_true_eq_false, not_false_eq_true, true_and, and_true, false_implies, true_implies])
theorem T_giveUp {σ : Rg} {p : Nat} (hp : p < 120) : CX 1 17 1 0 [.inl (nI p)] σ none (cset σ 16 0 p (-1)) := fun d μ r => M17 (by
  have v0 : vp_in (nI p) 120 := vp_in_nI hp (by decide)
  have k0 : (nI p).toNatClampNeg = p := nI_cl (by omega)
  have c0 : ¬ nI p = -1 := nI_m1 (by omega)
  simp only [B17_15, ms_up, k0, v0, c0, not_true_eq_false, not_false_eq_true, true_and, and_true, false_implies, true_implies])
theorem T_setJ {σ : Rg} {p : Nat} {v : Int32} (hp : p < 120) : CX 1 14 1 0 [.inl (nI p), .inl v] σ none (cset σ 17 0 p v) := fun d μ r => M14 (by
  have v0 : vp_in (nI p) 120 := vp_in_nI hp (by decide)
  have k0 : (nI p).toNatClampNeg = p := nI_cl (by omega)
  have c0 : nI p < 1000 := nI_lt (b := 1000) (by omega) (by decide)
  simp only [B14_34, ms_up, k0, v0, c0, not_true_eq_false, not_false_eq_true, true_and, and_true, false_implies, true_implies])
theorem nI_sub1000 (g : Nat) : nI (1000 + g) - 1000 = nI g := by
  rw [show (1000 : Int32) = nI 1000 from rfl, pk_sub (by omega), show 1000 + g - 1000 = g by omega]
theorem T_setG {σ : Rg} {g : Nat} {v : Int32} (hg : g < 100) : CX 1 14 1 0 [.inl (nI (1000 + g)), .inl v] σ none (cset σ 25 0 g v) := fun d μ r => M14 (by
  have v0 : vp_in (nI g) 100 := vp_in_nI hg (by decide)
  have k0 : (nI g).toNatClampNeg = g := nI_cl (by omega)
  have c0 : ¬ nI (1000 + g) < 1000 := nI_nlt (b := 1000) (by omega) (by omega)
  simp only [B14_34, ms_up, nI_sub1000, k0, v0, c0, not_true_eq_false, not_false_eq_true, true_and, and_true, false_implies, true_implies])
theorem T_hasAnswer {σ : Rg} {s q : Nat} {t : Int32} (hq : q < 8) : CX 1 37 3 s [.inl (nI q), .inl t] σ (some (if σ 6 s q < t then 0 else 1)) σ := fun d μ r => M37 (by
  have v0 : vp_in (nI q) 8 := vp_in_nI hq (by decide)
  have k0 : (nI q).toNatClampNeg = q := nI_cl (by omega)
  simp only [B37_15, va_up_self, k0, v0, true_and]
  by_cases e1 : σ 6 s q < t
  · simp [e1]
  · simp [e1])
theorem T_rests {σ : Rg} {s : Nat} {t : Int32} : CX 1 38 3 s [.inl t] σ (some (if σ 3 s 6 < t then 0 else 1)) σ := fun d μ r => M38 (by
  simp only [B38_13, va_up_self]
  by_cases e1 : σ 3 s 6 < t
  · simp [e1]
  · simp [e1])
theorem T_free {σ : Rg} {s : Nat} : CX 1 39 3 s [] σ (some (if σ 4 s 7 ≤ σ 3 s 5 then 0 else 1)) σ := fun d μ r => M39 (by
  simp only [B39_19, va_up_self]
  by_cases e1 : σ 4 s 7 ≤ σ 3 s 5
  · simp [e1]
  · simp [e1])
theorem T_addLast {σ : Rg} {s w : Nat} {v : Int32} (hw : σ 3 s 4 = nI w) (hw20 : w < 20) : CX 1 40 3 s [.inl v] σ none (cset (cset σ 7 s w v) 3 s 4 (nI (w + 1))) := fun d μ r => M40 (by
  have v0 : vp_in (nI w) 20 := vp_in_nI hw20 (by decide)
  have k0 : (nI w).toNatClampNeg = w := nI_cl (by omega)
  have c0 : ¬ 20 ≤ nI w := nI_ge (b := 20) (by omega) (by decide)
  simp only [B40_29, va_up_self, ms_up, hw, k0, v0, c0, nI_1, not_true_eq_false, not_false_eq_true, true_and, and_true, false_implies, true_implies])
theorem T_takeFirst {σ : Rg} {s w : Nat} (hw : σ 3 s 4 = nI w) (hw0 : 0 < w) (hw20 : w ≤ 20) : CX 1 41 3 s [] σ (some (σ 7 s 0)) (crow (cset σ 3 s 4 (nI (w - 1))) 7 s (va_cpy (σ 7 s) (σ 7 s) 1 0 (w - 1))) := fun d μ r => M41 (by
  have k0 : (nI (w - 1)).toNatClampNeg = w - 1 := nI_cl (by omega)
  have c0 : 0 < nI w := nI_lt (a := 0) hw0 (by omega)
  have c1 : nI w - 1 = nI (w - 1) := nI_dn (by omega)
  have c2 : ¬ nI (w - 1) < 0 := nI_pos (by omega)
  simp only [va_up_self, ms_up, mr_up, hw, c0, c1, c2, k0, not_true_eq_false, not_false_eq_true, true_and, and_true, false_implies, true_implies]
  refine ⟨by decide, by decide, by omega, by omega⟩)
/-- Jobs.add -/
def cJadd (σ : Rg) (p : Nat) (c a q x : Int32) : Rg := cset (cset (cset (cset (cset (cset (cset (cset (cset σ 12 0 p c) 8 0 9 (c + 1)) 13 0 p a) 14 0 p q) 15 0 p 0) 16 0 p x) 17 0 p (-1)) 18 0 p (-4)) 19 0 p 0
theorem T_jadd {σ : Rg} {N : Nat} {P Q : Nat → Nat} (a q x : Int32) (h : LN (σ 9 0) (σ 10 0) (σ 11 0) 120 N P Q) (hN : N < 120) : ∃ σ1, CX 2 24 8 0 [.inl a, .inl q, .inl x] σ (some (nI (Q 0))) (cJadd σ1 (Q 0) (σ 8 0 9) a q x) ∧ LN (σ1 9 0) (σ1 10 0) (σ1 11 0) 120 (N + 1) (snoc P N (Q 0)) (tail1 Q) ∧ ∀ b, b ≠ 9 → b ≠ 10 → b ≠ 11 → σ1 b = σ b := by
  obtain ⟨σ1, h1, h2, h3⟩ := T_take9 h hN
  refine ⟨σ1, fun d μ r => M24 ⟨nI (Q 0), _, h1 d μ r, ?_⟩, h2, h3⟩
  have hq : Q 0 < 120 := h.2.2.1 0 (by omega)
  have v0 : vp_in (nI (Q 0)) 120 := vp_in_nI hq (by decide)
  have k0 : (nI (Q 0)).toNatClampNeg = Q 0 := nI_cl (by omega)
  have c0 : ¬ nI (Q 0) = -1 := nI_m1 (by omega)
  have e8 : σ1 8 = σ 8 := h3 8 (by decide) (by decide) (by decide)
  simp only [va_up_self, ms_up, k0, v0, c0, e8, not_true_eq_false, not_false_eq_true, true_and, and_true, false_implies, true_implies]
  rfl
theorem T_jfull {σ : Rg} {P Q : Nat → Nat} (a q x : Int32) (h : LN (σ 9 0) (σ 10 0) (σ 11 0) 120 120 P Q) : CX 2 24 8 0 [.inl a, .inl q, .inl x] σ (some (-1)) σ := fun d μ r => M24 ⟨-1, _, T_full9 h d μ r, by simp only [not_true_eq_false, not_false_eq_true, true_and, and_true, false_implies, true_implies]⟩
theorem T_remove {σ : Rg} {N z : Nat} {P Q : Nat → Nat} (h : LN (σ 9 0) (σ 10 0) (σ 11 0) 120 N P Q) (hz : z < N) : ∃ σ', CX 2 25 8 0 [.inl (nI (P z))] σ none σ' ∧ LN (σ' 9 0) (σ' 10 0) (σ' 11 0) 120 (N - 1) (fun k => P (shk z k)) (cons1 (P z) Q) ∧ ∀ a, a ≠ 9 → a ≠ 10 → a ≠ 11 → σ' a = cset σ 15 0 (P z) (-1) a := by
  have hp := h.2.1 z hz
  obtain ⟨σ', h1, h2, h3⟩ := T_give9 (σ := cset σ 15 0 (P z) (-1)) (N := N) (z := z) (P := P) (Q := Q) (by simpa (disch := decide) only [cs_a] using h) hz
  refine ⟨σ', fun d μ r => M25 ?_, h2, h3⟩
  have v0 : vp_in (nI (P z)) 120 := vp_in_nI hp (by decide)
  have k0 : (nI (P z)).toNatClampNeg = P z := nI_cl (by omega)
  simp only [va_up_self, ms_up, k0, v0, true_and]
  exact ⟨_, h1 d μ r, rfl⟩
/-- end -/
def cE1 (σ : Rg) (p s q : Nat) (g x : Int32) : Rg :=
  let σ1 := cset (cset σ 3 s 5 (σ 3 s 5 - 1)) 5 s (if g = 0 then 3 else 2) (σ 5 s (if g = 0 then 3 else 2) + 1)
  let σ2 := if g = 0 ∨ σ 4 s 3 ≤ 0 then σ1 else cset σ1 6 s q (σ 1 0 2 + σ 4 s 3)
  if x = -1 then cset (cset σ2 5 s 5 (σ2 5 s 5 + 1)) 1 0 4 (σ 1 0 4 + 1) else σ2
theorem T_end {σ : Rg} {N z s q : Nat} {P Q : Nat → Nat} {g : Int32} (h : LN (σ 9 0) (σ 10 0) (σ 11 0) 120 N P Q) (hz : z < N) (hs : s < 6) (hq : q < 8) (h13 : σ 13 0 (P z) = nI s) (h14 : σ 14 0 (P z) = nI q) (hg : g = 0 ∨ g = 1) : ∃ σ1, CX 3 18 1 0 [.inl (nI (P z)), .inl g] σ none (cset (cset σ1 1 0 11 (σ 16 0 (P z))) 1 0 12 g) ∧ LN (σ1 9 0) (σ1 10 0) (σ1 11 0) 120 (N - 1) (fun k => P (shk z k)) (cons1 (P z) Q) ∧ ∀ a, a ≠ 9 → a ≠ 10 → a ≠ 11 → σ1 a = cset (cE1 σ (P z) s q g (σ 16 0 (P z))) 15 0 (P z) (-1) a := by
  have hp := h.2.1 z hz
  have v0 : vp_in (nI (P z)) 120 := vp_in_nI hp (by decide)
  have k0 : (nI (P z)).toNatClampNeg = P z := nI_cl (by omega)
  have v1 : vp_in (nI s) 6 := vp_in_nI hs (by decide)
  have k1 : (nI s).toNatClampNeg = s := nI_cl (by omega)
  have v2 : vp_in (nI q) 8 := vp_in_nI hq (by decide)
  have k2 : (nI q).toNatClampNeg = q := nI_cl (by omega)
  have v3 : vp_in 3 7 := by unfold vp_in; decide
  have v4 : vp_in 2 7 := by unfold vp_in; decide
  have k3 : (3 : Int32).toNatClampNeg = 3 := by decide
  have k4 : (2 : Int32).toNatClampNeg = 2 := by decide
  obtain ⟨σ1, h1, h2, h3⟩ := T_remove (σ := cE1 σ (P z) s q g (σ 16 0 (P z))) (N := N) (z := z) (P := P) (Q := Q) (by
    unfold cE1
    split <;> split <;> simpa (disch := decide) only [cs_a] using h) hz
  refine ⟨σ1, fun d μ r => M18 ?_, h2, h3⟩
  have fin := fun (d : Nat) => (⟨_, h1 (d + 0) μ r, _, T_answer (σ := σ1) (x := σ 16 0 (P z)) hg (d + 1) μ r, rfl⟩ : ∃ μ1, M (d + 2) 25 [.inr (r, 8, 0), .inl (nI (P z))] (va_up μ r (cE1 σ (P z) s q g (σ 16 0 (P z)))) (none, μ1) ∧ ∃ μ2, M (d + 2) 19 [.inr (r, 1, 0), .inl (σ 16 0 (P z)), .inl g] μ1 (none, μ2) ∧ ((none, va_up μ r (cset (cset σ1 1 0 11 (σ 16 0 (P z))) 1 0 12 g)) : Res) = (none, μ2))
  have fin := fin d
  unfold cE1 at fin
  dsimp only at fin
  rcases hg with rfl | rfl
  · by_cases e2 : σ 16 0 (P z) = -1
    · simp (disch := decide) only [cs_a, cs_s, cs_i, B18_38, B18_81, B18_118, va_up_self, ms_up, k0, v0, h13, h14, k1, v1, k2, v2, v3, k3, e2, if_true, true_or, not_true_eq_false, not_false_eq_true, true_and, and_true, false_implies, true_implies] at fin ⊢
      exact fin
    · simp (disch := decide) only [cs_a, cs_s, cs_i, B18_38, B18_81, B18_118, va_up_self, ms_up, k0, v0, h13, h14, k1, v1, k2, v2, v3, k3, e2, if_true, if_false, true_or, not_true_eq_false, not_false_eq_true, true_and, and_true, false_implies, true_implies] at fin ⊢
      exact fin
  · have g1 : ¬ (1 : Int32) = 0 := by decide
    by_cases e1 : σ 4 s 3 ≤ 0
    · by_cases e2 : σ 16 0 (P z) = -1
      · simp (disch := decide) only [cs_a, cs_s, cs_i, B18_38, B18_81, B18_118, va_up_self, ms_up, k0, v0, h13, h14, k1, v1, k2, v2, v4, k4, e1, e2, g1, if_true, if_false, false_or, or_true, not_true_eq_false, not_false_eq_true, true_and, and_true, false_implies, true_implies] at fin ⊢
        exact fin
      · simp (disch := decide) only [cs_a, cs_s, cs_i, B18_38, B18_81, B18_118, va_up_self, ms_up, k0, v0, h13, h14, k1, v1, k2, v2, v4, k4, e1, e2, g1, if_true, if_false, false_or, or_true, not_true_eq_false, not_false_eq_true, true_and, and_true, false_implies, true_implies] at fin ⊢
        exact fin
    · by_cases e2 : σ 16 0 (P z) = -1
      · simp (disch := decide) only [cs_a, cs_s, cs_i, B18_38, B18_81, B18_118, va_up_self, ms_up, k0, v0, h13, h14, k1, v1, k2, v2, v4, k4, e1, e2, g1, if_true, if_false, false_or, or_self, not_true_eq_false, not_false_eq_true, true_and, and_true, false_implies, true_implies] at fin ⊢
        exact fin
      · simp (disch := decide) only [cs_a, cs_s, cs_i, B18_38, B18_81, B18_118, va_up_self, ms_up, k0, v0, h13, h14, k1, v1, k2, v2, v4, k4, e1, e2, g1, if_true, if_false, false_or, or_self, not_true_eq_false, not_false_eq_true, true_and, and_true, false_implies, true_implies] at fin ⊢
        exact fin
