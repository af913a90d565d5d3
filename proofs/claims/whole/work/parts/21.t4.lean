/-! MODEL: small methods executed -/
theorem ix_lin {c s t : Nat} {x : Int32} (C : Int32) (hC : C = nI c) (hx : x = nI t) : C * nI s + x = nI (c * s + t) := by
  rw [hC, hx, pk_mul, nI_add]
theorem T_madd {m h : Rg} {s t : Nat} {x : Int32} (hs : s < 6) (ht : t < 13) (hx : x = nI t) : MX 1 87 [.inl (nI s), .inl x] m h none m (cset h 63 0 (13 * s + t) (h 63 0 (13 * s + t) + 1)) := fun d μ => M87 (by
  have v0 : vp_in (nI (13 * s + t)) 78 := vp_in_nI (by omega) (by decide)
  have k0 : (nI (13 * s + t)).toNatClampNeg = 13 * s + t := nI_cl (by omega)
  simp only [Nat.reduceAdd, mm4, ms4, ix_lin 13 rfl hx, v0, k0, true_and])
theorem T_ruled {m h : Rg} {s j : Nat} {x : Int32} (hs : s < 6) (hj : j < 9) (hx : x = nI j) : MX 1 77 [.inl (nI s), .inl x] m h (some (m 41 0 (9 * s + j))) m h := fun d μ => M77 (by
  have v0 : vp_in (nI (9 * s + j)) 54 := vp_in_nI (by omega) (by decide)
  have k0 : (nI (9 * s + j)).toNatClampNeg = 9 * s + j := nI_cl (by omega)
  simp only [mm3, ix_lin 9 rfl hx, v0, k0, true_and])
theorem T_mrests {m h : Rg} {s : Nat} (hs : s < 6) : MX 1 100 [.inl (nI s)] m h (some (if h 61 0 s < h 60 0 0 then 0 else 1)) m h := fun d μ => M100 (by
  have v0 : vp_in (nI s) 6 := vp_in_nI hs (by decide)
  have k0 : (nI s).toNatClampNeg = s := nI_cl (by omega)
  simp only [B100_24, Nat.reduceAdd, mm4, v0, k0, true_and]
  by_cases e : h 61 0 s < h 60 0 0
  · simp [e]
  · simp [e])
def mBegin (m h : Rg) (k s : Nat) : Rg := cset (cset (cset h 70 0 k 1) 72 0 k (h 60 0 0 + m 41 0 (9 * s + 8))) 63 0 (13 * s + 7) (h 63 0 (13 * s + 7) + 1)
theorem T_mbegin {m h : Rg} {N z s : Nat} {n : Int32} (hN : h 60 0 15 = nI N) (hb : N ≤ 120) (hz : z < N) (hn : h 67 0 z = n) (hu : ∀ i, i < z → ¬ h 67 0 i = n) (hs : s < 6) (h68 : h 68 0 z = nI s) : MX 2 90 [.inl n] m h none m (mBegin m h z s) := fun d μ => M90 (by
  have v0 : vp_in (nI z) 120 := vp_in_nI (by omega) (by decide)
  have k0 : (nI z).toNatClampNeg = z := nI_cl (by omega)
  refine ⟨nI z, _, T_placeOf hN hb hz hn hu d μ, v0, v0, ?_⟩
  simp only [Nat.reduceAdd, mm4, ms4, k0, h68]
  refine ⟨_, _, T_ruled hs (j := 8) (by decide) rfl d μ, v0, ?_⟩
  simp (disch := decide) only [mm4, ms4, cs_a]
  exact ⟨_, T_madd (t := 7) hs (by decide) rfl d μ, by simp (disch := decide) only [cs_a]; rfl⟩)
/-- leaveRow -/
theorem lr_loop {m h : Rg} {s w : Nat} (hs : s < 6) (hw0 : 0 < w) (hw : w ≤ 20) : ∀ (q k : Nat) (hk : Rg), q + k = w - 1 → hk 66 0 s = nI (w - 1) → (∀ x, hk 65 0 x = if 20 * s ≤ x ∧ x < 20 * s + k then h 65 0 (x + 1) else h 65 0 x) →
    ∃ h', (∀ (d : Nat) (μ : Mem), EvE (M d) 91 15 [some (.inr (3, 40, 0)), some (.inl (nI s)), some (.inl (nI k))] [] (mm μ m hk) (none, mm μ m h')) ∧ (∀ x, h' 65 0 x = if 20 * s ≤ x ∧ x < 20 * s + (w - 1) then h 65 0 (x + 1) else h 65 0 x) ∧ ∀ a, a ≠ 65 → h' a = hk a := by
  intro q
  have v5 : vp_in (nI s) 6 := vp_in_nI hs (by decide)
  have k5 : (nI s).toNatClampNeg = s := nI_cl (by omega)
  induction q with
  | zero =>
    intro k hk hq h66 hall
    have : k = w - 1 := by omega
    subst this
    refine ⟨hk, fun d μ => B91_15.mpr ?_, hall, fun a _ => rfl⟩
    simp (disch := omega) only [Nat.reduceAdd, mm4, k5, v5, h66, nI_le', true_and]
    exact ⟨fun _ => True.intro, fun e => absurd (Nat.le_refl _) e⟩
  | succ q ih =>
    intro k hk hq h66 hall
    have g0 : ¬ w - 1 ≤ k := by omega
    have e1 : (20 : Int32) * nI s + nI k = nI (20 * s + k) := ix_lin 20 rfl rfl
    have v0 : vp_in (nI (20 * s + k)) 120 := vp_in_nI (by omega) (by decide)
    have v1 : vp_in (nI (20 * s + k + 1)) 120 := vp_in_nI (by omega) (by decide)
    have k0 : (nI (20 * s + k)).toNatClampNeg = 20 * s + k := nI_cl (by omega)
    have k1 : (nI (20 * s + k + 1)).toNatClampNeg = 20 * s + k + 1 := nI_cl (by omega)
    obtain ⟨h', f1, f2, f3⟩ := ih (k + 1) (cset hk 65 0 (20 * s + k) (hk 65 0 (20 * s + k + 1))) (by omega) (by rw [cs_a _ _ (by decide)]; exact h66) (by
      intro x
      rw [cs_r, up_app]
      by_cases ex : x = 20 * s + k
      · subst ex
        rw [if_pos rfl, if_pos (by omega), hall, if_neg (by omega)]
      · rw [if_neg ex, hall]
        by_cases wq : 20 * s ≤ x ∧ x < 20 * s + k
        · rw [if_pos wq, if_pos (by omega)]
        · rw [if_neg wq, if_neg (by omega)])
    refine ⟨h', fun d μ => B91_15.mpr ?_, f2, fun a ha => by rw [f3 a ha, cs_a _ _ ha]⟩
    simp (disch := omega) only [Nat.reduceAdd, mm4, ms4, k5, v5, h66, nI_le', e1, nI_1, g0, k0, k1, v0, v1, not_true_eq_false, not_false_eq_true, true_and, and_true, false_implies, true_implies]
    exact f1 d μ
theorem T_leaveRow {m h : Rg} {s w : Nat} (hs : s < 6) (h66 : h 66 0 s = nI w) (hw0 : 0 < w) (hw : w ≤ 20) : ∃ h', MX 1 91 [.inl (nI s)] m h none m h' ∧ (∀ i, i < w - 1 → h' 65 0 (20 * s + i) = h 65 0 (20 * s + (i + 1))) ∧ (∀ x, (∀ i, i < 20 → ¬ x = 20 * s + i) → h' 65 0 x = h 65 0 x) ∧ ∀ a, a ≠ 65 → h' a = cset h 66 0 s (nI (w - 1)) a := by
  have v5 : vp_in (nI s) 6 := vp_in_nI hs (by decide)
  have k5 : (nI s).toNatClampNeg = s := nI_cl (by omega)
  have c1 : nI w - 1 = nI (w - 1) := nI_dn (by omega)
  obtain ⟨h', f1, f2, f3⟩ := lr_loop (m := m) (h := h) hs hw0 hw (w - 1) 0 (cset h 66 0 s (nI (w - 1))) (by omega) (cs_s _ _ _ _ _) (by
    intro x
    rw [cs_a _ _ (by decide), if_neg (by omega)])
  refine ⟨h', fun d μ => M91 ?_, fun i hi => ?_, fun x hx => ?_, f3⟩
  · simp only [Nat.reduceAdd, mm4, ms4, k5, v5, h66, c1, true_and]
    exact f1 d μ
  · rw [f2, if_pos (by omega), show 20 * s + i + 1 = 20 * s + (i + 1) by omega]
  · rw [f2, if_neg]
    intro e
    exact hx (x - 20 * s) (by omega) (by omega)
/-- guestGoes -/
def wr5 (h : Rg) (k : Nat) : Rg := cset (cset (cset (cset (cset h 75 0 k (h 75 0 (k + 1))) 76 0 k (h 76 0 (k + 1))) 77 0 k (h 77 0 (k + 1))) 78 0 k (h 78 0 (k + 1))) 79 0 k (h 79 0 (k + 1))
theorem wr5_in (h : Rg) (k a i : Nat) (h1 : 75 ≤ a) (h2 : a ≤ 79) : wr5 h k a 0 i = if i = k then h a 0 (k + 1) else h a 0 i := by
  unfold wr5
  rcases (show a = 75 ∨ a = 76 ∨ a = 77 ∨ a = 78 ∨ a = 79 by omega) with e | e | e | e | e <;> subst e <;> simp (disch := decide) only [cs_a, cs_r, up_app]
theorem wr5_out (h : Rg) (k a : Nat) (h1 : ¬ (75 ≤ a ∧ a ≤ 79)) : wr5 h k a = h a := by
  unfold wr5
  simp (disch := omega) only [cs_a]
theorem gg_loop {m h : Rg} {N z : Nat} {x1 : Int32} (hN : 1 ≤ N) (hb : N ≤ 100) (hz : z < N) : ∀ (q k : Nat) (hk : Rg), q + k = N - 1 → z ≤ k → hk 60 0 22 = nI (N - 1) → (∀ a, 75 ≤ a → a ≤ 79 → ∀ i, hk a 0 i = if z ≤ i ∧ i < k then h a 0 (i + 1) else h a 0 i) →
    ∃ h', (∀ (d : Nat) (μ : Mem), EvE (M d) 96 15 [some (.inr (3, 40, 0)), some (.inl x1), some (.inl (nI k))] [] (mm μ m hk) (none, mm μ m h')) ∧ (∀ a, 75 ≤ a → a ≤ 79 → ∀ i, h' a 0 i = if z ≤ i ∧ i < N - 1 then h a 0 (i + 1) else h a 0 i) ∧ ∀ a, ¬ (75 ≤ a ∧ a ≤ 79) → h' a = hk a := by
  intro q
  induction q with
  | zero =>
    intro k hk hq hzk h15 hall
    have : k = N - 1 := by omega
    subst this
    refine ⟨hk, fun d μ => B96_15.mpr ?_, hall, fun a _ => rfl⟩
    simp (disch := omega) only [Nat.reduceAdd, mm4, h15, nI_le']
    exact ⟨fun _ => True.intro, fun e => absurd (Nat.le_refl _) e⟩
  | succ q ih =>
    intro k hk hq hzk h15 hall
    have v0 : vp_in (nI k) 100 := vp_in_nI (by omega) (by decide)
    have v1 : vp_in (nI (k + 1)) 100 := vp_in_nI (by omega) (by decide)
    have k0 : (nI k).toNatClampNeg = k := nI_cl (by omega)
    have k1 : (nI (k + 1)).toNatClampNeg = k + 1 := nI_cl (by omega)
    have g0 : ¬ N - 1 ≤ k := by omega
    obtain ⟨h', e1, e2, e3⟩ := ih (k + 1) (wr5 hk k) (by omega) (by omega) (by rw [wr5_out _ _ _ (by omega)]; exact h15) (by
      intro a a1 a2 i
      rw [wr5_in _ _ _ _ a1 a2]
      by_cases ei : i = k
      · subst ei
        rw [if_pos rfl, if_pos (by omega), hall a a1 a2, if_neg (by omega)]
      · rw [if_neg ei, hall a a1 a2]
        by_cases w : z ≤ i ∧ i < k
        · rw [if_pos w, if_pos (by omega)]
        · rw [if_neg w, if_neg (by omega)])
    refine ⟨h', fun d μ => B96_15.mpr ?_, e2, fun a ha => by rw [e3 a ha, wr5_out _ _ _ ha]⟩
    simp (disch := omega) only [Nat.reduceAdd, mm4, ms4, h15, nI_le', nI_1, g0, k0, k1, v0, v1, not_true_eq_false, not_false_eq_true, true_and, and_true, false_implies, true_implies]
    exact e1 d μ
theorem T_guestGoes {m h : Rg} {G z : Nat} (hG : h 60 0 22 = nI G) (hb : G ≤ 100) (hz : z < G) : ∃ h', MX 1 96 [.inl (nI z)] m h none m h' ∧ (∀ a, 75 ≤ a → a ≤ 79 → ∀ k, k < G - 1 → h' a 0 k = h a 0 (shk z k)) ∧ ∀ a, ¬ (75 ≤ a ∧ a ≤ 79) → h' a = cset h 60 0 22 (nI (G - 1)) a := by
  have n5 : nI G - 1 = nI (G - 1) := nI_dn (by omega)
  obtain ⟨h', e1, e2, e3⟩ := gg_loop (m := m) (h := h) (x1 := nI z) (N := G) (z := z) (by omega) hb hz (G - 1 - z) z (cset h 60 0 22 (nI (G - 1))) (by omega) (Nat.le_refl _) (cs_s _ _ _ _ _) (by
    intro a a1 a2 i
    rw [cs_a _ _ (by omega), if_neg (by omega)])
  refine ⟨h', fun d μ => M96 ?_, ?_, e3⟩
  · simp only [Nat.reduceAdd, mm4, ms4, hG, n5]
    exact e1 _ μ
  · intro a a1 a2 k hk
    rw [e2 a a1 a2]
    unfold shk
    by_cases w : k < z
    · rw [if_neg (by omega), if_pos w]
    · rw [if_pos (by omega), if_neg w]
theorem T_ansG0 {m h : Rg} {z : Nat} (hz : z < 100) : MX 1 95 [.inl (nI z), .inl 0] m h none m (cset (cset h 76 0 z (-3)) 77 0 z (h 60 0 0 + 1)) := fun d μ => M95 (by
  have v0 : vp_in (nI z) 100 := vp_in_nI hz (by decide)
  have k0 : (nI z).toNatClampNeg = z := nI_cl (by omega)
  simp (disch := decide) only [B95_54, Nat.reduceAdd, mm4, ms4, cs_a, v0, k0, not_true_eq_false, not_false_eq_true, true_and, and_true, false_implies, true_implies])
theorem T_ansG1 {m h : Rg} {G z : Nat} (hG : h 60 0 22 = nI G) (hb : G ≤ 100) (hz : z < G) : ∃ h', MX 2 95 [.inl (nI z), .inl 1] m h none m h' ∧ (∀ a, 75 ≤ a → a ≤ 79 → ∀ k, k < G - 1 → h' a 0 k = h a 0 (shk z k)) ∧ ∀ a, ¬ (75 ≤ a ∧ a ≤ 79) → h' a = cset (cset h 60 0 24 (h 60 0 24 + 1)) 60 0 22 (nI (G - 1)) a := by
  obtain ⟨h', e1, e2, e3⟩ := T_guestGoes (m := m) (h := cset h 60 0 24 (h 60 0 24 + 1)) (G := G) (z := z) (by rw [cs_i _ _ (by decide)]; exact hG) hb hz
  refine ⟨h', fun d μ => M95 ?_, fun a a1 a2 k hk => ?_, e3⟩
  · have g1 : ¬ (1 : Int32) = 0 := by decide
    simp only [B95_54, Nat.reduceAdd, mm4, ms4, g1, not_true_eq_false, not_false_eq_true, true_and, and_true, false_implies, true_implies]
    exact ⟨_, e1 d μ, rfl⟩
  · rw [e2 a a1 a2 k hk, cs_a _ _ (by omega)]
