/-! MODEL: the leaves executed -/
abbrev mm (μ : Mem) (m h : Rg) : Mem := va_up (va_up μ 3 m) 4 h
/-- a method of the model -/
def MX (k y : Nat) (as : List AV) (m h : Rg) (v : Option Int32) (m' h' : Rg) : Prop := ∀ (d : Nat) (μ : Mem), M (d + k) y (.inr (3, 40, 0) :: as) (mm μ m h) (v, mm μ m' h')
theorem MX.mono {k k' y : Nat} {as : List AV} {m h m' h' : Rg} {v : Option Int32} (H : MX k y as m h v m' h') (hk : k ≤ k') : MX k' y as m h v m' h' := fun d μ => by
  have := H (d + (k' - k)) μ
  rw [show d + (k' - k) + k = d + k' by omega] at this
  exact this
theorem mm3 (μ : Mem) (m h : Rg) : mm μ m h 3 = m := by
  unfold mm; rw [va_up_ne _ _ (by decide), va_up_self]
theorem mm4 (μ : Mem) (m h : Rg) : mm μ m h 4 = h := va_up_self _ _ _
theorem ms4 (μ : Mem) (m h : Rg) (a o i : Nat) (v : Int32) : mset (mm μ m h) 4 a o i v = mm μ m (cset h a o i v) := ms_up _ _ _ _ _ _ _
theorem ms3 (μ : Mem) (m h : Rg) (a o i : Nat) (v : Int32) : mset (mm μ m h) 3 a o i v = mm μ (cset m a o i v) h := by
  unfold mm
  rw [up_comm _ _ _ (by decide), ms_up, up_comm _ _ _ (by decide)]
theorem nI_le' {a b : Nat} (ha : a < 2147483648) (hb : b < 2147483648) : (nI a ≤ nI b) = (a ≤ b) := propext (nI_leI ha hb)
theorem nI_lt' {a b : Nat} (ha : a < 2147483648) (hb : b < 2147483648) : (nI a < nI b) = (a < b) := propext (nI_ltI ha hb)
/-- placeOf -/
theorem pl_loop {m h : Rg} {N : Nat} {n : Int32} (hN : h 60 0 15 = nI N) (hb : N ≤ 120) : ∀ (q k : Nat), q + k = N → (∀ i, i < k → ¬ h 67 0 i = n) → ∀ (d : Nat) (μ : Mem),
    (∀ z, k ≤ z → z < N → h 67 0 z = n → (∀ i, k ≤ i → i < z → ¬ h 67 0 i = n) → EvE (M d) 85 2 [some (.inr (3, 40, 0)), some (.inl n), some (.inl (nI k))] [] (mm μ m h) (some (nI z), mm μ m h)) ∧
    ((∀ i, k ≤ i → i < N → ¬ h 67 0 i = n) → EvE (M d) 85 2 [some (.inr (3, 40, 0)), some (.inl n), some (.inl (nI k))] [] (mm μ m h) (some (-1), mm μ m h)) := by
  intro q
  induction q with
  | zero =>
    intro k hk _ d μ
    refine ⟨fun z h1 h2 => absurd h2 (by omega), fun _ => B85_2.mpr ?_⟩
    simp (disch := omega) only [Nat.reduceAdd, mm4, hN, nI_le']
    exact ⟨fun _ => True.intro, fun e => absurd (by omega) e⟩
  | succ q ih =>
    intro k hk hno d μ
    have v0 : vp_in (nI k) 120 := vp_in_nI (by omega) (by decide)
    have k0 : (nI k).toNatClampNeg = k := nI_cl (by omega)
    have g0 : ¬ N ≤ k := by omega
    by_cases e : h 67 0 k = n
    · constructor
      · intro z h1 h2 h3 h4
        have : z = k := by
          rcases Nat.lt_or_ge k z with w | w
          · exact absurd e (h4 k (Nat.le_refl _) w)
          · omega
        subst this
        refine B85_2.mpr ?_
        simp (disch := omega) only [Nat.reduceAdd, mm4, hN, nI_le', g0, k0, v0, e, not_true_eq_false, not_false_eq_true, true_and, and_true, false_implies, true_implies]
      · intro hall
        exact absurd e (hall k (Nat.le_refl _) (by omega))
    · obtain ⟨i1, i2⟩ := ih (k + 1) (by omega) (fun i hi => by
        rcases Nat.lt_or_ge i k with w | w
        · exact hno i w
        · rw [show i = k by omega]; exact e) d μ
      constructor
      · intro z h1 h2 h3 h4
        have hz : k + 1 ≤ z := by
          rcases Nat.lt_or_ge k z with w | w
          · exact w
          · exact absurd (by rw [show k = z by omega]; exact h3) e
        refine B85_2.mpr ?_
        simp (disch := omega) only [Nat.reduceAdd, mm4, hN, nI_le', g0, k0, v0, e, not_true_eq_false, not_false_eq_true, true_and, and_true, false_implies, true_implies, nI_1]
        exact i1 z hz h2 h3 (fun i a b => h4 i (by omega) b)
      · intro hall
        refine B85_2.mpr ?_
        simp (disch := omega) only [Nat.reduceAdd, mm4, hN, nI_le', g0, k0, v0, e, not_true_eq_false, not_false_eq_true, true_and, and_true, false_implies, true_implies, nI_1]
        exact i2 (fun i a b => hall i (by omega) b)
theorem T_placeOf {m h : Rg} {N z : Nat} {n : Int32} (hN : h 60 0 15 = nI N) (hb : N ≤ 120) (hz : z < N) (hn : h 67 0 z = n) (hu : ∀ i, i < z → ¬ h 67 0 i = n) : MX 1 85 [.inl n] m h (some (nI z)) m h := fun d μ => M85 ((pl_loop hN hb N 0 (by omega) (fun i hi => absurd hi (by omega)) d μ).1 z (by omega) hz hn (fun i _ hi => hu i hi))
theorem T_placeNo {m h : Rg} {N : Nat} {n : Int32} (hN : h 60 0 15 = nI N) (hb : N ≤ 120) (hu : ∀ i, i < N → ¬ h 67 0 i = n) : MX 1 85 [.inl n] m h (some (-1)) m h := fun d μ => M85 ((pl_loop hN hb N 0 (by omega) (fun i hi => absurd hi (by omega)) d μ).2 (fun i _ hi => hu i hi))
/-- guestOf -/
theorem gu_loop {m h : Rg} {G : Nat} {n : Int32} (hN : h 60 0 22 = nI G) (hb : G ≤ 100) : ∀ (q k : Nat), q + k = G → ∀ (d : Nat) (μ : Mem),
    (∀ z, k ≤ z → z < G → h 76 0 z = n → (∀ i, k ≤ i → i < z → ¬ h 76 0 i = n) → EvE (M d) 86 2 [some (.inr (3, 40, 0)), some (.inl n), some (.inl (nI k))] [] (mm μ m h) (some (nI z), mm μ m h)) ∧
    ((∀ i, k ≤ i → i < G → ¬ h 76 0 i = n) → EvE (M d) 86 2 [some (.inr (3, 40, 0)), some (.inl n), some (.inl (nI k))] [] (mm μ m h) (some (-1), mm μ m h)) := by
  intro q
  induction q with
  | zero =>
    intro k hk d μ
    refine ⟨fun z h1 h2 => absurd h2 (by omega), fun _ => B86_2.mpr ?_⟩
    simp (disch := omega) only [Nat.reduceAdd, mm4, hN, nI_le']
    exact ⟨fun _ => True.intro, fun e => absurd (by omega) e⟩
  | succ q ih =>
    intro k hk d μ
    have v0 : vp_in (nI k) 100 := vp_in_nI (by omega) (by decide)
    have k0 : (nI k).toNatClampNeg = k := nI_cl (by omega)
    have g0 : ¬ G ≤ k := by omega
    by_cases e : h 76 0 k = n
    · constructor
      · intro z h1 h2 h3 h4
        have : z = k := by
          rcases Nat.lt_or_ge k z with w | w
          · exact absurd e (h4 k (Nat.le_refl _) w)
          · omega
        subst this
        refine B86_2.mpr ?_
        simp (disch := omega) only [Nat.reduceAdd, mm4, hN, nI_le', g0, k0, v0, e, not_true_eq_false, not_false_eq_true, true_and, and_true, false_implies, true_implies]
      · intro hall
        exact absurd e (hall k (Nat.le_refl _) (by omega))
    · obtain ⟨i1, i2⟩ := ih (k + 1) (by omega) d μ
      constructor
      · intro z h1 h2 h3 h4
        have hz : k + 1 ≤ z := by
          rcases Nat.lt_or_ge k z with w | w
          · exact w
          · exact absurd (by rw [show k = z by omega]; exact h3) e
        refine B86_2.mpr ?_
        simp (disch := omega) only [Nat.reduceAdd, mm4, hN, nI_le', g0, k0, v0, e, not_true_eq_false, not_false_eq_true, true_and, and_true, false_implies, true_implies, nI_1]
        exact i1 z hz h2 h3 (fun i a b => h4 i (by omega) b)
      · intro hall
        refine B86_2.mpr ?_
        simp (disch := omega) only [Nat.reduceAdd, mm4, hN, nI_le', g0, k0, v0, e, not_true_eq_false, not_false_eq_true, true_and, and_true, false_implies, true_implies, nI_1]
        exact i2 (fun i a b => hall i (by omega) b)
theorem T_guestOf {m h : Rg} {G z : Nat} {n : Int32} (hN : h 60 0 22 = nI G) (hb : G ≤ 100) (hz : z < G) (hn : h 76 0 z = n) (hu : ∀ i, i < z → ¬ h 76 0 i = n) : MX 1 86 [.inl n] m h (some (nI z)) m h := fun d μ => M86 ((gu_loop hN hb G 0 (by omega) d μ).1 z (by omega) hz hn (fun i _ hi => hu i hi))
theorem T_guestNo {m h : Rg} {G : Nat} {n : Int32} (hN : h 60 0 22 = nI G) (hb : G ≤ 100) (hu : ∀ i, i < G → ¬ h 76 0 i = n) : MX 1 86 [.inl n] m h (some (-1)) m h := fun d μ => M86 ((gu_loop hN hb G 0 (by omega) d μ).2 (fun i _ hi => hu i hi))
/-- handsInUse: a count -/
def cnt (p : Nat → Bool) : Nat → Nat
  | 0 => 0
  | n + 1 => cnt p n + (if p n then 1 else 0)
theorem cnt_le (p : Nat → Bool) (n : Nat) : cnt p n ≤ n := by
  induction n with
  | zero => exact Nat.le_refl _
  | succ n ih => show cnt p n + (if p n then 1 else 0) ≤ n + 1; split <;> omega
def hup (h : Rg) (s : Int32) (k : Nat) : Bool := decide (h 68 0 k = s ∧ ¬ h 70 0 k = 0)
theorem hu_loop {m h : Rg} {N : Nat} {s : Int32} (hN : h 60 0 15 = nI N) (hb : N ≤ 120) : ∀ (q k : Nat), q + k = N → ∀ (d : Nat) (μ : Mem), EvE (M d) 88 4 [some (.inr (3, 40, 0)), some (.inl s), some (.inl (nI (cnt (hup h s) k))), some (.inl (nI k))] [] (mm μ m h) (some (nI (cnt (hup h s) N)), mm μ m h) := by
  intro q
  induction q with
  | zero =>
    intro k hk d μ
    refine B88_4.mpr ?_
    simp (disch := omega) only [Nat.reduceAdd, mm4, hN, nI_le']
    rw [show k = N by omega]
    exact ⟨fun _ => rfl, fun e => absurd (Nat.le_refl _) e⟩
  | succ q ih =>
    intro k hk d μ
    have v0 : vp_in (nI k) 120 := vp_in_nI (by omega) (by decide)
    have k0 : (nI k).toNatClampNeg = k := nI_cl (by omega)
    have g0 : ¬ N ≤ k := by omega
    have hs := ih (k + 1) (by omega) d μ
    refine B88_4.mpr ?_
    by_cases e1 : h 68 0 k = s
    · by_cases e2 : h 70 0 k = 0
      · have : cnt (hup h s) (k + 1) = cnt (hup h s) k := by
          show cnt (hup h s) k + (if hup h s k then 1 else 0) = _
          rw [show hup h s k = false by unfold hup; simp [e2]]; simp
        rw [this] at hs
        simp (disch := omega) only [B88_45, B88_46, Nat.reduceAdd, mm4, hN, nI_le', g0, k0, v0, e1, e2, not_true_eq_false, not_false_eq_true, true_and, and_true, false_implies, true_implies, nI_1, Int32.add_zero]
        exact hs
      · have : cnt (hup h s) (k + 1) = cnt (hup h s) k + 1 := by
          show cnt (hup h s) k + (if hup h s k then 1 else 0) = _
          rw [show hup h s k = true by unfold hup; simp [e1, e2]]; simp
        rw [this] at hs
        simp (disch := omega) only [B88_45, B88_46, Nat.reduceAdd, mm4, hN, nI_le', g0, k0, v0, e1, e2, not_true_eq_false, not_false_eq_true, true_and, and_true, false_implies, true_implies, nI_1]
        exact hs
    · have : cnt (hup h s) (k + 1) = cnt (hup h s) k := by
        show cnt (hup h s) k + (if hup h s k then 1 else 0) = _
        rw [show hup h s k = false by unfold hup; simp [e1]]; simp
      rw [this] at hs
      simp (disch := omega) only [B88_45, B88_46, Nat.reduceAdd, mm4, hN, nI_le', g0, k0, v0, e1, not_true_eq_false, not_false_eq_true, true_and, and_true, false_implies, true_implies, nI_1, Int32.add_zero]
      exact hs
theorem T_hands {m h : Rg} {N : Nat} {s : Int32} (hN : h 60 0 15 = nI N) (hb : N ≤ 120) : MX 1 88 [.inl s] m h (some (nI (cnt (hup h s) N))) m h := fun d μ => M88 (hu_loop hN hb N 0 (by omega) d μ)
/-- takeOut -/
def wr8 (h : Rg) (k : Nat) : Rg := cset (cset (cset (cset (cset (cset (cset (cset h 67 0 k (h 67 0 (k + 1))) 68 0 k (h 68 0 (k + 1))) 69 0 k (h 69 0 (k + 1))) 70 0 k (h 70 0 (k + 1))) 71 0 k (h 71 0 (k + 1))) 72 0 k (h 72 0 (k + 1))) 73 0 k (h 73 0 (k + 1))) 74 0 k (h 74 0 (k + 1))
theorem wr8_in (h : Rg) (k a i : Nat) (h1 : 67 ≤ a) (h2 : a ≤ 74) : wr8 h k a 0 i = if i = k then h a 0 (k + 1) else h a 0 i := by
  unfold wr8
  rcases (show a = 67 ∨ a = 68 ∨ a = 69 ∨ a = 70 ∨ a = 71 ∨ a = 72 ∨ a = 73 ∨ a = 74 by omega) with e | e | e | e | e | e | e | e <;> subst e <;> simp (disch := decide) only [cs_a, cs_r, up_app]
theorem wr8_out (h : Rg) (k a : Nat) (h1 : ¬ (67 ≤ a ∧ a ≤ 74)) : wr8 h k a = h a := by
  unfold wr8
  simp (disch := omega) only [cs_a]
theorem to_loop {m h : Rg} {N z : Nat} {n x2 : Int32} (hN : 1 ≤ N) (hb : N ≤ 120) (hz : z < N) : ∀ (q k : Nat) (hk : Rg), q + k = N - 1 → z ≤ k → hk 60 0 15 = nI (N - 1) → (∀ a, 67 ≤ a → a ≤ 74 → ∀ i, hk a 0 i = if z ≤ i ∧ i < k then h a 0 (i + 1) else h a 0 i) →
    ∃ h', (∀ (d : Nat) (μ : Mem), EvE (M d) 89 21 [some (.inr (3, 40, 0)), some (.inl n), some (.inl x2), some (.inl (nI k))] [] (mm μ m hk) (none, mm μ m h')) ∧ (∀ a, 67 ≤ a → a ≤ 74 → ∀ i, h' a 0 i = if z ≤ i ∧ i < N - 1 then h a 0 (i + 1) else h a 0 i) ∧ ∀ a, ¬ (67 ≤ a ∧ a ≤ 74) → h' a = hk a := by
  intro q
  induction q with
  | zero =>
    intro k hk hq hzk h15 hall
    have : k = N - 1 := by omega
    subst this
    refine ⟨hk, fun d μ => B89_21.mpr ?_, hall, fun a _ => rfl⟩
    simp (disch := omega) only [Nat.reduceAdd, mm4, h15, nI_le']
    exact ⟨fun _ => True.intro, fun e => absurd (Nat.le_refl _) e⟩
  | succ q ih =>
    intro k hk hq hzk h15 hall
    have v0 : vp_in (nI k) 120 := vp_in_nI (by omega) (by decide)
    have v1 : vp_in (nI (k + 1)) 120 := vp_in_nI (by omega) (by decide)
    have k0 : (nI k).toNatClampNeg = k := nI_cl (by omega)
    have k1 : (nI (k + 1)).toNatClampNeg = k + 1 := nI_cl (by omega)
    have g0 : ¬ N - 1 ≤ k := by omega
    obtain ⟨h', e1, e2, e3⟩ := ih (k + 1) (wr8 hk k) (by omega) (by omega) (by rw [wr8_out _ _ _ (by omega)]; exact h15) (by
      intro a a1 a2 i
      rw [wr8_in _ _ _ _ a1 a2]
      by_cases ei : i = k
      · subst ei
        rw [if_pos rfl, if_pos (by omega), hall a a1 a2, if_neg (by omega)]
      · rw [if_neg ei, hall a a1 a2]
        by_cases w : z ≤ i ∧ i < k
        · rw [if_pos w, if_pos (by omega)]
        · rw [if_neg w, if_neg (by omega)])
    refine ⟨h', fun d μ => B89_21.mpr ?_, e2, fun a ha => by rw [e3 a ha, wr8_out _ _ _ ha]⟩
    simp (disch := omega) only [Nat.reduceAdd, mm4, ms4, h15, nI_le', nI_1, g0, k0, k1, v0, v1, not_true_eq_false, not_false_eq_true, true_and, and_true, false_implies, true_implies]
    exact e1 d μ
theorem T_takeOut {m h : Rg} {N z : Nat} {n : Int32} (hN : h 60 0 15 = nI N) (hb : N ≤ 120) (hz : z < N) (hn : h 67 0 z = n) (hu : ∀ i, i < z → ¬ h 67 0 i = n) : ∃ h', MX 2 89 [.inl n] m h none m h' ∧ (∀ a, 67 ≤ a → a ≤ 74 → ∀ k, k < N - 1 → h' a 0 k = h a 0 (shk z k)) ∧ ∀ a, ¬ (67 ≤ a ∧ a ≤ 74) → h' a = cset h 60 0 15 (nI (N - 1)) a := by
  have n5 : nI N - 1 = nI (N - 1) := by
    have := nI_pred (N - 1)
    rw [show N - 1 + 1 = N by omega] at this
    exact this
  obtain ⟨h', e1, e2, e3⟩ := to_loop (m := m) (h := h) (n := n) (x2 := nI z) (N := N) (z := z) (by omega) hb hz (N - 1 - z) z (cset h 60 0 15 (nI (N - 1))) (by omega) (Nat.le_refl _) (cs_s _ _ _ _ _) (by
    intro a a1 a2 i
    rw [cs_a _ _ (by omega), if_neg (by omega)])
  refine ⟨h', fun d μ => M89 ⟨nI z, _, T_placeOf hN hb hz hn hu d μ, ?_⟩, ?_, e3⟩
  · simp only [Nat.reduceAdd, mm4, ms4, hN, n5]
    exact e1 _ μ
  · intro a a1 a2 k hk
    rw [e2 a a1 a2]
    unfold shk
    by_cases w : k < z
    · rw [if_neg (by omega), if_pos w]
    · rw [if_pos (by omega), if_neg w]
