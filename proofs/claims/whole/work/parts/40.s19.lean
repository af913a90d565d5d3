/-! jobs that are due -/
theorem R_again {σ m h : Rg} {ns N G nn gc z pj pg : Nat} {P Q PG QG : Nat → Nat} {v : Int32} (hR : R σ m h ns N G nn gc P Q PG QG pj pg) (hz : z < N) : R (cset σ 19 0 (P z) v) m (cset h 73 0 z v) ns N G nn gc P Q PG QG pj pg := by
  obtain ⟨r1, r2, r3, r4, r5, r6, r7, r8, r9, r10, r11⟩ := hR
  refine ⟨?_, ?_, ?_, ?_, ?_, ?_, ?_, ?_, ?_, ?_, ?_⟩ <;> (try simp (disch := decide) only [cs_a, cs_r])
  · exact r1
  · exact r2
  · exact r3.again r1.2.2.2.1 hz
  · exact r4.again
  · exact r5
  · exact r6
  · exact r7
  · exact r8
  · exact r9
  · exact r10
  · exact r11
def DU (σ h : Rg) (N : Nat) (P : Nat → Nat) (dn : Nat) (pl : Nat → Nat) (nu : Nat → Int32) : Prop :=
  dn ≤ 120 ∧ σ 1 0 10 = nI dn ∧ (∀ i, i < dn → pl i < 120 ∧ σ 35 0 i = nI (pl i)) ∧ (∀ i j, i < j → j < dn → nu i < nu j) ∧ (∀ i j, i < dn → j < dn → pl i = pl j → i = j) ∧
  (∀ k, k < N → h 72 0 k = h 60 0 0 → ∃ i, i < dn ∧ P k = pl i ∧ h 67 0 k = nu i) ∧ ∀ i, i < dn → (∃ k, k < N ∧ P k = pl i) ∨ σ 15 0 (pl i) = -1
theorem DU.tr {σ σ' h h' : Rg} {N N' dn : Nat} {P P' pl : Nat → Nat} {nu : Nat → Int32} (h0 : DU σ h N P dn pl nu) (t : Tr N N' P P' σ σ' h h') : DU σ' h' N' P' dn pl nu := by
  obtain ⟨d1, d2, d3, d4, d5, d6, d7⟩ := h0
  obtain ⟨t1, t2, t3, t4, t5, t6⟩ := t
  refine ⟨d1, t5.trans d2, fun i hi => ?_, d4, d5, fun k hk e => ?_, fun i hi => t2 _ (d7 i hi)⟩
  · rw [t4 35 (by decide)]; exact d3 i hi
  · rw [t3] at e
    obtain ⟨k0, k1, k2, k3, k4, k5⟩ := t1 k hk e
    obtain ⟨i, i1, i2, i3⟩ := d6 k0 k1 k5
    exact ⟨i, i1, k2.symm.trans i2, k3.symm.trans i3⟩
/-- a job of that place and number is due in a state -/
def isD (h : Rg) (N : Nat) (P : Nat → Nat) (st : Int32) (p : Nat) (n : Int32) : Prop := ∃ k, k < N ∧ P k = p ∧ h 67 0 k = n ∧ h 70 0 k = st ∧ h 72 0 k = h 60 0 0
theorem isD.tr {σ σ' h h' : Rg} {N N' p : Nat} {P P' : Nat → Nat} {st n : Int32} (t : Tr N N' P P' σ σ' h h') (h0 : isD h' N' P' st p n) : isD h N P st p n := by
  obtain ⟨k, k1, k2, k3, k4, k5⟩ := h0
  rw [t.2.2.1] at k5
  obtain ⟨k0, q1, q2, q3, q4, q5⟩ := t.1 k k1 k5
  exact ⟨k0, q1, q2.trans k2, q3.trans k3, q4.trans k4, q5⟩
theorem DU.is {σ m h : Rg} {ns N G nn gc dn i pj pg : Nat} {P Q PG QG pl : Nat → Nat} {nu : Nat → Int32} {st : Int32} (h0 : DU σ h N P dn pl nu) (hR : R σ m h ns N G nn gc P Q PG QG pj pg) (hi : i < dn) (hst : ¬ st = -1) : (σ 15 0 (pl i) = st ∧ σ 18 0 (pl i) = σ 1 0 2) ↔ isD h N P st (pl i) (nu i) := by
  obtain ⟨d1, d2, d3, d4, d5, d6, d7⟩ := h0
  obtain ⟨r1, r2, r3, r4, r5, r6, r7, r8, r9, r10, r11⟩ := hR
  obtain ⟨tt, ht0, ht1, ht2⟩ := r10.2.2.2.2.2.1
  constructor
  · rintro ⟨e1, e2⟩
    rcases d7 i hi with ⟨k, k1, k2⟩ | q
    · obtain ⟨f1, f2, f3, f4, f5, f6⟩ := r3 k k1
      rw [k2] at f4 f5
      have e3 : h 72 0 k = h 60 0 0 := by rw [f5, e2, ht1, ht2]
      obtain ⟨i', i1, i2, i3⟩ := d6 k k1 e3
      have := d5 _ _ hi i1 (k2.symm.trans i2)
      subst this
      exact ⟨k, k1, k2, i3, f4.trans e1, e3⟩
    · exact absurd (e1.symm.trans q) hst
  · rintro ⟨k, k1, k2, k3, k4, k5⟩
    obtain ⟨f1, f2, f3, f4, f5, f6⟩ := r3 k k1
    rw [k2] at f4 f5
    exact ⟨f4.symm.trans k4, by rw [← f5, k5, ht1, ht2]⟩
/-- the two lists match -/
def Dch (D : Nat → Prop) (nu : Nat → Int32) : Nat → Nat → List Int32 → Prop
  | 0, _, L => L = []
  | c + 1, i, L => (¬ D i ∧ Dch D nu c (i + 1) L) ∨ ∃ L', L = nu i :: L' ∧ Dch D nu c (i + 1) L'
theorem Dch.mono {D D' : Nat → Prop} {nu : Nat → Int32} (hD : ∀ i, D' i → D i) : ∀ (c i : Nat) (L : List Int32), Dch D nu c i L → Dch D' nu c i L := by
  intro c
  induction c with
  | zero => intro i L h; exact h
  | succ c ih =>
    intro i L h
    rcases h with ⟨h1, h2⟩ | ⟨L', h1, h2⟩
    · exact Or.inl ⟨fun e => h1 (hD i e), ih _ _ h2⟩
    · exact Or.inr ⟨L', h1, ih _ _ h2⟩
def scanL (f : Nat → Bool) (a : Nat → Int32) : Nat → Nat → List Int32
  | 0, _ => []
  | c + 1, j => if f j then a j :: scanL f a c (j + 1) else scanL f a c (j + 1)
theorem scan_skip {f : Nat → Bool} {a : Nat → Int32} : ∀ (x c j : Nat), (∀ k, j ≤ k → k < j + x → f k = false) → scanL f a (x + c) j = scanL f a c (j + x) := by
  intro x
  induction x with
  | zero => intro c j _; rw [Nat.zero_add]; rfl
  | succ x ih =>
    intro c j h
    rw [show x + 1 + c = (x + c) + 1 by omega]
    show (if f j then _ else scanL f a (x + c) (j + 1)) = _
    rw [h j (by omega) (by omega), if_neg (by decide), ih c (j + 1) (fun k k1 k2 => h k (by omega) (by omega)), show j + 1 + x = j + (x + 1) by omega]
theorem scan_none {f : Nat → Bool} {a : Nat → Int32} (c j : Nat) (h : ∀ k, j ≤ k → k < j + c → f k = false) : scanL f a c j = [] := by
  have := scan_skip (f := f) (a := a) c 0 j h
  rw [Nat.add_zero] at this
  rw [this]; rfl
theorem Dch_scan {f : Nat → Bool} {a : Nat → Int32} {N dn : Nat} {D : Nat → Prop} {nu : Nat → Int32} (ha : ∀ i j, i < j → j < N → a i < a j) (hn : ∀ i j, i < j → j < dn → nu i < nu j) (hf : ∀ k, k < N → f k = true → ∃ i, i < dn ∧ a k = nu i) (hD : ∀ i, i < dn → D i → ∃ k, k < N ∧ f k = true ∧ a k = nu i) :
    ∀ (c i x j : Nat), i + c = dn → j + x = N → (∀ k, k < N → f k = true → ∀ i', i' < dn → a k = nu i' → (j ≤ k ↔ i ≤ i')) → Dch D nu c i (scanL f a x j) := by
  have nuI : ∀ i j, i < dn → j < dn → nu i = nu j → i = j := fun i j hi hj e => by
    rcases Nat.lt_trichotomy i j with q | q | q
    · exact absurd e (nI_lt_ne (hn i j q hj))
    · exact q
    · exact absurd e.symm (nI_lt_ne (hn j i q hi))
  have nuL : ∀ i j, i < dn → j < dn → nu i < nu j → i < j := fun i j hi hj e => by
    rcases Nat.lt_trichotomy i j with q | q | q
    · exact q
    · subst q; exact absurd e Int32.lt_irrefl
    · exact absurd (Int32.lt_trans e (hn j i q hi)) Int32.lt_irrefl
  intro c
  induction c with
  | zero =>
    intro i x j hi hj h
    refine scan_none x j (fun k k1 k2 => ?_)
    cases e : f k with
    | false => rfl
    | true =>
      obtain ⟨i', i1, i2⟩ := hf k (by omega) e
      have := (h k (by omega) e i' i1 i2).mp k1
      omega
  | succ c ih =>
    intro i x j hi hj h
    by_cases hx : ∃ k, k < N ∧ f k = true ∧ a k = nu i
    · obtain ⟨k, k1, k2, k3⟩ := hx
      have kj : j ≤ k := (h k k1 k2 i (by omega) k3).mpr (Nat.le_refl i)
      have e : scanL f a x j = nu i :: scanL f a (N - (k + 1)) (k + 1) := by
        rw [show x = (k - j) + (N - (k + 1) + 1) by omega, scan_skip, show j + (k - j) = k by omega]
        · show (if f k then a k :: scanL f a (N - (k + 1)) (k + 1) else _) = _
          rw [k2, if_pos rfl, k3]
        · intro k' q1 q2
          cases e : f k' with
          | false => rfl
          | true =>
            obtain ⟨i', i1, i2⟩ := hf k' (by omega) e
            have q3 := (h k' (by omega) e i' i1 i2).mp q1
            have q4 := ha k' k (by omega) k1
            rw [i2, k3] at q4
            have := nuL _ _ i1 (by omega) q4
            omega
      rw [e]
      refine Or.inr ⟨_, rfl, ih (i + 1) _ (k + 1) (by omega) (by omega) (fun k' q1 q2 i' q3 q4 => ?_)⟩
      constructor
      · intro q5
        have := ha k k' (by omega) q1
        rw [q4, k3] at this
        have := nuL _ _ (by omega) q3 this
        omega
      · intro q5
        have := hn i i' (by omega) q3
        rw [← q4, ← k3] at this
        rcases Nat.lt_trichotomy k k' with q | q | q
        · exact q
        · subst q; exact absurd this Int32.lt_irrefl
        · exact absurd (Int32.lt_trans this (ha k' k q k1)) Int32.lt_irrefl
    · refine Or.inl ⟨fun e => hx (hD i (by omega) e), ih (i + 1) x j (by omega) hj (fun k' q1 q2 i' q3 q4 => ?_)⟩
      have := h k' q1 q2 i' q3 q4
      constructor
      · intro q5
        have := this.mp q5
        by_cases e : i' = i
        · subst e; exact absurd ⟨k', q1, q2, q4⟩ hx
        · omega
      · intro q5; exact this.mpr (by omega)
/-- the model's list -/
def dst (h : Rg) (st : Int32) (k : Nat) : Bool := decide (h 70 0 k = st ∧ h 72 0 k = h 60 0 0)
theorem mean_loop {h : Rg} {N : Nat} {st : Int32} (hN : h 60 0 15 = nI N) (hb : N ≤ 120) : ∀ (c j k : Nat) (m : Rg), j + c = N → k ≤ j → m 40 0 19 = nI k → ∃ m' mn, (∀ a, a ≠ 40 → a ≠ 48 → m' a = m a) ∧ (∀ i, i ≠ 19 → m' 40 0 i = m 40 0 i) ∧ (∀ i, i < k → m' 48 0 i = m 48 0 i) ∧ mn ≤ k + c ∧ m' 40 0 19 = nI mn ∧ Seg (m' 48 0) mn (scanL (dst h st) (h 67 0) c j) k ∧
    ∀ (d : Nat) (μ : Mem), EvE (M d) 104 7 [some (.inr (3, 40, 0)), some (.inl st), some (.inl (nI j))] [] (mm μ m h) (none, mm μ m' h) := by
  intro c
  induction c with
  | zero =>
    intro j k m hj hk h19
    refine ⟨m, k, fun _ _ _ => rfl, fun _ _ => rfl, fun _ _ => rfl, by omega, h19, rfl, fun d μ => ?_⟩
    rw [B104_7]
    simp (disch := omega) only [Nat.reduceAdd, mm4, hN, nI_le']
    exact ⟨fun _ => True.intro, fun e => absurd (by omega) e⟩
  | succ c ih =>
    intro j k m hj hk h19
    have v0 : vp_in (nI j) 120 := vp_in_nI (by omega) (by decide)
    have k0 : (nI j).toNatClampNeg = j := nI_cl (by omega)
    have v1 : vp_in (nI k) 120 := vp_in_nI (by omega) (by decide)
    have k1 : (nI k).toNatClampNeg = k := nI_cl (by omega)
    by_cases e : h 70 0 j = st ∧ h 72 0 j = h 60 0 0
    · obtain ⟨m', mn, a1, a2, a3, a4, a5, a6, a7⟩ := ih (j + 1) (k + 1) (cset (cset m 48 0 k (h 67 0 j)) 40 0 19 (nI (k + 1))) (by omega) (by omega) (by rw [cs_s])
      have e48 : m' 48 0 k = h 67 0 j := by rw [a3 k (by omega), cs_a _ _ (by decide), cs_s]
      have sc : scanL (dst h st) (h 67 0) (c + 1) j = h 67 0 j :: scanL (dst h st) (h 67 0) c (j + 1) := by
        show (if dst h st j then _ else _) = _
        rw [if_pos]; unfold dst; exact decide_eq_true e
      refine ⟨m', mn, fun a b1 b2 => by rw [a1 a b1 b2, cs_a _ _ b1, cs_a _ _ b2], fun i hi => by rw [a2 i hi, cs_i _ _ hi, cs_a _ _ (by decide)], fun i hi => by rw [a3 i (by omega), cs_a _ _ (by decide), cs_i _ _ (by omega)], by omega, a5, ?_, fun d μ => ?_⟩
      · rw [sc]
        refine ⟨?_, e48, a6⟩
        generalize scanL (dst h st) (h 67 0) c (j + 1) = L at a6
        cases L with
        | nil => have : k + 1 = mn := a6; omega
        | cons x L => have := a6.1; omega
      · rw [B104_7]
        simp (disch := omega) only [Nat.reduceAdd, mm3, mm4, ms3, hN, nI_le', k0, k1, h19, B104_78, nI_1]
        exact ⟨fun e => absurd e (by omega), fun _ => ⟨v0, fun e2 => absurd e.1 e2, fun _ => ⟨v0, fun e2 => absurd e.2 e2, fun _ => ⟨v0, v1, a7 d μ⟩⟩⟩⟩
    · obtain ⟨m', mn, a1, a2, a3, a4, a5, a6, a7⟩ := ih (j + 1) k m (by omega) (by omega) h19
      have sc : scanL (dst h st) (h 67 0) (c + 1) j = scanL (dst h st) (h 67 0) c (j + 1) := by
        show (if dst h st j then _ else _) = _
        rw [if_neg]; unfold dst; rw [decide_eq_true_iff]; exact e
      refine ⟨m', mn, a1, a2, a3, by omega, a5, by rw [sc]; exact a6, fun d μ => ?_⟩
      rw [B104_7]
      simp (disch := omega) only [Nat.reduceAdd, mm3, mm4, ms3, hN, nI_le', k0, k1, h19, B104_78, nI_1]
      exact ⟨fun e => absurd e (by omega), fun _ => ⟨v0, fun _ => a7 d μ, fun e1 => ⟨v0, fun _ => a7 d μ, fun e2 => absurd ⟨Classical.not_not.mp e1, Classical.not_not.mp e2⟩ e⟩⟩⟩
theorem T_mean {m h : Rg} {N : Nat} {st : Int32} (hN : h 60 0 15 = nI N) (hb : N ≤ 120) : ∃ m' mn, (∀ a, a ≠ 40 → a ≠ 48 → m' a = m a) ∧ (∀ i, i ≠ 19 → m' 40 0 i = m 40 0 i) ∧ mn ≤ 120 ∧ m' 40 0 19 = nI mn ∧ Seg (m' 48 0) mn (scanL (dst h st) (h 67 0) N 0) 0 ∧ MX 1 104 [.inl st] m h none m' h := by
  obtain ⟨m', mn, a1, a2, a3, a4, a5, a6, a7⟩ := mean_loop (st := st) hN hb N 0 0 (cset m 40 0 19 0) (by omega) (by omega) (by rw [cs_s]; rfl)
  refine ⟨m', mn, fun a b1 b2 => by rw [a1 a b1 b2, cs_a _ _ b1], fun i hi => by rw [a2 i hi, cs_i _ _ hi], by omega, a5, a6, fun d μ => M104 ?_⟩
  rw [ms3]
  exact a7 _ μ
theorem T_isSo1 {m h : Rg} {N z : Nat} {n st : Int32} (hN : h 60 0 15 = nI N) (hb : N ≤ 120) (hz : z < N) (hn : h 67 0 z = n) (hu : ∀ i, i < z → ¬ h 67 0 i = n) (h70 : h 70 0 z = st) (h72 : h 72 0 z = h 60 0 0) : MX 2 105 [.inl n, .inl st] m h (some 1) m h := fun d μ => M105 (by
  have v0 : vp_in (nI z) 120 := vp_in_nI (by omega) (by decide)
  have k0 : (nI z).toNatClampNeg = z := nI_cl (by omega)
  refine ⟨nI z, _, T_placeOf hN hb hz hn hu d μ, fun e => absurd e (nI_pos (by omega)), fun _ => ⟨v0, ?_⟩⟩
  simp only [Nat.reduceAdd, mm4, k0, B105_47, h70, h72]
  exact ⟨fun e => absurd True.intro e, fun _ => ⟨v0, fun e => absurd True.intro e, fun _ => ⟨Or.inr True.intro, True.intro⟩⟩⟩)
theorem T_isSo0 {m h : Rg} {N : Nat} {n st : Int32} (hN : h 60 0 15 = nI N) (hb : N ≤ 120) (hu : ∀ i j, i < N → j < N → h 67 0 i = h 67 0 j → i = j) (hno : ∀ k, k < N → h 67 0 k = n → ¬ (h 70 0 k = st ∧ h 72 0 k = h 60 0 0)) : MX 2 105 [.inl n, .inl st] m h (some 0) m h := fun d μ => M105 (by
  by_cases ex : ∃ k, k < N ∧ h 67 0 k = n
  · obtain ⟨z, hz, hn⟩ := ex
    have v0 : vp_in (nI z) 120 := vp_in_nI (by omega) (by decide)
    have k0 : (nI z).toNatClampNeg = z := nI_cl (by omega)
    refine ⟨nI z, _, T_placeOf hN hb hz hn (fun i hi e => absurd (hu i z (by omega) hz (e.trans hn.symm)) (by omega)) d μ, fun e => absurd e (nI_pos (by omega)), fun _ => ⟨v0, ?_⟩⟩
    simp only [Nat.reduceAdd, mm4, k0, B105_46, B105_47]
    exact ⟨fun _ => ⟨Or.inl True.intro, True.intro⟩, fun e1 => ⟨v0, fun _ => ⟨Or.inl True.intro, True.intro⟩, fun e2 => absurd ⟨Classical.not_not.mp e1, Classical.not_not.mp e2⟩ (hno z hz hn)⟩⟩
  · refine ⟨-1, _, T_placeNo hN hb (fun i hi e => ex ⟨i, hi, e⟩) d μ, fun _ => ?_, fun e => absurd (by decide) e⟩
    simp only [B105_46, B105_47, true_or, true_and])
