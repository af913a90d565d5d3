/-! many ticks -/
theorem up_eta (μ : Mem) (r : Nat) : va_up μ r (μ r) = μ := by
  funext x
  by_cases e : x = r
  · rw [e, va_up_self]
  · rw [va_up_ne _ _ e]
theorem mm_eta (μ : Mem) : mm μ (μ 3) (μ 4) = μ := by
  unfold mm
  rw [up_eta]
  exact up_eta μ 4
theorem T_within {d : Nat} {μ : Mem} {x a b : Int32} : M (d + 1) 72 [.inl x, .inl a, .inl b] μ (some (if x < a ∨ b < x then 0 else 1), μ) := M72 (by
  simp only [B72_14, B72_15]
  refine ⟨fun e => ?_, fun e => ⟨fun e2 => ?_, fun e2 => ?_⟩⟩
  · rw [if_pos (Or.inl e)]; exact ⟨Or.inl True.intro, rfl⟩
  · rw [if_pos (Or.inr e2)]; exact ⟨Or.inl True.intro, rfl⟩
  · rw [if_neg (fun q => q.elim e e2)]; exact ⟨Or.inr True.intro, rfl⟩)
theorem T_mwithin {d : Nat} {μ : Mem} {x a b : Int32} : M (d + 1) 74 [.inl x, .inl a, .inl b] μ (some (if x < a ∨ b < x then 0 else 1), μ) := M74 (by
  simp only [B74_14, B74_15]
  refine ⟨fun e => ?_, fun e => ⟨fun e2 => ?_, fun e2 => ?_⟩⟩
  · rw [if_pos (Or.inl e)]; exact ⟨Or.inl True.intro, rfl⟩
  · rw [if_pos (Or.inr e2)]; exact ⟨Or.inl True.intro, rfl⟩
  · rw [if_neg (fun q => q.elim e e2)]; exact ⟨Or.inr True.intro, rfl⟩)
theorem StepM.refl {m : Rg} : StepM m m := ⟨fun _ _ _ _ _ _ _ => rfl, fun _ _ _ _ => rfl, fun _ => ⟨rfl, rfl, rfl, rfl⟩⟩
theorem StepM.trans {m m1 m2 : Rg} (a : StepM m m1) (b : StepM m1 m2) : StepM m m2 := by
  refine ⟨fun x h1 h2 h3 h4 h5 h6 => (b.1 x h1 h2 h3 h4 h5 h6).trans (a.1 x h1 h2 h3 h4 h5 h6), fun i h1 h2 h3 => (b.2.1 i h1 h2 h3).trans (a.2.1 i h1 h2 h3), fun e => ?_⟩
  obtain ⟨a1, a2, a3, a4⟩ := a.2.2 e
  obtain ⟨b1, b2, b3, b4⟩ := b.2.2 (by rw [a.2.1 14 (by decide) (by decide) (by decide)]; exact e)
  exact ⟨b1.trans a1, b2.trans a2, b3.trans a3, b4.trans a4⟩
def CN : Nat → Rg → Rg → Prop
  | 0, σ, σ' => σ' = σ
  | n + 1, σ, σ' => ∃ σ1, CX 9 3 1 0 [] σ none σ1 ∧ CN n σ1 σ'
def MN : Nat → Rg → Rg → Rg → Rg → Prop
  | 0, m, h, m', h' => m' = m ∧ h' = h
  | n + 1, m, h, m', h' => ∃ m1 h1, MX 63 112 [] m h none m1 h1 ∧ MN n m1 h1 m' h'
theorem SIM_steps {ns pd : Nat} (hns : 0 < ns) : ∀ (n : Nat) {σ m h : Rg} {N G nn gc t : Nat} {P Q PG QG : Nat → Nat}, R σ m h ns N G nn gc P Q PG QG 1000 1000 → σ 1 0 11 = -1 → h 60 0 0 = nI t → t + n ≤ 200000 → m 40 0 14 = 0 → (∃ tn, TL σ m tn) → US σ m pd → nn + 1700 * n < 1073741824 → gc + 1700 * n < 1073741824 →
    ∃ σ' m' h' N' G' P' Q' PG' QG' nn' gc', CN n σ σ' ∧ MN n m h m' h' ∧ StepM m m' ∧ m' 40 0 14 = 0 ∧ (∃ tn, TL σ' m' tn) ∧ US σ' m' pd ∧ R σ' m' h' ns N' G' nn' gc' P' Q' PG' QG' 1000 1000 ∧ nn' ≤ nn + 1700 * n ∧ gc' ≤ gc + 1700 * n ∧ σ' 1 0 11 = -1 ∧ h' 60 0 0 = nI (t + n) := by
  intro n
  induction n with
  | zero =>
    intro σ m h N G nn gc t P Q PG QG hR h11 h0 ht h14 hT hU hnn hgc
    exact ⟨σ, m, h, N, G, P, Q, PG, QG, nn, gc, rfl, ⟨rfl, rfl⟩, StepM.refl, h14, hT, hU, hR, by omega, by omega, h11, h0⟩
  | succ n ih =>
    intro σ m h N G nn gc t P Q PG QG hR h11 h0 ht h14 hT hU hnn hgc
    rw [Nat.mul_succ] at hnn hgc ⊢
    have q0 : t + 1 ≤ 200000 := by omega
    have q1 : nn + 1700 < 1073741824 := Nat.lt_of_le_of_lt (Nat.add_le_add_left (Nat.le_add_left 1700 (1700 * n)) nn) hnn
    have q2 : gc + 1700 < 1073741824 := Nat.lt_of_le_of_lt (Nat.add_le_add_left (Nat.le_add_left 1700 (1700 * n)) gc) hgc
    obtain ⟨σ1, m1, h1, N1, G1, P1, Q1, PG1, QG1, nn1, gc1, a1, a2, a3, a4, a5, a6, a7, a8, a9, a10⟩ := SIM_step hR hns h11 h0 q0 (Or.inl ⟨h14, hT⟩) hU q1 q2
    have e14 : m1 40 0 14 = 0 := by rw [a3.2.1 14 (by decide) (by decide) (by decide)]; exact h14
    have hT1 : ∃ tn, TL σ1 m1 tn := by
      rcases a4 0 with ⟨-, q⟩ | ⟨q, -⟩
      · exact q
      · exact absurd e14 q
    obtain ⟨σ', m', h', N', G', P', Q', PG', QG', nn', gc', b1, b2, b3, b4, b5, b6, b7, b8, b9, b10, b11⟩ := ih a6 a9 a10 (by omega) e14 hT1 a5 (by omega) (by omega)
    exact ⟨σ', m', h', N', G', P', Q', PG', QG', nn', gc', ⟨σ1, a1, b1⟩, ⟨m1, h1, a2, b2⟩, a3.trans b3, b4, b5, b6, b7, by omega, by omega, b10, by rw [b11]; congr 1; omega⟩
theorem E52 {x : Nat} (hx : x ≤ 500) : ∀ (n i : Nat) (σ σ' : Rg), i + n = x → CN n σ σ' → ∀ (d : Nat) (μ : Mem), EvE (M (d + 9)) 52 42 [some (.inr (0, 0, 0)), some (.inl (nI x)), some (.inl (nI i))] [] (va_up μ 1 σ) (some (σ' 1 0 2), va_up μ 1 σ') := by
  intro n
  induction n with
  | zero =>
    intro i σ σ' hi hC d μ
    have : σ' = σ := hC
    subst this
    rw [B52_42]
    simp (disch := omega) only [Nat.reduceAdd, va_up_self, nI_le']
    exact ⟨fun _ => True.intro, fun e => absurd (by omega) e⟩
  | succ n ih =>
    intro i σ σ' hi hC d μ
    obtain ⟨σ1, c1, c2⟩ := hC
    rw [B52_42]
    simp (disch := omega) only [Nat.reduceAdd, va_up_self, nI_le', nI_1]
    exact ⟨fun e => absurd e (by omega), fun _ => ⟨_, c1 d μ 1, ih (i + 1) σ1 σ' (by omega) c2 d μ⟩⟩
theorem E113 {x : Nat} (hx : x ≤ 500) : ∀ (n i : Nat) (m h m' h' : Rg), i + n = x → MN n m h m' h' → ∀ (d : Nat) (μ : Mem), EvE (M (d + 63)) 113 39 [some (.inr (3, 40, 0)), some (.inl (nI x)), some (.inl (nI i))] [] (mm μ m h) (some (h' 60 0 0), mm μ m' h') := by
  intro n
  induction n with
  | zero =>
    intro i m h m' h' hi hC d μ
    obtain ⟨e1, e2⟩ : m' = m ∧ h' = h := hC
    subst e1; subst e2
    rw [B113_39]
    simp (disch := omega) only [Nat.reduceAdd, mm4, nI_le']
    exact ⟨fun _ => True.intro, fun e => absurd (by omega) e⟩
  | succ n ih =>
    intro i m h m' h' hi hC d μ
    obtain ⟨m1, h1, c1, c2⟩ := hC
    rw [B113_39]
    simp (disch := omega) only [Nat.reduceAdd, mm4, nI_le', nI_1]
    exact ⟨fun e => absurd e (by omega), fun _ => ⟨_, c1 d μ, ih (i + 1) m1 h1 m' h' (by omega) c2 d μ⟩⟩
