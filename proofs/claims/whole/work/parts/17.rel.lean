/-! THE RELATION between the class's house σ and the model's (m, h) -/
def JF (a67 a68 a69 a70 a72 a73 n12 n13 n14 n15 n18 n19 : Nat → Int32) (N : Nat) (P : Nat → Nat) : Prop := ∀ k, k < N → a67 k = n12 (P k) ∧ a68 k = n13 (P k) ∧ a69 k = n14 (P k) ∧ a70 k = n15 (P k) ∧ a72 k = n18 (P k) ∧ a73 k = n19 (P k)
def JB1 (b67 b68 b69 b70 b72 b73 : Int32) (ns nn : Nat) : Prop := (∃ n, n < nn ∧ b67 = nI n) ∧ (∃ s, s < ns ∧ b68 = nI s) ∧ (∃ q, q < 8 ∧ b69 = nI q) ∧ (b70 = 0 ∨ b70 = 1 ∨ b70 = 2 ∨ b70 = 3) ∧ (b70 = 2 ∨ b70 = 3 → ∃ s, s + 1 < ns ∧ b68 = nI s) ∧ (b70 = 0 → b72 = -4)
def JB (a67 a68 a69 a70 a72 a73 : Nat → Int32) (N ns nn : Nat) : Prop := (∀ k, k < N → JB1 (a67 k) (a68 k) (a69 k) (a70 k) (a72 k) (a73 k) ns nn) ∧ ∀ i j, i < j → j < N → a67 i < a67 j
/-- a job that asks and its child; a job and who asks by it; a guest and its job -/
def LK (a67 a68 a70 a71 a74 a76 n16 n17 n25 : Nat → Int32) (N : Nat) (P : Nat → Nat) (G : Nat) (PG : Nat → Nat) (pj pg : Nat) : Prop :=
  (∀ k, k < N → k ≠ pj → (n17 (P k) = -1 ∧ a74 k = -1) ∨ (a70 k = 2 ∧ ∃ i, i < N ∧ n17 (P k) = nI (P i) ∧ a74 k = a67 i ∧ n16 (P i) = nI (P k) ∧ a71 i = a67 k ∧ a68 i = a68 k + 1)) ∧
  (∀ i, i < N → n16 (P i) = -1 ∨ (∃ k, k < N ∧ k ≠ pj ∧ n16 (P i) = nI (P k) ∧ n17 (P k) = nI (P i)) ∨ (∃ j, j < G ∧ j ≠ pg ∧ n16 (P i) = nI (1000 + PG j) ∧ n25 (PG j) = nI (P i))) ∧
  (∀ j, j < G → j ≠ pg → (n25 (PG j) = -1 ∧ a76 j = -3) ∨ (∃ i, i < N ∧ n25 (PG j) = nI (P i) ∧ a76 j = a67 i ∧ n16 (P i) = nI (1000 + PG j) ∧ a71 i = -4 ∧ a68 i = 0)) ∧
  ∀ i, i < N → a71 i = -4 ∨ ∃ n, n < 1073741824 ∧ a71 i = nI n
def RQ (w4 : Nat → Int32) (n7 : Nat → Nat → Int32) (a65 a66 a67 a68 a70 : Nat → Int32) (N : Nat) (P : Nat → Nat) (ns : Nat) : Prop :=
  ∀ s, s < ns → ∃ w, w ≤ 20 ∧ w4 s = nI w ∧ a66 s = nI w ∧ (∀ i, i < w → ∃ k, k < N ∧ n7 s i = nI (P k) ∧ a65 (20 * s + i) = a67 k ∧ a70 k = 0 ∧ a68 k = nI s) ∧ ∀ i j, i < w → j < w → n7 s i = n7 s j → i = j
def hpr (a68 a70 : Nat → Int32) (s : Int32) (k : Nat) : Bool := decide (a68 k = s ∧ ¬ a70 k = 0)
def HU (w5 : Nat → Int32) (a68 a70 : Nat → Int32) (N ns : Nat) : Prop := ∀ s, s < ns → w5 s = nI (cnt (hpr a68 a70 (nI s)) N)
def SV (w6 w7 : Nat → Int32) (n5 n6 : Nat → Nat → Int32) (a61 a62 a63 a64 : Nat → Int32) : Prop :=
  ∀ s, s < 6 → (∀ t, t < 7 → n5 s t = a63 (13 * s + (6 + t))) ∧ (∀ q, q < 8 → n6 s q = a64 (8 * s + q)) ∧ w7 s = a62 s ∧ (w6 s = a61 s ∨ (w6 s = -4 ∧ a61 s = -1))
def RU1 (f : Nat → Int32) : Prop := (∃ v, 1 ≤ v ∧ v ≤ 40 ∧ f 0 = nI v) ∧ (∃ v, v ≤ 4 ∧ f 1 = nI v) ∧ (∃ v, v ≤ 9 ∧ f 2 = nI v) ∧ (∃ v, v ≤ 60 ∧ f 3 = nI v) ∧ (∃ v, v ≤ 9 ∧ f 4 = nI v) ∧ (∃ v, 1 ≤ v ∧ v ≤ 60 ∧ f 5 = nI v) ∧ (f 6 = 0 ∨ f 6 = 1) ∧ (∃ v, 1 ≤ v ∧ v ≤ 9 ∧ f 7 = nI v) ∧ (∃ v, 1 ≤ v ∧ v ≤ 9 ∧ f 8 = nI v) ∧ ∃ v, v ≤ 20 ∧ f 9 = nI v
def RU (n4 : Nat → Nat → Int32) (b41 b42 : Nat → Int32) (ns : Nat) : Prop := ∀ s, s < ns → (∀ j, j < 9 → n4 s j = b41 (9 * s + j)) ∧ n4 s 9 = b42 s ∧ RU1 (n4 s)
def SC (c1 c2 c3 c4 c9 g5 g6 g7 g8 g9 g10 b0 b15 b16 b22 b23 b24 b25 b26 b27 b28 m2 m3 m4 : Int32) (N G ns nn gc : Nat) : Prop :=
  (ns ≤ 6 ∧ c1 = nI ns ∧ m2 = nI ns) ∧ b15 = nI N ∧ b22 = nI G ∧ (nn < 1073741824 ∧ c9 = nI nn ∧ b16 = nI nn) ∧ (gc < 1073741824 ∧ g7 = nI gc ∧ b23 = nI gc) ∧ (∃ t, t ≤ 200000 ∧ c2 = nI t ∧ b0 = nI t) ∧ (c3 = b28 ∧ (b28 = 0 ∨ b28 = 1)) ∧ c4 = b27 ∧ g8 = b24 ∧ g9 = b25 ∧ g10 = b26 ∧ (g5 = m3 ∧ ∃ v, 1 ≤ v ∧ v ≤ 60 ∧ m3 = nI v) ∧ (g6 = m4 ∧ ∃ v, v ≤ 3 ∧ m4 = nI v)
def GF (a75 a77 a78 a79 n24 n26 n27 : Nat → Int32) (G : Nat) (PG : Nat → Nat) (gc : Nat) : Prop := (∀ j, j < G → a75 j = n24 (PG j) ∧ a77 j = n26 (PG j) ∧ a78 j = n27 (PG j) ∧ (∃ q, q < 8 ∧ a75 j = nI q) ∧ ∃ n, n ≤ gc ∧ a79 j = nI n) ∧ ∀ i j, i < j → j < G → a79 i < a79 j
def R (σ m h : Rg) (ns N G nn gc : Nat) (P Q PG QG : Nat → Nat) (pj pg : Nat) : Prop :=
  LN (σ 9 0) (σ 10 0) (σ 11 0) 120 N P Q ∧
  LN (σ 21 0) (σ 22 0) (σ 23 0) 100 G PG QG ∧
  JF (h 67 0) (h 68 0) (h 69 0) (h 70 0) (h 72 0) (h 73 0) (σ 12 0) (σ 13 0) (σ 14 0) (σ 15 0) (σ 18 0) (σ 19 0) N P ∧
  JB (h 67 0) (h 68 0) (h 69 0) (h 70 0) (h 72 0) (h 73 0) N ns nn ∧
  LK (h 67 0) (h 68 0) (h 70 0) (h 71 0) (h 74 0) (h 76 0) (σ 16 0) (σ 17 0) (σ 25 0) N P G PG pj pg ∧
  RQ (fun s => σ 3 s 4) (σ 7) (h 65 0) (h 66 0) (h 67 0) (h 68 0) (h 70 0) N P ns ∧
  HU (fun s => σ 3 s 5) (h 68 0) (h 70 0) N ns ∧
  SV (fun s => σ 3 s 6) (fun s => σ 3 s 7) (σ 5) (σ 6) (h 61 0) (h 62 0) (h 63 0) (h 64 0) ∧
  RU (σ 4) (m 41 0) (m 42 0) ns ∧
  SC (σ 1 0 1) (σ 1 0 2) (σ 1 0 3) (σ 1 0 4) (σ 8 0 9) (σ 20 0 5) (σ 20 0 6) (σ 20 0 7) (σ 20 0 8) (σ 20 0 9) (σ 20 0 10) (h 60 0 0) (h 60 0 15) (h 60 0 16) (h 60 0 22) (h 60 0 23) (h 60 0 24) (h 60 0 25) (h 60 0 26) (h 60 0 27) (h 60 0 28) (m 40 0 2) (m 40 0 3) (m 40 0 4) N G ns nn gc ∧
  GF (h 75 0) (h 77 0) (h 78 0) (h 79 0) (σ 24 0) (σ 26 0) (σ 27 0) G PG gc
/-- nothing is pending: an index that no job, no guest has -/
abbrev NOP : Nat := 1000
theorem cs_f (σ : Rg) (a o i : Nat) (v : Int32) : cset σ a o i v a = va_up (σ a) o (va_up (σ a o) i v) := by
  unfold cset crow; rw [va_up_self]
theorem nI_lt_ne {a b : Int32} (h : a < b) : ¬ a = b := by
  intro e; rw [e] at h; exact Int32.lt_irrefl h
theorem JB.uniq {a67 a68 a69 a70 a72 a73 : Nat → Int32} {N ns nn : Nat} (h : JB a67 a68 a69 a70 a72 a73 N ns nn) {i j : Nat} (hi : i < N) (hj : j < N) (e : a67 i = a67 j) : i = j := by
  rcases Nat.lt_trichotomy i j with q | q | q
  · exact absurd e (nI_lt_ne (h.2 i j q hj))
  · exact q
  · exact absurd e.symm (nI_lt_ne (h.2 j i q hi))
theorem shk_lt {z k N : Nat} (hz : z < N) (hk : k < N - 1) : shk z k < N := by unfold shk; split <;> omega
theorem shk_ne (z k : Nat) : ¬ shk z k = z := by unfold shk; split <;> omega
theorem shk_mono {z i j : Nat} (h : i < j) : shk z i < shk z j := by unfold shk; split <;> split <;> omega
theorem shk_inj {z i j : Nat} (h : shk z i = shk z j) : i = j := by unfold shk at h; split at h <;> split at h <;> omega
theorem shk_onto {z i N : Nat} (h : ¬ i = z) (hi : i < N) (hz : z < N) : ∃ k, k < N - 1 ∧ shk z k = i := by
  rcases Nat.lt_or_ge i z with q | q
  · exact ⟨i, by omega, by unfold shk; rw [if_pos q]⟩
  · exact ⟨i - 1, by omega, by unfold shk; rw [if_neg (by omega)]; omega⟩
/-- JF -/
theorem JF.rem {a67 a68 a69 a70 a72 a73 b67 b68 b69 b70 b72 b73 n12 n13 n14 n15 n18 n19 : Nat → Int32} {N z : Nat} {P : Nat → Nat} {v : Int32} (h : JF a67 a68 a69 a70 a72 a73 n12 n13 n14 n15 n18 n19 N P) (hi : ∀ i j, i < N → j < N → P i = P j → i = j) (hz : z < N) (e67 : ∀ k, k < N - 1 → b67 k = a67 (shk z k)) (e68 : ∀ k, k < N - 1 → b68 k = a68 (shk z k)) (e69 : ∀ k, k < N - 1 → b69 k = a69 (shk z k)) (e70 : ∀ k, k < N - 1 → b70 k = a70 (shk z k)) (e72 : ∀ k, k < N - 1 → b72 k = a72 (shk z k)) (e73 : ∀ k, k < N - 1 → b73 k = a73 (shk z k)) : JF b67 b68 b69 b70 b72 b73 n12 n13 n14 (va_up n15 (P z) v) n18 n19 (N - 1) (fun k => P (shk z k)) := by
  intro k hk
  obtain ⟨h1, h2, h3, h4, h5, h6⟩ := h (shk z k) (shk_lt hz hk)
  rw [e67 k hk, e68 k hk, e69 k hk, e70 k hk, e72 k hk, e73 k hk]
  refine ⟨h1, h2, h3, ?_, h5, h6⟩
  rw [h4]
  exact (va_up_ne _ _ (fun e => shk_ne z k (hi _ _ (shk_lt hz hk) hz e))).symm
theorem JF.add {a67 a68 a69 a70 a72 a73 n12 n13 n14 n15 n18 n19 : Nat → Int32} {N p : Nat} {P : Nat → Nat} {v12 v13 v14 v15 v18 v19 : Int32} (h : JF a67 a68 a69 a70 a72 a73 n12 n13 n14 n15 n18 n19 N P) (hp : ∀ k, k < N → ¬ P k = p) : JF (va_up a67 N v12) (va_up a68 N v13) (va_up a69 N v14) (va_up a70 N v15) (va_up a72 N v18) (va_up a73 N v19) (va_up n12 p v12) (va_up n13 p v13) (va_up n14 p v14) (va_up n15 p v15) (va_up n18 p v18) (va_up n19 p v19) (N + 1) (snoc P N p) := by
  intro k hk
  unfold snoc
  by_cases e : k = N
  · subst e
    rw [if_pos rfl]
    simp only [va_up_self, and_self]
  · have hk' : k < N := by omega
    obtain ⟨h1, h2, h3, h4, h5, h6⟩ := h k hk'
    rw [if_neg e, va_up_ne _ _ e, va_up_ne _ _ e, va_up_ne _ _ e, va_up_ne _ _ e, va_up_ne _ _ e, va_up_ne _ _ e, va_up_ne _ _ (hp k hk'), va_up_ne _ _ (hp k hk'), va_up_ne _ _ (hp k hk'), va_up_ne _ _ (hp k hk'), va_up_ne _ _ (hp k hk'), va_up_ne _ _ (hp k hk')]
    exact ⟨h1, h2, h3, h4, h5, h6⟩
theorem up_rel {f g : Nat → Int32} {P : Nat → Nat} {N kk k : Nat} {v : Int32} (hi : ∀ i j, i < N → j < N → P i = P j → i = j) (hk : k < N) (hkk : kk < N) (h : f k = g (P k)) : va_up f kk v k = va_up g (P kk) v (P k) := by
  unfold va_up
  by_cases e : k = kk
  · rw [if_pos e, if_pos (by rw [e])]
  · rw [if_neg e, if_neg (fun q => e (hi _ _ hk hkk q))]; exact h
theorem JF.become {a67 a68 a69 a70 a72 a73 n12 n13 n14 n15 n18 n19 : Nat → Int32} {N kk : Nat} {P : Nat → Nat} {u v : Int32} (h : JF a67 a68 a69 a70 a72 a73 n12 n13 n14 n15 n18 n19 N P) (hi : ∀ i j, i < N → j < N → P i = P j → i = j) (hk : kk < N) : JF a67 a68 a69 (va_up a70 kk u) (va_up a72 kk v) a73 n12 n13 n14 (va_up n15 (P kk) u) (va_up n18 (P kk) v) n19 N P := by
  intro k hk'
  obtain ⟨h1, h2, h3, h4, h5, h6⟩ := h k hk'
  exact ⟨h1, h2, h3, up_rel hi hk' hk h4, up_rel hi hk' hk h5, h6⟩
theorem JF.again {a67 a68 a69 a70 a72 a73 n12 n13 n14 n15 n18 n19 : Nat → Int32} {N kk : Nat} {P : Nat → Nat} {u : Int32} (h : JF a67 a68 a69 a70 a72 a73 n12 n13 n14 n15 n18 n19 N P) (hi : ∀ i j, i < N → j < N → P i = P j → i = j) (hk : kk < N) : JF a67 a68 a69 a70 a72 (va_up a73 kk u) n12 n13 n14 n15 n18 (va_up n19 (P kk) u) N P := by
  intro k hk'
  obtain ⟨h1, h2, h3, h4, h5, h6⟩ := h k hk'
  exact ⟨h1, h2, h3, h4, h5, up_rel hi hk' hk h6⟩
/-- JB -/
theorem JB.rem {a67 a68 a69 a70 a72 a73 b67 b68 b69 b70 b72 b73 : Nat → Int32} {N ns nn z : Nat} (h : JB a67 a68 a69 a70 a72 a73 N ns nn) (hz : z < N) (e67 : ∀ k, k < N - 1 → b67 k = a67 (shk z k)) (e68 : ∀ k, k < N - 1 → b68 k = a68 (shk z k)) (e69 : ∀ k, k < N - 1 → b69 k = a69 (shk z k)) (e70 : ∀ k, k < N - 1 → b70 k = a70 (shk z k)) (e72 : ∀ k, k < N - 1 → b72 k = a72 (shk z k)) (e73 : ∀ k, k < N - 1 → b73 k = a73 (shk z k)) : JB b67 b68 b69 b70 b72 b73 (N - 1) ns nn := by
  constructor
  · intro k hk
    rw [e67 k hk, e68 k hk, e69 k hk, e70 k hk, e72 k hk, e73 k hk]
    exact h.1 _ (shk_lt hz hk)
  · intro i j hij hj
    rw [e67 i (by omega), e67 j hj]
    exact h.2 _ _ (shk_mono hij) (shk_lt hz hj)
theorem JB1.mono {b67 b68 b69 b70 b72 b73 : Int32} {ns nn nn' : Nat} (h : JB1 b67 b68 b69 b70 b72 b73 ns nn) (hn : nn ≤ nn') : JB1 b67 b68 b69 b70 b72 b73 ns nn' := by
  obtain ⟨⟨n, h1, h2⟩, h3⟩ := h
  exact ⟨⟨n, by omega, h2⟩, h3⟩
theorem JB.add {a67 a68 a69 a70 a72 a73 : Nat → Int32} {N ns nn s q : Nat} (h : JB a67 a68 a69 a70 a72 a73 N ns nn) (hn : nn < 1073741824) (hs : s < ns) (hq : q < 8) : JB (va_up a67 N (nI nn)) (va_up a68 N (nI s)) (va_up a69 N (nI q)) (va_up a70 N 0) (va_up a72 N (-4)) (va_up a73 N 0) (N + 1) ns (nn + 1) := by
  constructor
  · intro k hk
    by_cases e : k = N
    · subst e
      simp only [va_up_self]
      exact ⟨⟨nn, by omega, rfl⟩, ⟨s, hs, rfl⟩, ⟨q, hq, rfl⟩, Or.inl rfl, fun e => by rcases e with e | e <;> exact absurd e (by decide), fun _ => rfl⟩
    · rw [va_up_ne _ _ e, va_up_ne _ _ e, va_up_ne _ _ e, va_up_ne _ _ e, va_up_ne _ _ e, va_up_ne _ _ e]
      exact (h.1 k (by omega)).mono (by omega)
  · intro i j hij hj
    rw [va_up_ne _ _ (show i ≠ N by omega)]
    by_cases e : j = N
    · subst e
      rw [va_up_self]
      obtain ⟨⟨n, h1, h2⟩, -⟩ := h.1 i hij
      rw [h2]
      exact nI_lt h1 (by omega)
    · rw [va_up_ne _ _ e]
      exact h.2 i j hij (by omega)
theorem JB.become {a67 a68 a69 a70 a72 a73 : Nat → Int32} {N ns nn kk : Nat} {u v : Int32} (h : JB a67 a68 a69 a70 a72 a73 N ns nn) (hk : kk < N) (hu : u = 1 ∨ ((u = 2 ∨ u = 3) ∧ ∃ s, s + 1 < ns ∧ a68 kk = nI s)) : JB a67 a68 a69 (va_up a70 kk u) (va_up a72 kk v) a73 N ns nn := by
  refine ⟨fun k hk' => ?_, h.2⟩
  by_cases e : k = kk
  · subst e
    obtain ⟨h1, h2, h3, h4, h5, h8⟩ := h.1 k hk'
    rw [va_up_self, va_up_self]
    rcases hu with rfl | ⟨rfl | rfl, hs⟩
    · exact ⟨h1, h2, h3, Or.inr (Or.inl rfl), fun e => by rcases e with e | e <;> exact absurd e (by decide), fun q => absurd q (by decide)⟩
    · exact ⟨h1, h2, h3, Or.inr (Or.inr (Or.inl rfl)), fun _ => hs, fun q => absurd q (by decide)⟩
    · exact ⟨h1, h2, h3, Or.inr (Or.inr (Or.inr rfl)), fun _ => hs, fun q => absurd q (by decide)⟩
  · rw [va_up_ne _ _ e, va_up_ne _ _ e]
    exact h.1 k hk'
theorem JB.again {a67 a68 a69 a70 a72 a73 b73 : Nat → Int32} {N ns nn : Nat} (h : JB a67 a68 a69 a70 a72 a73 N ns nn) : JB a67 a68 a69 a70 a72 b73 N ns nn := h
/-- GF -/
theorem GF.rem {a75 a77 a78 a79 b75 b77 b78 b79 n24 n26 n27 : Nat → Int32} {G z gc : Nat} {PG : Nat → Nat} (h : GF a75 a77 a78 a79 n24 n26 n27 G PG gc) (hz : z < G) (e75 : ∀ k, k < G - 1 → b75 k = a75 (shk z k)) (e77 : ∀ k, k < G - 1 → b77 k = a77 (shk z k)) (e78 : ∀ k, k < G - 1 → b78 k = a78 (shk z k)) (e79 : ∀ k, k < G - 1 → b79 k = a79 (shk z k)) : GF b75 b77 b78 b79 n24 n26 n27 (G - 1) (fun k => PG (shk z k)) gc := by
  constructor
  · intro k hk
    rw [e75 k hk, e77 k hk, e78 k hk, e79 k hk]
    exact h.1 _ (shk_lt hz hk)
  · intro i j hij hj
    rw [e79 i (by omega), e79 j hj]
    exact h.2 _ _ (shk_mono hij) (shk_lt hz hj)
theorem GF.set77 {a75 a77 a78 a79 n24 n26 n27 : Nat → Int32} {G z gc : Nat} {PG : Nat → Nat} {v : Int32} (h : GF a75 a77 a78 a79 n24 n26 n27 G PG gc) (hi : ∀ i j, i < G → j < G → PG i = PG j → i = j) (hz : z < G) : GF a75 (va_up a77 z v) a78 a79 n24 (va_up n26 (PG z) v) n27 G PG gc := by
  refine ⟨fun j hj => ?_, h.2⟩
  obtain ⟨h1, h2, h3, h4, h5⟩ := h.1 j hj
  exact ⟨h1, up_rel hi hj hz h2, h3, h4, h5⟩
theorem GF.set78 {a75 a77 a78 a79 n24 n26 n27 : Nat → Int32} {G z gc : Nat} {PG : Nat → Nat} {v : Int32} (h : GF a75 a77 a78 a79 n24 n26 n27 G PG gc) (hi : ∀ i j, i < G → j < G → PG i = PG j → i = j) (hz : z < G) : GF a75 a77 (va_up a78 z v) a79 n24 n26 (va_up n27 (PG z) v) G PG gc := by
  refine ⟨fun j hj => ?_, h.2⟩
  obtain ⟨h1, h2, h3, h4, h5⟩ := h.1 j hj
  exact ⟨h1, h2, up_rel hi hj hz h3, h4, h5⟩
/-- HU -/
theorem cnt_congr {p q : Nat → Bool} : ∀ {n : Nat}, (∀ k, k < n → p k = q k) → cnt p n = cnt q n := by
  intro n
  induction n with
  | zero => intro _; rfl
  | succ n ih =>
    intro h
    show cnt p n + _ = cnt q n + _
    rw [ih (fun k hk => h k (by omega)), h n (by omega)]
theorem cnt_rem {p q : Nat → Bool} {z : Nat} : ∀ {n : Nat}, z < n → (∀ k, k < n - 1 → q k = p (shk z k)) → cnt q (n - 1) + (if p z then 1 else 0) = cnt p n := by
  intro n
  induction n with
  | zero => intro h; omega
  | succ n ih =>
    intro hz h
    rw [show n + 1 - 1 = n by omega] at h ⊢
    by_cases e : z = n
    · subst e
      show cnt q z + _ = cnt p z + _
      rw [cnt_congr (p := q) (q := p) (fun k hk => by rw [h k hk]; unfold shk; rw [if_pos hk])]
    · have hz' : z < n := by omega
      have := ih hz' (fun k hk => h k (by omega))
      show cnt q n + _ = cnt p n + (if p n then 1 else 0)
      rw [← this]
      have e1 : q (n - 1) = p n := by
        rw [h (n - 1) (by omega)]; unfold shk; rw [if_neg (by omega), show n - 1 + 1 = n by omega]
      have e2 : cnt q n = cnt q (n - 1) + (if q (n - 1) then 1 else 0) := by
        have : cnt q (n - 1 + 1) = cnt q (n - 1) + (if q (n - 1) then 1 else 0) := rfl
        rw [show n - 1 + 1 = n by omega] at this
        exact this
      rw [e2, e1]; omega
theorem cnt_set {p q : Nat → Bool} {z : Nat} : ∀ {n : Nat}, z < n → (∀ k, k < n → ¬ k = z → q k = p k) → cnt q n + (if p z then 1 else 0) = cnt p n + (if q z then 1 else 0) := by
  intro n
  induction n with
  | zero => intro h; omega
  | succ n ih =>
    intro hz h
    show cnt q n + (if q n then 1 else 0) + _ = cnt p n + (if p n then 1 else 0) + _
    by_cases e : z = n
    · subst e
      rw [cnt_congr (p := q) (q := p) (fun k hk => h k (by omega) (by omega))]
      omega
    · have := ih (by omega) (fun k hk => h k (by omega))
      rw [h n (by omega) (fun q => e q.symm)]
      omega
theorem nI_up {a b : Nat} (h : a = b + 1) : nI b + 1 = nI a := by rw [h]; exact nI_1 b
theorem nI_dn {a b : Nat} (h : a = b + 1) : nI a - 1 = nI b := by rw [h]; exact nI_pred b
