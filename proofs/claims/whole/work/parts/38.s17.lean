/-! the guests' patience -/
theorem R_m {σ m m' h : Rg} {ns N G nn gc pj pg : Nat} {P Q PG QG : Nat → Nat} (hR : R σ m h ns N G nn gc P Q PG QG pj pg) (e41 : m' 41 = m 41) (e42 : m' 42 = m 42) (e2 : m' 40 0 2 = m 40 0 2) (e3 : m' 40 0 3 = m 40 0 3) (e4 : m' 40 0 4 = m 40 0 4) : R σ m' h ns N G nn gc P Q PG QG pj pg := by
  obtain ⟨r1, r2, r3, r4, r5, r6, r7, r8, r9, r10, r11⟩ := hR
  refine ⟨r1, r2, r3, r4, r5, r6, r7, r8, ?_, ?_, r11⟩
  · rw [e41, e42]; exact r9
  · rw [e2, e3, e4]; exact r10
theorem LK.g25 {a67 a68 a70 a71 a74 a76 n16 n17 n25 : Nat → Int32} {N z G pj : Nat} {P PG : Nat → Nat} {v : Int32} (h : LK a67 a68 a70 a71 a74 a76 n16 n17 n25 N P G PG pj z) (hz : z < G) (hgi : ∀ i j, i < G → j < G → PG i = PG j → i = j) : LK a67 a68 a70 a71 a74 a76 n16 n17 (va_up n25 (PG z) v) N P G PG pj z := by
  obtain ⟨h1, g2, h3, h4⟩ := h
  refine ⟨h1, fun i hi' => ?_, fun j hj hn => ?_, h4⟩
  · rcases g2 i hi' with q | q | ⟨j, q1, q2, q3, q4⟩
    · exact Or.inl q
    · exact Or.inr (Or.inl q)
    · refine Or.inr (Or.inr ⟨j, q1, q2, q3, ?_⟩)
      rw [va_up_ne _ _ (fun e => q2 (hgi _ _ q1 hz e))]; exact q4
  · rw [va_up_ne _ _ (fun e => hn (hgi _ _ hj hz e))]
    exact h3 j hj hn
theorem R_ggive {σ m h : Rg} {ns N G nn gc z i pj pg : Nat} {P Q PG QG : Nat → Nat} (hR : R σ m h ns N G nn gc P Q PG QG pj pg) (hpj : N ≤ pj) (hpg : G ≤ pg) (hz : z < G) (hi : i < N) (h25 : σ 25 0 (PG z) = nI (P i)) : R (cset σ 16 0 (P i) (-1)) m h ns N G nn gc P Q PG QG pj z := by
  obtain ⟨r1, r2, r3, r4, r5, r6, r7, r8, r9, r10, r11⟩ := hR
  refine ⟨?_, ?_, ?_, ?_, ?_, ?_, ?_, ?_, ?_, ?_, ?_⟩ <;> (try simp (disch := decide) only [cs_a, cs_r])
  · exact r1
  · exact r2
  · exact r3
  · exact r4
  · exact r5.ggive hpj hpg hz hi r1.2.2.2.1 r1.2.1 r2.2.2.2.1 r2.2.1 h25
  · exact r6
  · exact r7
  · exact r8
  · exact r9
  · exact r10
  · exact r11
theorem R_g25 {σ m h : Rg} {ns N G nn gc z pj : Nat} {P Q PG QG : Nat → Nat} {v : Int32} (hR : R σ m h ns N G nn gc P Q PG QG pj z) (hz : z < G) : R (cset σ 25 0 (PG z) v) m h ns N G nn gc P Q PG QG pj z := by
  obtain ⟨r1, r2, r3, r4, r5, r6, r7, r8, r9, r10, r11⟩ := hR
  refine ⟨?_, ?_, ?_, ?_, ?_, ?_, ?_, ?_, ?_, ?_, ?_⟩ <;> (try simp (disch := decide) only [cs_a, cs_r])
  · exact r1
  · exact r2
  · exact r3
  · exact r4
  · exact r5.g25 hz r2.2.2.2.1
  · exact r6
  · exact r7
  · exact r8
  · exact r9
  · exact r10
  · exact r11
theorem R_gagain {σ m h : Rg} {ns N G nn gc z pj pg : Nat} {P Q PG QG : Nat → Nat} {v : Int32} (hR : R σ m h ns N G nn gc P Q PG QG pj pg) (hz : z < G) : R (cset (cset σ 27 0 (PG z) v) 20 0 10 (σ 20 0 10 + 1)) m (cset (cset h 78 0 z v) 60 0 26 (h 60 0 26 + 1)) ns N G nn gc P Q PG QG pj pg := by
  obtain ⟨r1, r2, r3, r4, r5, r6, r7, r8, r9, ⟨c1, c2, c3, c4, c5, c6, c7, c8, c9, c10, c11, c12⟩, r11⟩ := hR
  refine ⟨?_, ?_, ?_, ?_, ?_, ?_, ?_, ?_, ?_, ?_, ?_⟩ <;> simp (disch := decide) only [cs_a, cs_r, cs_i, cs_s]
  · exact r1
  · exact r2
  · exact r3
  · exact r4
  · exact r5
  · exact r6
  · exact r7
  · exact r8
  · exact r9
  · exact ⟨c1, c2, c3, c4, c5, c6, c7, c8, c9, c10, by rw [c11], c12⟩
  · exact r11.set78 r2.2.2.2.1 hz
/-- the class's loop -/
theorem E8_stop {σ : Rg} {x2 : Int32} (d : Nat) (μ : Mem) (r : Nat) (u3 : Option AV) : EvE (M d) 8 13 [some (.inr (r, 1, 0)), some (.inl (-1)), some (.inl x2), u3] [] (va_up μ r σ) (none, va_up μ r σ) := by
  rw [B8_13]
  simp only [B8_170, not_true_eq_false, false_implies, and_true, true_implies, implies_true]
theorem E8_skip {C : Nat → List AV → Mem → Res → Prop} {σ : Rg} {p x2 : Nat} {μ : Mem} {res : Res} {r : Nat} {u3 : Option AV} (hp : p < 100) (hx : x2 < 100) (hn : ¬ σ 26 0 p = σ 1 0 2) (H : EvE C 8 13 [some (.inr (r, 1, 0)), some (.inl (σ 23 0 p)), some (.inl (nI (x2 + 1))), some (.inl (σ 23 0 p))] [] (va_up μ r σ) res) : EvE C 8 13 [some (.inr (r, 1, 0)), some (.inl (nI p)), some (.inl (nI x2)), u3] [] (va_up μ r σ) res := by
  have v0 : vp_in (nI p) 100 := vp_in_nI hp (by decide)
  have k0 : (nI p).toNatClampNeg = p := nI_cl (by omega)
  have c0 : ¬ (100 : Int32) ≤ nI x2 := nI_ge (b := 100) (by omega) (by decide)
  rw [B8_13]
  simp only [va_up_self, k0, B8_162, nI_1]
  exact ⟨fun e => absurd e c0, fun _ => ⟨fun e => absurd e (nI_m1 (by omega)), fun _ => ⟨v0, v0, fun _ => H, fun e => absurd hn e⟩⟩⟩
theorem E8_lost {σ σ1 σ2 : Rg} {p x2 d : Nat} {μ : Mem} {res : Res} {r : Nat} {u3 : Option AV} (hp : p < 100) (hx : x2 < 100) (hn : σ 26 0 p = σ 1 0 2) (hG : CX 1 17 1 0 [.inl (σ 25 0 p)] σ none σ1) (hle : σ1 20 0 6 ≤ σ1 27 0 p) (hB : CX 1 31 21 0 [.inl (nI p)] (cset (cset (cset σ1 25 0 p (-1)) 1 0 3 0) 20 0 9 (σ1 20 0 9 + 1)) none σ2) (H : EvE (M (d + 6)) 8 13 [some (.inr (r, 1, 0)), some (.inl (σ 23 0 p)), some (.inl (nI (x2 + 1))), some (.inl (σ 23 0 p))] [] (va_up μ r σ2) res) : EvE (M (d + 6)) 8 13 [some (.inr (r, 1, 0)), some (.inl (nI p)), some (.inl (nI x2)), u3] [] (va_up μ r σ) res := by
  have v0 : vp_in (nI p) 100 := vp_in_nI hp (by decide)
  have k0 : (nI p).toNatClampNeg = p := nI_cl (by omega)
  have c0 : ¬ (100 : Int32) ≤ nI x2 := nI_ge (b := 100) (by omega) (by decide)
  rw [B8_13]
  refine ⟨fun e => absurd e c0, fun _ => ⟨fun e => absurd e (nI_m1 (by omega)), fun _ => ⟨v0, v0, fun e => absurd ?_ e, fun _ => ⟨v0, ?_⟩⟩⟩⟩
  · rw [va_up_self, k0]; exact hn
  · simp only [va_up_self, k0]
    refine ⟨_, hG.mono (by decide) d μ r, v0, v0, ?_⟩
    simp only [va_up_self, ms_up, k0, B8_162, nI_1]
    exact ⟨fun _ => ⟨_, hB.mono (by decide) d μ r, H⟩, fun e => absurd hle e⟩
theorem E8_ask {σ σ1 σ2 σ3 : Rg} {p x2 d : Nat} {μ : Mem} {res : Res} {r : Nat} {u3 : Option AV} (hp : p < 100) (hx : x2 < 100) (hn : σ 26 0 p = σ 1 0 2) (hG : CX 1 17 1 0 [.inl (σ 25 0 p)] σ none σ1) (hle : ¬ σ1 20 0 6 ≤ σ1 27 0 p) (hB : CX 5 11 1 0 [.inl (nI p)] (cset (cset (cset (cset σ1 25 0 p (-1)) 1 0 3 0) 27 0 p (σ1 27 0 p + 1)) 20 0 10 (σ1 20 0 10 + 1)) none σ2) (hS : ST 3 0 σ2 σ3) (H : EvE (M (d + 6)) 8 13 [some (.inr (r, 1, 0)), some (.inl (σ 23 0 p)), some (.inl (nI (x2 + 1))), some (.inl (σ 23 0 p))] [] (va_up μ r σ3) res) : EvE (M (d + 6)) 8 13 [some (.inr (r, 1, 0)), some (.inl (nI p)), some (.inl (nI x2)), u3] [] (va_up μ r σ) res := by
  have v0 : vp_in (nI p) 100 := vp_in_nI hp (by decide)
  have k0 : (nI p).toNatClampNeg = p := nI_cl (by omega)
  have c0 : ¬ (100 : Int32) ≤ nI x2 := nI_ge (b := 100) (by omega) (by decide)
  rw [B8_13]
  refine ⟨fun e => absurd e c0, fun _ => ⟨fun e => absurd e (nI_m1 (by omega)), fun _ => ⟨v0, v0, fun e => absurd ?_ e, fun _ => ⟨v0, ?_⟩⟩⟩⟩
  · rw [va_up_self, k0]; exact hn
  · simp only [va_up_self, k0]
    refine ⟨_, hG.mono (by decide) d μ r, v0, v0, ?_⟩
    simp only [va_up_self, ms_up, k0, B8_162, nI_1]
    exact ⟨fun e => absurd e hle, fun _ => ⟨v0, v0, _, hB.mono (by decide) d μ r, _, (T_settle0 hS).mono (by decide) d μ r, H⟩⟩
/-- the model's loops -/
def Seg (f : Nat → Int32) (many : Nat) : List Int32 → Nat → Prop
  | [], i => i = many
  | x :: L, i => i < many ∧ f i = x ∧ Seg f many L (i + 1)
def Mch (a79 a77 : Nat → Int32) (t : Int32) : Nat → Nat → List Int32 → Prop
  | 0, _, L => L = []
  | c + 1, j, L => (¬ a77 j = t ∧ Mch a79 a77 t c (j + 1) L) ∨ ∃ L', L = a79 j :: L' ∧ Mch a79 a77 t c (j + 1) L'
theorem D109_list {h : Rg} {G : Nat} (h22 : h 60 0 22 = nI G) (hG : G ≤ 100) : ∀ (c j k : Nat) (m : Rg), j + c = G → k ≤ j → ∃ m' many L, (∀ a, a ≠ 49 → m' a = m a) ∧ (∀ i, i < k → m' 49 0 i = m 49 0 i) ∧ many ≤ k + c ∧ Seg (m' 49 0) many L k ∧ Mch (h 79 0) (h 77 0) (h 60 0 0) c j L ∧
    ∀ (d : Nat) (μ : Mem) (res : Res) (u3 : Option AV), EvE (M d) 109 60 [some (.inr (3, 40, 0)), some (.inl (nI many)), some (.inl 0), u3] [] (mm μ m' h) res → EvE (M d) 109 4 [some (.inr (3, 40, 0)), some (.inl (nI k)), some (.inl (nI j)), u3] [] (mm μ m h) res := by
  intro c
  induction c with
  | zero =>
    intro j k m hj hk
    refine ⟨m, k, [], fun _ _ => rfl, fun _ _ => rfl, by omega, rfl, rfl, fun d μ res u3 H => ?_⟩
    rw [B109_4]
    simp (disch := omega) only [Nat.reduceAdd, mm4, h22, nI_le']
    exact ⟨fun _ => H, fun e => absurd (by omega) e⟩
  | succ c ih =>
    intro j k m hj hk
    have v0 : vp_in (nI j) 100 := vp_in_nI (by omega) (by decide)
    have k0 : (nI j).toNatClampNeg = j := nI_cl (by omega)
    have v1 : vp_in (nI k) 100 := vp_in_nI (by omega) (by decide)
    have k1 : (nI k).toNatClampNeg = k := nI_cl (by omega)
    by_cases e : h 77 0 j = h 60 0 0
    · obtain ⟨m', many, L, a1, a2, a3, a4, a5, a6⟩ := ih (j + 1) (k + 1) (cset m 49 0 k (h 79 0 j)) (by omega) (by omega)
      refine ⟨m', many, h 79 0 j :: L, fun a ha => by rw [a1 a ha, cs_a _ _ ha], fun i hi => by rw [a2 i (by omega), cs_i _ _ (by omega)], by omega, ⟨?_, by rw [a2 k (by omega), cs_s], a4⟩, Or.inr ⟨L, rfl, a5⟩, fun d μ res u3 H => ?_⟩
      · cases L with
        | nil => have : k + 1 = many := a4; omega
        | cons x L => have := a4.1; omega
      · rw [B109_4]
        simp (disch := omega) only [Nat.reduceAdd, mm4, ms3, h22, nI_le', k0, k1, B109_52, nI_1]
        exact ⟨fun e => absurd e (by omega), fun _ => ⟨v0, fun e2 => absurd e e2, fun _ => ⟨v0, v1, a6 d μ res u3 H⟩⟩⟩
    · obtain ⟨m', many, L, a1, a2, a3, a4, a5, a6⟩ := ih (j + 1) k m (by omega) (by omega)
      refine ⟨m', many, L, a1, a2, by omega, a4, Or.inl ⟨e, a5⟩, fun d μ res u3 H => ?_⟩
      rw [B109_4]
      simp (disch := omega) only [Nat.reduceAdd, mm4, ms3, h22, nI_le', k0, k1, B109_52, nI_1]
      exact ⟨fun e => absurd e (by omega), fun _ => ⟨v0, fun _ => a6 d μ res u3 H, fun e2 => absurd e e2⟩⟩
theorem D109_find {C : Nat → List AV → Mem → Res → Prop} {m h : Rg} {G j i many : Nat} {μ : Mem} {res : Res} (h22 : h 60 0 22 = nI G) (hG : G ≤ 100) (hj : j < G) (hi : i < many) (hm : many ≤ 100) (h49 : m 49 0 i = h 79 0 j) (hu : ∀ k, k < j → ¬ h 79 0 k = h 79 0 j) (H : EvE C 109 102 [some (.inr (3, 40, 0)), some (.inl (nI many)), some (.inl (nI i)), some (.inl (nI j))] [] (mm μ m h) res) : ∀ (c k : Nat), k + c = j → EvE C 109 67 [some (.inr (3, 40, 0)), some (.inl (nI many)), some (.inl (nI i)), some (.inl (nI k))] [] (mm μ m h) res := by
  intro c
  induction c with
  | zero =>
    intro k hk
    have : k = j := by omega
    subst this
    have v0 : vp_in (nI k) 100 := vp_in_nI (by omega) (by decide)
    have k0 : (nI k).toNatClampNeg = k := nI_cl (by omega)
    have v1 : vp_in (nI i) 100 := vp_in_nI (by omega) (by decide)
    have k1 : (nI i).toNatClampNeg = i := nI_cl (by omega)
    rw [B109_67]
    simp (disch := omega) only [Nat.reduceAdd, mm3, mm4, h22, nI_le', k0, k1, h49]
    exact ⟨fun e => absurd e (by omega), fun _ => ⟨v0, v1, fun _ => H, fun e => absurd True.intro e⟩⟩
  | succ c ih =>
    intro k hk
    have v0 : vp_in (nI k) 100 := vp_in_nI (by omega) (by decide)
    have k0 : (nI k).toNatClampNeg = k := nI_cl (by omega)
    have v1 : vp_in (nI i) 100 := vp_in_nI (by omega) (by decide)
    have k1 : (nI i).toNatClampNeg = i := nI_cl (by omega)
    rw [B109_67]
    simp (disch := omega) only [Nat.reduceAdd, mm3, mm4, h22, nI_le', k0, k1, h49, nI_1]
    exact ⟨fun e => absurd e (by omega), fun _ => ⟨v0, v1, fun e => absurd e (hu k (by omega)), fun _ => ih (k + 1) (by omega)⟩⟩
theorem D109_at {C : Nat → List AV → Mem → Res → Prop} {m h : Rg} {G j i many : Nat} {μ : Mem} {res : Res} {u3 : Option AV} (h22 : h 60 0 22 = nI G) (hG : G ≤ 100) (hj : j < G) (hi : i < many) (hm : many ≤ 100) (h49 : m 49 0 i = h 79 0 j) (hu : ∀ k, k < j → ¬ h 79 0 k = h 79 0 j) (H : EvE C 109 102 [some (.inr (3, 40, 0)), some (.inl (nI many)), some (.inl (nI i)), some (.inl (nI j))] [] (mm μ m h) res) : EvE C 109 60 [some (.inr (3, 40, 0)), some (.inl (nI many)), some (.inl (nI i)), u3] [] (mm μ m h) res := by
  rw [B109_60]
  simp (disch := omega) only [nI_le']
  exact ⟨fun e => absurd e (by omega), fun _ => D109_find h22 hG hj hi hm h49 hu H j 0 (by omega)⟩
theorem D109_skip {C : Nat → List AV → Mem → Res → Prop} {m h : Rg} {G j i many : Nat} {μ : Mem} {res : Res} (h22 : h 60 0 22 = nI G) (hG : G ≤ 100) (hj : j < G) (hn : ¬ h 77 0 j = h 60 0 0) (H : EvE C 109 60 [some (.inr (3, 40, 0)), some (.inl (nI many)), some (.inl (nI (i + 1))), some (.inl (nI j))] [] (mm μ m h) res) : EvE C 109 102 [some (.inr (3, 40, 0)), some (.inl (nI many)), some (.inl (nI i)), some (.inl (nI j))] [] (mm μ m h) res := by
  have v0 : vp_in (nI j) 100 := vp_in_nI (by omega) (by decide)
  have k0 : (nI j).toNatClampNeg = j := nI_cl (by omega)
  rw [B109_102]
  simp (disch := omega) only [Nat.reduceAdd, mm3, mm4, h22, nI_le', k0, B109_208, nI_1]
  exact ⟨fun e => absurd e (by omega), fun _ => ⟨v0, fun _ => H, fun e => absurd hn e⟩⟩
theorem D109_lost {d : Nat} {m h h' : Rg} {G j i many : Nat} {μ : Mem} {res : Res} (h22 : h 60 0 22 = nI G) (hG : G ≤ 100) (hj : j < G) (hn : h 77 0 j = h 60 0 0) (hle : m 40 0 4 ≤ h 78 0 j) (hE : MX 1 96 [.inl (nI j)] m (cset (cset h 60 0 28 0) 60 0 25 (h 60 0 25 + 1)) none m h') (H : EvE (M (d + 8)) 109 60 [some (.inr (3, 40, 0)), some (.inl (nI many)), some (.inl (nI (i + 1))), some (.inl (nI j))] [] (mm μ m h') res) : EvE (M (d + 8)) 109 102 [some (.inr (3, 40, 0)), some (.inl (nI many)), some (.inl (nI i)), some (.inl (nI j))] [] (mm μ m h) res := by
  have v0 : vp_in (nI j) 100 := vp_in_nI (by omega) (by decide)
  have k0 : (nI j).toNatClampNeg = j := nI_cl (by omega)
  rw [B109_102]
  simp (disch := omega) only [Nat.reduceAdd, mm3, mm4, ms4, h22, nI_le', k0, B109_208, nI_1]
  exact ⟨fun e => absurd e (by omega), fun _ => ⟨v0, fun e => absurd hn e, fun _ => ⟨v0, fun _ => ⟨_, hE.mono (by decide) d μ, H⟩, fun e => absurd hle e⟩⟩⟩
theorem D109_ask {d : Nat} {m h h' : Rg} {G j i many : Nat} {μ : Mem} {res : Res} (h22 : h 60 0 22 = nI G) (hG : G ≤ 100) (hj : j < G) (hn : h 77 0 j = h 60 0 0) (hle : ¬ m 40 0 4 ≤ h 78 0 j) (hE : MX 7 102 [.inl (nI j)] m (cset (cset (cset h 60 0 28 0) 78 0 j (h 78 0 j + 1)) 60 0 26 (h 60 0 26 + 1)) none m h') (H : EvE (M (d + 8)) 109 60 [some (.inr (3, 40, 0)), some (.inl (nI many)), some (.inl (nI (i + 1))), some (.inl (nI j))] [] (mm μ m h') res) : EvE (M (d + 8)) 109 102 [some (.inr (3, 40, 0)), some (.inl (nI many)), some (.inl (nI i)), some (.inl (nI j))] [] (mm μ m h) res := by
  have v0 : vp_in (nI j) 100 := vp_in_nI (by omega) (by decide)
  have k0 : (nI j).toNatClampNeg = j := nI_cl (by omega)
  rw [B109_102]
  simp (disch := omega) only [Nat.reduceAdd, mm3, mm4, ms4, h22, nI_le', k0, B109_208, nI_1]
  exact ⟨fun e => absurd e (by omega), fun _ => ⟨v0, fun e => absurd hn e, fun _ => ⟨v0, fun e => absurd e hle, fun _ => ⟨v0, v0, _, hE.mono (by decide) d μ, H⟩⟩⟩⟩
