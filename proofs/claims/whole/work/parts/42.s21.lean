/-! work ends; pauses end; deadlines -/
theorem R_give {σ m h : Rg} {ns N G nn gc kk i pj pg : Nat} {P Q PG QG : Nat → Nat} (hR : R σ m h ns N G nn gc P Q PG QG pj pg) (hpj : N ≤ pj) (hk : kk < N) (hi : i < N) (h17 : σ 17 0 (P kk) = nI (P i)) : R (cset σ 16 0 (P i) (-1)) m h ns N G nn gc P Q PG QG kk pg := by
  obtain ⟨r1, r2, r3, r4, r5, r6, r7, r8, r9, r10, r11⟩ := hR
  refine ⟨?_, ?_, ?_, ?_, ?_, ?_, ?_, ?_, ?_, ?_, ?_⟩ <;> (try simp (disch := decide) only [cs_a, cs_r])
  · exact r1
  · exact r2
  · exact r3
  · exact r4
  · exact r5.give hpj hk hi r1.2.2.2.1 r1.2.1 r2.2.1 h17
  · exact r6
  · exact r7
  · exact r8
  · exact r9
  · exact r10
  · exact r11
def C5 (i : Nat) (σ σ' : Rg) : Prop := ∀ (d : Nat) (μ : Mem) (r : Nat) (u2 : Option AV), EvE (M (d + 6)) 5 2 [some (.inr (r, 1, 0)), some (.inl (nI i)), u2] [] (va_up μ r σ) (none, va_up μ r σ')
def C6 (i : Nat) (σ σ' : Rg) : Prop := ∀ (d : Nat) (μ : Mem) (r : Nat) (u2 : Option AV), EvE (M (d + 6)) 6 2 [some (.inr (r, 1, 0)), some (.inl (nI i)), u2] [] (va_up μ r σ) (none, va_up μ r σ')
def C7 (i : Nat) (σ σ' : Rg) : Prop := ∀ (d : Nat) (μ : Mem) (r : Nat) (u2 : Option AV), EvE (M (d + 6)) 7 2 [some (.inr (r, 1, 0)), some (.inl (nI i)), u2] [] (va_up μ r σ) (none, va_up μ r σ')
def D6 (m : Rg) (i : Nat) (h h' : Rg) : Prop := ∀ (d : Nat) (μ : Mem) (u2 : Option AV), EvE (M (d + 60)) 106 7 [some (.inr (3, 40, 0)), some (.inl (nI i)), u2] [] (mm μ m h) (none, mm μ m h')
def D7 (m : Rg) (i : Nat) (h h' : Rg) : Prop := ∀ (d : Nat) (μ : Mem), EvE (M (d + 60)) 107 7 [some (.inr (3, 40, 0)), some (.inl (nI i))] [] (mm μ m h) (none, mm μ m h')
def D8 (m : Rg) (i : Nat) (h h' : Rg) : Prop := ∀ (d : Nat) (μ : Mem), EvE (M (d + 60)) 108 7 [some (.inr (3, 40, 0)), some (.inl (nI i))] [] (mm μ m h) (none, mm μ m h')
/-- class, work -/
theorem C5_stop {σ : Rg} {dn i : Nat} (h10 : σ 1 0 10 = nI dn) (hi : dn ≤ i) (hb : i ≤ 120) : C5 i σ σ := fun d μ r u2 => by
  rw [B5_2]
  simp (disch := omega) only [va_up_self, h10, nI_le']
  exact ⟨fun _ => True.intro, fun e => absurd hi e⟩
theorem C5_skip {σ σ' : Rg} {dn i p : Nat} (h10 : σ 1 0 10 = nI dn) (hi : i < dn) (hb : dn ≤ 120) (h35 : σ 35 0 i = nI p) (hp : p < 120) (hn : ¬ (σ 15 0 p = 1 ∧ σ 18 0 p = σ 1 0 2)) (H : C5 (i + 1) σ σ') : C5 i σ σ' := fun d μ r u2 => by
  have v0 : vp_in (nI i) 120 := vp_in_nI (by omega) (by decide)
  have k0 : (nI i).toNatClampNeg = i := nI_cl (by omega)
  rw [B5_2]
  simp (disch := omega) only [va_up_self, h10, nI_le', k0, h35]
  refine ⟨fun e => absurd e (by omega), fun _ => ⟨v0, _, _, (T_isDue hp).mono (by decide) d μ r, ?_⟩⟩
  rw [if_neg hn]
  simp only [B5_69, nI_1]
  exact ⟨fun _ => H d μ r _, fun e => absurd True.intro e⟩
theorem C5_body {σ σ1 σ2 σ' : Rg} {dn i p s ns : Nat} (h10 : σ 1 0 10 = nI dn) (hi : i < dn) (hb : dn ≤ 120) (h35 : σ 35 0 i = nI p) (hp : p < 120) (hn : σ 15 0 p = 1 ∧ σ 18 0 p = σ 1 0 2) (hns : ns ≤ 6) (h1 : σ 1 0 1 = nI ns) (hs : s < 6) (h13 : σ 13 0 p = nI s) (hE : (s + 1 < ns ∧ CX 5 12 1 0 [.inl (nI p)] σ none σ1) ∨ (ns ≤ s + 1 ∧ CX 3 18 1 0 [.inl (nI p), .inl 1] σ none σ1)) (hS : ST 3 0 σ1 σ2) (H : C5 (i + 1) σ2 σ') : C5 i σ σ' := fun d μ r u2 => by
  have v0 : vp_in (nI i) 120 := vp_in_nI (by omega) (by decide)
  have k0 : (nI i).toNatClampNeg = i := nI_cl (by omega)
  have v1 : vp_in (nI p) 120 := vp_in_nI (by omega) (by decide)
  have k1 : (nI p).toNatClampNeg = p := nI_cl (by omega)
  rw [B5_2]
  simp (disch := omega) only [va_up_self, h10, nI_le', k0, h35]
  refine ⟨fun e => absurd e (by omega), fun _ => ⟨v0, _, _, (T_isDue hp).mono (by decide) d μ r, ?_⟩⟩
  rw [if_pos hn]
  simp (disch := omega) only [va_up_self, B5_65, B5_69, k1, v1, h1, h13, nI_1, nI_le', true_and]
  refine ⟨fun e => absurd e (by decide), fun _ => ?_⟩
  rcases hE with ⟨e1, e2⟩ | ⟨e1, e2⟩
  · exact ⟨fun e => absurd e (by omega), fun _ => ⟨_, e2.mono (by decide) d μ r, _, (T_settle0 hS).mono (by decide) d μ r, H d μ r _⟩⟩
  · exact ⟨fun _ => ⟨_, e2.mono (by decide) d μ r, _, (T_settle0 hS).mono (by decide) d μ r, H d μ r _⟩, fun e => absurd e1 e⟩
/-- class, pauses -/
theorem C6_stop {σ : Rg} {dn i : Nat} (h10 : σ 1 0 10 = nI dn) (hi : dn ≤ i) (hb : i ≤ 120) : C6 i σ σ := fun d μ r u2 => by
  rw [B6_2]
  simp (disch := omega) only [va_up_self, h10, nI_le']
  exact ⟨fun _ => True.intro, fun e => absurd hi e⟩
theorem C6_skip {σ σ' : Rg} {dn i p : Nat} (h10 : σ 1 0 10 = nI dn) (hi : i < dn) (hb : dn ≤ 120) (h35 : σ 35 0 i = nI p) (hp : p < 120) (hn : ¬ (σ 15 0 p = 3 ∧ σ 18 0 p = σ 1 0 2)) (H : C6 (i + 1) σ σ') : C6 i σ σ' := fun d μ r u2 => by
  have v0 : vp_in (nI i) 120 := vp_in_nI (by omega) (by decide)
  have k0 : (nI i).toNatClampNeg = i := nI_cl (by omega)
  rw [B6_2]
  simp (disch := omega) only [va_up_self, h10, nI_le', k0, h35]
  refine ⟨fun e => absurd e (by omega), fun _ => ⟨v0, _, _, (T_isDue hp).mono (by decide) d μ r, ?_⟩⟩
  rw [if_neg hn]
  simp only [B6_55, nI_1]
  exact ⟨fun _ => H d μ r _, fun e => absurd True.intro e⟩
theorem C6_body {σ σ1 σ2 σ' : Rg} {dn i p : Nat} (h10 : σ 1 0 10 = nI dn) (hi : i < dn) (hb : dn ≤ 120) (h35 : σ 35 0 i = nI p) (hp : p < 120) (hn : σ 15 0 p = 3 ∧ σ 18 0 p = σ 1 0 2) (hE : CX 5 12 1 0 [.inl (nI p)] (cset σ 19 0 p (σ 19 0 p + 1)) none σ1) (hS : ST 3 0 σ1 σ2) (H : C6 (i + 1) σ2 σ') : C6 i σ σ' := fun d μ r u2 => by
  have v0 : vp_in (nI i) 120 := vp_in_nI (by omega) (by decide)
  have k0 : (nI i).toNatClampNeg = i := nI_cl (by omega)
  have v1 : vp_in (nI p) 120 := vp_in_nI (by omega) (by decide)
  have k1 : (nI p).toNatClampNeg = p := nI_cl (by omega)
  rw [B6_2]
  simp (disch := omega) only [va_up_self, h10, nI_le', k0, h35]
  refine ⟨fun e => absurd e (by omega), fun _ => ⟨v0, _, _, (T_isDue hp).mono (by decide) d μ r, ?_⟩⟩
  rw [if_pos hn]
  simp only [va_up_self, ms_up, B6_55, k1, v1, nI_1, true_and]
  exact ⟨fun e => absurd e (by decide), fun _ => ⟨_, hE.mono (by decide) d μ r, _, (T_settle0 hS).mono (by decide) d μ r, H d μ r _⟩⟩
/-- class, deadlines -/
theorem C7_stop {σ : Rg} {dn i : Nat} (h10 : σ 1 0 10 = nI dn) (hi : dn ≤ i) (hb : i ≤ 120) : C7 i σ σ := fun d μ r u2 => by
  rw [B7_2]
  simp (disch := omega) only [va_up_self, h10, nI_le']
  exact ⟨fun _ => True.intro, fun e => absurd hi e⟩
theorem C7_skip {σ σ' : Rg} {dn i p : Nat} (h10 : σ 1 0 10 = nI dn) (hi : i < dn) (hb : dn ≤ 120) (h35 : σ 35 0 i = nI p) (hp : p < 120) (hn : ¬ (σ 15 0 p = 2 ∧ σ 18 0 p = σ 1 0 2)) (H : C7 (i + 1) σ σ') : C7 i σ σ' := fun d μ r u2 => by
  have v0 : vp_in (nI i) 120 := vp_in_nI (by omega) (by decide)
  have k0 : (nI i).toNatClampNeg = i := nI_cl (by omega)
  rw [B7_2]
  simp (disch := omega) only [va_up_self, h10, nI_le', k0, h35]
  refine ⟨fun e => absurd e (by omega), fun _ => ⟨v0, _, _, (T_isDue hp).mono (by decide) d μ r, ?_⟩⟩
  rw [if_neg hn]
  simp only [B7_64, nI_1]
  exact ⟨fun _ => H d μ r _, fun e => absurd True.intro e⟩
theorem C7_body {σ σ0 σ1 σ2 σ3 σ' : Rg} {dn i p : Nat} (h10 : σ 1 0 10 = nI dn) (hi : i < dn) (hb : dn ≤ 120) (h35 : σ 35 0 i = nI p) (hp : p < 120) (hn : σ 15 0 p = 2 ∧ σ 18 0 p = σ 1 0 2) (hG : CX 1 17 1 0 [.inl (σ 17 0 p)] σ none σ0) (hE : (CX 2 22 1 0 [.inl (nI p)] σ0 (some 1) σ2) ∨ (CX 2 22 1 0 [.inl (nI p)] σ0 (some 0) σ1 ∧ CX 3 18 1 0 [.inl (nI p), .inl 0] σ1 none σ2)) (hS : ST 3 0 σ2 σ3) (H : C7 (i + 1) σ3 σ') : C7 i σ σ' := fun d μ r u2 => by
  have v0 : vp_in (nI i) 120 := vp_in_nI (by omega) (by decide)
  have k0 : (nI i).toNatClampNeg = i := nI_cl (by omega)
  have v1 : vp_in (nI p) 120 := vp_in_nI (by omega) (by decide)
  have k1 : (nI p).toNatClampNeg = p := nI_cl (by omega)
  rw [B7_2]
  simp (disch := omega) only [va_up_self, h10, nI_le', k0, h35]
  refine ⟨fun e => absurd e (by omega), fun _ => ⟨v0, _, _, (T_isDue hp).mono (by decide) d μ r, ?_⟩⟩
  rw [if_pos hn]
  simp only [va_up_self, B7_60, B7_64, k1, v1, nI_1, true_and]
  refine ⟨fun e => absurd e (by decide), fun _ => ⟨_, hG.mono (by decide) d μ r, ?_⟩⟩
  rcases hE with e1 | ⟨e1, e2⟩
  · exact ⟨_, _, e1.mono (by decide) d μ r, fun _ => ⟨_, (T_settle0 hS).mono (by decide) d μ r, H d μ r _⟩, fun e => absurd (by decide) e⟩
  · exact ⟨_, _, e1.mono (by decide) d μ r, fun e => absurd rfl e, fun _ => ⟨_, e2.mono (by decide) d μ r, _, (T_settle0 hS).mono (by decide) d μ r, H d μ r _⟩⟩
/-- model, work -/
theorem D6_stop {m h : Rg} {mn i : Nat} (h19 : m 40 0 19 = nI mn) (hi : mn ≤ i) (hb : i ≤ 120) : D6 m i h h := fun d μ u2 => by
  rw [B106_7]
  simp (disch := omega) only [mm3, h19, nI_le']
  exact ⟨fun _ => True.intro, fun e => absurd hi e⟩
theorem D6_skip {m h h' : Rg} {mn i : Nat} (h19 : m 40 0 19 = nI mn) (hi : i < mn) (hb : mn ≤ 120) (hI : MX 2 105 [.inl (m 48 0 i), .inl 1] m h (some 0) m h) (H : D6 m (i + 1) h h') : D6 m i h h' := fun d μ u2 => by
  have v0 : vp_in (nI i) 120 := vp_in_nI (by omega) (by decide)
  have k0 : (nI i).toNatClampNeg = i := nI_cl (by omega)
  rw [B106_7]
  simp (disch := omega) only [mm3, h19, nI_le', k0]
  refine ⟨fun e => absurd e (by omega), fun _ => ⟨v0, _, _, hI.mono (by omega) d μ, ?_⟩⟩
  simp only [B106_67, nI_1]
  exact ⟨fun _ => H d μ _, fun e => absurd True.intro e⟩
theorem D6_body {m h h1 h' : Rg} {mn i N z s ns : Nat} {n : Int32} (h19 : m 40 0 19 = nI mn) (hi : i < mn) (hb : mn ≤ 120) (h48 : m 48 0 i = n) (hI : MX 2 105 [.inl n, .inl 1] m h (some 1) m h) (hP : MX 1 85 [.inl n] m h (some (nI z)) m h) (hz : z < 120) (hns0 : 0 < ns) (hns : ns ≤ 6) (h2 : m 40 0 2 = nI ns) (hs : s < 6) (h68 : h 68 0 z = nI s) (hE : (s + 1 < ns ∧ MX 60 101 [.inl n] m h none m h1) ∨ (ns ≤ s + 1 ∧ MX 60 97 [.inl n, .inl 1] m h none m h1)) (H : D6 m (i + 1) h1 h') : D6 m i h h' := fun d μ u2 => by
  have v0 : vp_in (nI i) 120 := vp_in_nI (by omega) (by decide)
  have k0 : (nI i).toNatClampNeg = i := nI_cl (by omega)
  have v1 : vp_in (nI z) 120 := vp_in_nI (by omega) (by decide)
  have k1 : (nI z).toNatClampNeg = z := nI_cl (by omega)
  have e1 : nI ns - 1 = nI (ns - 1) := nI_dn (by omega)
  rw [B106_7]
  simp (disch := omega) only [mm3, h19, nI_le', k0, h48]
  refine ⟨fun e => absurd e (by omega), fun _ => ⟨v0, _, _, hI.mono (by omega) d μ, fun e => absurd e (by decide), fun _ => ⟨_, _, hP.mono (by omega) d μ, v1, ?_⟩⟩⟩
  simp (disch := omega) only [Nat.reduceAdd, mm3, mm4, k1, h2, e1, h68, nI_le', B106_67, nI_1]
  rcases hE with ⟨q1, q2⟩ | ⟨q1, q2⟩
  · exact ⟨fun e => absurd e (by omega), fun _ => ⟨_, q2 d μ, H d μ _⟩⟩
  · exact ⟨fun _ => ⟨_, q2 d μ, H d μ _⟩, fun e => absurd (by omega) e⟩
/-- model, pauses -/
theorem D7_stop {m h : Rg} {mn i : Nat} (h19 : m 40 0 19 = nI mn) (hi : mn ≤ i) (hb : i ≤ 120) : D7 m i h h := fun d μ => by
  rw [B107_7]
  simp (disch := omega) only [mm3, h19, nI_le']
  exact ⟨fun _ => True.intro, fun e => absurd hi e⟩
theorem D7_skip {m h h' : Rg} {mn i : Nat} (h19 : m 40 0 19 = nI mn) (hi : i < mn) (hb : mn ≤ 120) (hI : MX 2 105 [.inl (m 48 0 i), .inl 3] m h (some 0) m h) (H : D7 m (i + 1) h h') : D7 m i h h' := fun d μ => by
  have v0 : vp_in (nI i) 120 := vp_in_nI (by omega) (by decide)
  have k0 : (nI i).toNatClampNeg = i := nI_cl (by omega)
  rw [B107_7]
  simp (disch := omega) only [mm3, h19, nI_le', k0]
  refine ⟨fun e => absurd e (by omega), fun _ => ⟨v0, _, _, hI.mono (by omega) d μ, ?_⟩⟩
  simp only [B107_61, nI_1]
  exact ⟨fun _ => H d μ, fun e => absurd True.intro e⟩
theorem D7_body {m h h1 h' : Rg} {mn i z : Nat} {n : Int32} (h19 : m 40 0 19 = nI mn) (hi : i < mn) (hb : mn ≤ 120) (h48 : m 48 0 i = n) (hI : MX 2 105 [.inl n, .inl 3] m h (some 1) m h) (hP : MX 1 85 [.inl n] m h (some (nI z)) m h) (hz : z < 120) (hE : MX 60 101 [.inl n] m (cset h 73 0 z (h 73 0 z + 1)) none m h1) (H : D7 m (i + 1) h1 h') : D7 m i h h' := fun d μ => by
  have v0 : vp_in (nI i) 120 := vp_in_nI (by omega) (by decide)
  have k0 : (nI i).toNatClampNeg = i := nI_cl (by omega)
  have v1 : vp_in (nI z) 120 := vp_in_nI (by omega) (by decide)
  have k1 : (nI z).toNatClampNeg = z := nI_cl (by omega)
  rw [B107_7]
  simp (disch := omega) only [mm3, h19, nI_le', k0, h48]
  refine ⟨fun e => absurd e (by omega), fun _ => ⟨v0, _, _, hI.mono (by omega) d μ, fun e => absurd e (by decide), fun _ => ⟨v0, ?_⟩⟩⟩
  simp only [mm3, h48]
  refine ⟨_, _, hP.mono (by omega) d μ, v1, v1, v0, ?_⟩
  simp only [Nat.reduceAdd, mm3, mm4, ms4, k1, h48, B107_61, nI_1]
  exact ⟨_, hE d μ, H d μ⟩
/-- model, deadlines -/
theorem D8_stop {m h : Rg} {mn i : Nat} (h19 : m 40 0 19 = nI mn) (hi : mn ≤ i) (hb : i ≤ 120) : D8 m i h h := fun d μ => by
  rw [B108_7]
  simp (disch := omega) only [mm3, h19, nI_le']
  exact ⟨fun _ => True.intro, fun e => absurd hi e⟩
theorem D8_skip {m h h' : Rg} {mn i : Nat} (h19 : m 40 0 19 = nI mn) (hi : i < mn) (hb : mn ≤ 120) (hI : MX 2 105 [.inl (m 48 0 i), .inl 2] m h (some 0) m h) (H : D8 m (i + 1) h h') : D8 m i h h' := fun d μ => by
  have v0 : vp_in (nI i) 120 := vp_in_nI (by omega) (by decide)
  have k0 : (nI i).toNatClampNeg = i := nI_cl (by omega)
  rw [B108_7]
  simp (disch := omega) only [mm3, h19, nI_le', k0]
  refine ⟨fun e => absurd e (by omega), fun _ => ⟨v0, _, _, hI.mono (by omega) d μ, ?_⟩⟩
  simp only [B108_39, nI_1]
  exact ⟨fun _ => H d μ, fun e => absurd True.intro e⟩
theorem D8_body {m h h1 h' : Rg} {mn i : Nat} {n : Int32} (h19 : m 40 0 19 = nI mn) (hi : i < mn) (hb : mn ≤ 120) (h48 : m 48 0 i = n) (hI : MX 2 105 [.inl n, .inl 2] m h (some 1) m h) (hE : MX 60 99 [.inl n] m h none m h1) (H : D8 m (i + 1) h1 h') : D8 m i h h' := fun d μ => by
  have v0 : vp_in (nI i) 120 := vp_in_nI (by omega) (by decide)
  have k0 : (nI i).toNatClampNeg = i := nI_cl (by omega)
  rw [B108_7]
  simp (disch := omega) only [mm3, h19, nI_le', k0, h48]
  refine ⟨fun e => absurd e (by omega), fun _ => ⟨v0, _, _, hI.mono (by omega) d μ, fun e => absurd e (by decide), fun _ => ⟨v0, ?_⟩⟩⟩
  simp only [mm3, h48, B108_39, nI_1]
  exact ⟨_, hE d μ, H d μ⟩
