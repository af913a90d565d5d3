/-! all guests of a tick come -/
def TL (σ m : Rg) (tn : Nat) : Prop := tn ≤ 40 ∧ σ 28 0 3 = nI tn ∧ m 40 0 8 = nI tn ∧ ∀ i, i < tn → σ 29 0 i = m 43 0 i ∧ σ 30 0 i = m 44 0 i ∧ σ 31 0 i = m 45 0 i ∧ (∃ q, q < 8 ∧ σ 30 0 i = nI q) ∧ ∃ k, k ≤ 30 ∧ σ 31 0 i = nI k
def TY (σ m : Rg) (t : Int32) : Prop := (σ 28 0 3 = nI 0 ∧ m 40 0 16 = nI 0) ∨ ∃ q many, q < 8 ∧ many ≤ 30 ∧ σ 28 0 3 = nI 1 ∧ σ 29 0 0 = t ∧ σ 30 0 0 = nI q ∧ σ 31 0 0 = nI many ∧ m 40 0 15 = nI q ∧ m 40 0 16 = nI many
def US (σ m : Rg) (pd : Nat) : Prop := pd ≤ 12 ∧ σ 32 0 2 = nI pd ∧ m 40 0 9 = nI pd ∧ (pd = 0 → σ 34 0 0 = nI 0 ∧ ∃ q, q < 8 ∧ σ 33 0 0 = nI q) ∧ ∀ i, i < pd → σ 34 0 i = m 47 0 i ∧ (∃ q, q < 8 ∧ σ 33 0 i = nI q) ∧ ∃ k, k ≤ 5 ∧ σ 34 0 i = nI k ∧ (0 < k → m 46 0 i = σ 33 0 i)
theorem US.keep {σ σ' m m' : Rg} {pd : Nat} (h : US σ m pd) (e32 : σ' 32 = σ 32) (e33 : σ' 33 = σ 33) (e34 : σ' 34 = σ 34) (e9 : m' 40 0 9 = m 40 0 9) (e46 : m' 46 = m 46) (e47 : m' 47 = m 47) : US σ' m' pd := by
  unfold US
  rw [e32, e33, e34, e9, e46, e47]
  exact h
theorem CGn_zero {q : Nat} {σ : Rg} : CGn 0 q σ σ := fun i many hi hm d μ r u4 => by
  rw [B10_2]
  simp (disch := omega) only [nI_le']
  exact ⟨fun _ => True.intro, fun e => absurd (by omega) e⟩
theorem SIM_usual {σ m h : Rg} {ns N G nn gc t pd : Nat} {P Q PG QG : Nat → Nat} (hR : R σ m h ns N G nn gc P Q PG QG 1000 1000) (hns : 0 < ns) (h11 : σ 1 0 11 = -1) (h0 : h 60 0 0 = nI t) (ht : t ≤ 200000) (hU : US σ m pd) (hnn : nn + 5 < 1073741824) (hgc : gc + 5 < 1073741824) :
    ∃ σ' h' N' G' P' Q' PG' QG' nn' gc', (∃ q n, σ 33 0 (if pd = 0 then 0 else t % pd) = nI q ∧ σ 34 0 (if pd = 0 then 0 else t % pd) = nI n ∧ n ≤ 5 ∧ CGn n q σ σ') ∧ (∀ (d : Nat) (μ : Mem) (u2 u3 : Option AV), EvE (M (d + 8)) 111 150 [some (.inr (3, 40, 0)), some (.inl 0), u2, u3] [] (mm μ m h) (none, mm μ m h')) ∧ R σ' m h' ns N' G' nn' gc' P' Q' PG' QG' 1000 1000 ∧ nn' ≤ nn + 5 ∧ gc' ≤ gc + 5 ∧ σ' 1 0 11 = -1 ∧ Tr N N' P P' σ σ' h h' := by
  obtain ⟨u1, u2, u3, u4, u5⟩ := hU
  by_cases e : pd = 0
  · obtain ⟨w1, q, hq, w2⟩ := u4 e
    refine ⟨σ, h, N, G, P, Q, PG, QG, nn, gc, ⟨q, 0, by rw [if_pos e]; exact w2, by rw [if_pos e]; exact w1, by omega, CGn_zero⟩, fun d μ u2' u3' => ?_, hR, by omega, by omega, h11, Tr.refl⟩
    rw [B111_150]
    simp only [mm3, u3, e, B111_205]
    exact ⟨fun _ => True.intro, fun q => absurd (by decide) q⟩
  · obtain ⟨w2, ⟨q, hq, w3⟩, ⟨k, hk, w4, w1⟩⟩ := u5 (t % pd) (Nat.mod_lt t (by omega))
    obtain ⟨σ', h', N', G', P', Q', PG', QG', nn', a1, a2, a3, a4, a5, a6⟩ := SIM_gn hq k hR hns (by omega) (by omega) h11
    exact ⟨σ', h', N', G', P', Q', PG', QG', nn', gc + k, ⟨q, k, by rw [if_neg e]; exact w3, by rw [if_neg e]; exact w4, hk, a1⟩, fun d μ u2' u3' => G150 ht (by omega) u1 u3 (by omega : k ≤ 100) (w2.symm.trans w4) (fun e => (w1 e).trans w3) k 0 h h' (by omega) h0 a2 d μ u2' u3', a3, by omega, by omega, a5, a6⟩
theorem E3_end {σ σ1 σ' : Rg} {tn t pd q n : Nat} {d : Nat} {μ : Mem} {r : Nat} (h3 : σ 28 0 3 = nI tn) (htn : tn ≤ 40) (ht1 : σ 1 0 2 = nI t) (ht : t ≤ 200000) (hF : CX 1 45 28 0 [.inl (nI t)] σ none σ1) (ht2 : σ1 1 0 2 = nI t) (hpd : pd ≤ 12) (h32 : σ1 32 0 2 = nI pd) (e33 : σ1 33 0 (if pd = 0 then 0 else t % pd) = nI q) (e34 : σ1 34 0 (if pd = 0 then 0 else t % pd) = nI n) (hn : n ≤ 5) (hC : CGn n q σ1 σ') : EvE (M (d + 8)) 3 41 [some (.inr (r, 1, 0)), some (.inl (nI tn))] [] (va_up μ r σ) (none, va_up μ r σ') := by
  have hlt : (if pd = 0 then 0 else t % pd) < 12 := by
    split
    · omega
    · have := Nat.mod_lt t (by omega : 0 < pd); omega
  have v0 : vp_in (nI (if pd = 0 then 0 else t % pd)) 12 := vp_in_nI hlt (by decide)
  have k0 : (nI (if pd = 0 then 0 else t % pd)).toNatClampNeg = if pd = 0 then 0 else t % pd := nI_cl (by omega)
  rw [B3_41]
  simp (disch := omega) only [va_up_self, h3, nI_le', ht1]
  refine ⟨fun _ => ⟨_, hF.mono (by omega) d μ r, ?_⟩, fun e => absurd (Nat.le_refl _) e⟩
  simp only [va_up_self, ht2]
  refine ⟨_, _, (T_usual ht hpd h32).mono (by omega) d μ r, v0, v0, ?_⟩
  simp only [va_up_self, k0, e33, e34]
  exact ⟨_, (T_come (by omega) hC).mono (by omega) d μ r, rfl⟩
theorem R_28 {σ σ' m h : Rg} {ns N G nn gc pj pg : Nat} {P Q PG QG : Nat → Nat} (hR : R σ m h ns N G nn gc P Q PG QG pj pg) (f : ∀ a, a < 28 → σ' a = σ a) : R σ' m h ns N G nn gc P Q PG QG pj pg := by
  unfold R
  simp (disch := decide) only [f]
  exact hR
theorem SIM_come0 {σ m h : Rg} {ns N G nn gc t pd tn : Nat} {P Q PG QG : Nat → Nat} (hR : R σ m h ns N G nn gc P Q PG QG 1000 1000) (hns : 0 < ns) (h11 : σ 1 0 11 = -1) (h0 : h 60 0 0 = nI t) (ht : t ≤ 200000) (h14 : m 40 0 14 = 0) (hT : TL σ m tn) (hU : US σ m pd) (hnn : nn + 1205 < 1073741824) (hgc : gc + 1205 < 1073741824) :
    ∃ σ' m' h' N' G' P' Q' PG' QG' nn' gc' tn', (∀ (d : Nat) (μ : Mem) (r : Nat), EvE (M (d + 8)) 3 41 [some (.inr (r, 1, 0)), some (.inl 0)] [] (va_up μ r σ) (none, va_up μ r σ')) ∧ MX 9 111 [] m h none m' h' ∧ (∀ a, a ≠ 40 → a ≠ 43 → a ≠ 44 → a ≠ 45 → m' a = m a) ∧ (∀ i, i ≠ 8 → m' 40 0 i = m 40 0 i) ∧ TL σ' m' tn' ∧ US σ' m' pd ∧ R σ' m' h' ns N' G' nn' gc' P' Q' PG' QG' 1000 1000 ∧ nn' ≤ nn + 1205 ∧ gc' ≤ gc + 1205 ∧ σ' 1 0 11 = -1 ∧ h' 60 0 0 = h 60 0 0 := by
  obtain ⟨htn, h3, h8, hT4⟩ := hT
  obtain ⟨σ1, m1, h1, N1, G1, P1, Q1, PG1, QG1, nn1, gc1, a1, a2, a3, a4, a5, a6, a7, a8, a9, a10, a11⟩ := SIM_tells (p43 := m 43 0) (p44 := m 44 0) (p45 := m 45 0) (t := t) htn hns (o29 := σ 29 0) (o30 := σ 30 0) (o31 := σ 31 0) hT4 tn 0 (by omega) hR h11 h0 (by omega) (by omega) h3 rfl rfl rfl h8 Cp.zero Cp.zero Cp.zero
  have t4 := a11.2.2.2.1
  have tk1 : h1 60 0 0 = nI t := by rw [a11.2.2.1]; exact h0
  have ht1 : σ1 1 0 2 = nI t := by
    obtain ⟨tt, _, t1, t2⟩ := a7.2.2.2.2.2.2.2.2.2.1.2.2.2.2.2.1
    rw [t1, ← t2]; exact tk1
  obtain ⟨σ2, b1, b2, b3, b4, b5, b6⟩ := T_forget (σ := σ1) (t := nI t) htn (by rw [t4 28 (by decide)]; exact h3)
  have hR2 : R σ2 (cset m1 40 0 8 (nI (en (fun i => decide (¬ σ 29 0 i = nI t)) tn).1)) h1 ns N1 G1 nn1 gc1 P1 Q1 PG1 QG1 1000 1000 := R_m (R_28 a7 (fun a ha => b2 a (by omega) (by omega) (by omega) (by omega))) (cs_a _ _ (by decide)) (cs_a _ _ (by decide)) (cs_i _ _ (by decide)) (cs_i _ _ (by decide)) (cs_i _ _ (by decide))
  have hU2 : US σ2 (cset m1 40 0 8 (nI (en (fun i => decide (¬ σ 29 0 i = nI t)) tn).1)) pd := hU.keep (by rw [b2 32 (by decide) (by decide) (by decide) (by decide), t4 32 (by decide)]) (by rw [b2 33 (by decide) (by decide) (by decide) (by decide), t4 33 (by decide)]) (by rw [b2 34 (by decide) (by decide) (by decide) (by decide), t4 34 (by decide)]) (by rw [cs_i _ _ (by decide), a3 40 (by decide) (by decide) (by decide)]) (by rw [cs_a _ _ (by decide), a3 46 (by decide) (by decide) (by decide)]) (by rw [cs_a _ _ (by decide), a3 47 (by decide) (by decide) (by decide)])
  obtain ⟨σ', h', N', G', P', Q', PG', QG', nn', gc', ⟨q, n, c1, c2, c3, c4⟩, c5, c6, c7, c8, c9, c10⟩ := SIM_usual hR2 hns (by rw [b2 1 (by decide) (by decide) (by decide) (by decide)]; exact a10) tk1 ht hU2 (by omega) (by omega)
  have u4 := c10.2.2.2.1
  have len := en_le (fun i => decide (¬ σ 29 0 i = nI t)) tn
  rw [t4 29 (by decide)] at b3 b4 b5 b6
  rw [t4 30 (by decide)] at b5
  rw [t4 31 (by decide)] at b6
  refine ⟨σ', cset m1 40 0 8 (nI (en (fun i => decide (¬ σ 29 0 i = nI t)) tn).1), h', N', G', P', Q', PG', QG', nn', gc', (en (fun i => decide (¬ σ 29 0 i = nI t)) tn).1, fun d μ r => a1 d μ r _ (E3_end (by rw [t4 28 (by decide)]; exact h3) htn ht1 ht b1 (by rw [b2 1 (by decide) (by decide) (by decide) (by decide)]; exact ht1) hU2.1 hU2.2.1 c1 c2 c3 c4), fun d μ => M111 ?_, fun a x1 x2 x3 x4 => by rw [cs_a _ _ x1, a3 a x2 x3 x4], fun i hi => by rw [cs_i _ _ hi, a3 40 (by decide) (by decide) (by decide)], ⟨by omega, by rw [u4 28 (by decide)]; exact b3, by rw [cs_s], fun i hi => ?_⟩, hU2.keep (u4 32 (by decide)) (u4 33 (by decide)) (u4 34 (by decide)) rfl rfl rfl, c6, by omega, by omega, c9, by rw [c10.2.2.1, a11.2.2.1]⟩
  · rw [mm3, h14]
    refine ⟨fun _ => a2 d μ _ (fun u3 => ?_) none, fun e => absurd rfl e⟩
    rw [B111_43]
    have h8' : m1 40 0 8 = nI tn := by rw [a3 40 (by decide) (by decide) (by decide)]; exact h8
    simp (disch := omega) only [mm3, ms3, h8', nI_le', B111_148]
    exact ⟨fun _ => c5 d μ _ _, fun e => absurd (Nat.le_refl _) e⟩
  · obtain ⟨x1, x2, x3, x4, x5⟩ := hT4 _ (en_lt (fun i => decide (¬ σ 29 0 i = nI t)) tn i hi)
    rw [u4 29 (by decide), u4 30 (by decide), u4 31 (by decide), cs_a _ _ (by decide), cs_a _ _ (by decide), cs_a _ _ (by decide), b4.1 i hi, b5.1 i hi, b6.1 i hi, a4.1 i hi, a5.1 i hi, a6.1 i hi]
    exact ⟨x1, x2, x3, x4, x5⟩
