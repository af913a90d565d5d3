/-! the class's list of what is due; a phase of a tick -/
theorem find_loop {τ : Rg} {N : Nat} {P Q : Nat → Nat} (hL : LN (τ 9 0) (τ 10 0) (τ 11 0) 120 N P Q) : ∀ (c j dn : Nat) (ix : Nat → Nat) (σ : Rg), j + c = N → dn ≤ j → (∀ a, a ≠ 1 → a ≠ 35 → σ a = τ a) → (∀ i, i ≠ 10 → σ 1 0 i = τ 1 0 i) → σ 1 0 10 = nI dn → (∀ i, i < dn → ix i < j ∧ σ 35 0 i = nI (P (ix i))) → (∀ i i', i < i' → i' < dn → ix i < ix i') → (∀ k, k < j → τ 18 0 (P k) = τ 1 0 2 → ∃ i, i < dn ∧ ix i = k) →
    ∃ (σ' : Rg) (dn' : Nat) (ix' : Nat → Nat), (∀ a, a ≠ 1 → a ≠ 35 → σ' a = τ a) ∧ (∀ i, i ≠ 10 → σ' 1 0 i = τ 1 0 i) ∧ dn' ≤ N ∧ σ' 1 0 10 = nI dn' ∧ (∀ i, i < dn' → ix' i < N ∧ σ' 35 0 i = nI (P (ix' i))) ∧ (∀ i i', i < i' → i' < dn' → ix' i < ix' i') ∧ (∀ k, k < N → τ 18 0 (P k) = τ 1 0 2 → ∃ i, i < dn' ∧ ix' i = k) ∧
      ∀ d μ r, EvE (M d) 4 18 [some (.inr (r, 1, 0)), some (.inl (if j < N then nI (P j) else -1)), some (.inl (nI j))] [] (va_up μ r σ) (none, va_up μ r σ') := by
  have hN120 : N ≤ 120 := hL.1
  intro c
  induction c with
  | zero =>
    intro j dn ix σ hj hd f1 f2 h10 g1 g2 g3
    have : j = N := by omega
    subst this
    refine ⟨σ, dn, ix, f1, f2, hd, h10, g1, g2, g3, fun d μ r => ?_⟩
    rw [if_neg (Nat.lt_irrefl j), B4_18]
    simp only [B4_84, not_true_eq_false, false_implies, and_true, true_implies, implies_true]
  | succ c ih =>
    intro j dn ix σ hj hd f1 f2 h10 g1 g2 g3
    have hjN : j < N := by omega
    have hp := hL.2.1 j hjN
    have nx : τ 11 0 (P j) = if j + 1 < N then nI (P (j + 1)) else -1 := hL.2.2.2.2.2.2.2.2.2.2.1 j hjN
    have v0 : vp_in (nI (P j)) 120 := vp_in_nI (by omega) (by decide)
    have k0 : (nI (P j)).toNatClampNeg = P j := nI_cl (by omega)
    have v1 : vp_in (nI dn) 120 := vp_in_nI (by omega) (by decide)
    have k1 : (nI dn).toNatClampNeg = dn := nI_cl (by omega)
    have c0 : ¬ (120 : Int32) ≤ nI j := nI_ge (b := 120) (by omega) (by decide)
    have c1 : ¬ nI (P j) = -1 := nI_m1 (by omega)
    rw [if_pos hjN]
    by_cases e : τ 18 0 (P j) = τ 1 0 2
    · obtain ⟨σ', dn', ix', a1, a2, a3, a4, a5, a6, a7, a8⟩ := ih (j + 1) (dn + 1) (fun i => if i = dn then j else ix i) (cset (cset σ 35 0 dn (nI (P j))) 1 0 10 (nI (dn + 1))) (by omega) (by omega) (fun a b1 b2 => by rw [cs_a _ _ b1, cs_a _ _ b2, f1 a b1 b2]) (fun i hi => by rw [cs_i _ _ hi, cs_a _ _ (by decide), f2 i hi]) (by rw [cs_s]) (fun i hi => by
          rw [cs_a _ _ (by decide), cs_r, up_app]
          by_cases ei : i = dn
          · simp only [ei, if_true]; exact ⟨by omega, True.intro⟩
          · simp only [ei, if_false]
            obtain ⟨q1, q2⟩ := g1 i (by omega)
            exact ⟨by omega, q2⟩) (fun i i' h1 h2 => by
          by_cases ei : i' = dn
          · simp only [ei, if_true]
            rw [if_neg (by omega)]
            exact (g1 i (by omega)).1
          · rw [if_neg (by omega), if_neg ei]
            exact g2 i i' h1 (by omega)) (fun k hk hd' => by
          by_cases ek : k = j
          · exact ⟨dn, by omega, by rw [if_pos rfl]; exact ek.symm⟩
          · obtain ⟨i, i1, i2⟩ := g3 k (by omega) hd'
            exact ⟨i, by omega, by rw [if_neg (by omega)]; exact i2⟩)
      refine ⟨σ', dn', ix', a1, a2, a3, a4, a5, a6, a7, fun d μ r => ?_⟩
      have := a8 d μ r
      rw [← nx] at this
      rw [B4_18]
      simp (disch := decide) only [va_up_self, ms_up, k0, k1, v0, v1, c0, c1, h10, f1, f2, B4_65, nI_1, cs_a, not_true_eq_false, not_false_eq_true, true_and, and_true, false_implies, true_implies]
      exact ⟨fun e2 => absurd e e2, fun _ => this⟩
    · obtain ⟨σ', dn', ix', a1, a2, a3, a4, a5, a6, a7, a8⟩ := ih (j + 1) dn ix σ (by omega) (by omega) f1 f2 h10 (fun i hi => ⟨by have := (g1 i hi).1; omega, (g1 i hi).2⟩) g2 (fun k hk hd' => by
          by_cases ek : k = j
          · subst ek; exact absurd hd' e
          · exact g3 k (by omega) hd')
      refine ⟨σ', dn', ix', a1, a2, a3, a4, a5, a6, a7, fun d μ r => ?_⟩
      have := a8 d μ r
      rw [← nx] at this
      rw [B4_18]
      simp (disch := decide) only [va_up_self, ms_up, k0, k1, v0, v1, c0, c1, h10, f1, f2, B4_65, nI_1, cs_a, not_true_eq_false, not_false_eq_true, true_and, and_true, false_implies, true_implies]
      exact ⟨fun _ => this, fun e2 => absurd e e2⟩
theorem T_find {σ m h : Rg} {ns N G nn gc pj pg : Nat} {P Q PG QG : Nat → Nat} (hR : R σ m h ns N G nn gc P Q PG QG pj pg) : ∃ σ' dn pl nu, CX 1 4 1 0 [] σ none σ' ∧ (∀ a, a ≠ 1 → a ≠ 35 → σ' a = σ a) ∧ (∀ i, i ≠ 10 → σ' 1 0 i = σ 1 0 i) ∧ DU σ' h N P dn pl nu := by
  obtain ⟨r1, r2, r3, r4, r5, r6, r7, r8, r9, r10, r11⟩ := hR
  have hN120 : N ≤ 120 := r1.1
  obtain ⟨tt, ht0, ht1, ht2⟩ := r10.2.2.2.2.2.1
  have e2 : σ 9 0 2 = if N = 0 then -1 else nI (P 0) := r1.2.2.2.2.2.2.2.1
  obtain ⟨σ', dn, ix, a1, a2, a3, a4, a5, a6, a7, a8⟩ := find_loop r1 N 0 0 id (cset σ 1 0 10 0) (by omega) (by omega) (fun a b1 b2 => cs_a _ _ b1) (fun i hi => cs_i _ _ hi) (by rw [cs_s]; rfl) (fun i hi => absurd hi (by omega)) (fun i i' h1 h2 => absurd h2 (by omega)) (fun k hk => absurd hk (by omega))
  refine ⟨σ', dn, fun i => P (ix i), fun i => h 67 0 (ix i), fun d μ r => M4 ?_, a1, a2, by omega, a4, fun i hi => ⟨r1.2.1 _ (a5 i hi).1, (a5 i hi).2⟩, fun i j hij hj => r4.2 _ _ (a6 i j hij hj) (a5 j hj).1, fun i j hi hj e => ?_, fun k hk e => ?_, fun i hi => Or.inl ⟨ix i, (a5 i hi).1, rfl⟩⟩
  · have := a8 d μ r
    rw [va_up_self, ms_up, e2]
    by_cases e : N = 0
    · rw [if_pos e]; rw [if_neg (by omega)] at this; exact this
    · rw [if_neg e]; rw [if_pos (by omega)] at this; exact this
  · have e' := r1.2.2.2.1 _ _ (a5 i hi).1 (a5 j hj).1 e
    rcases Nat.lt_trichotomy i j with q | q | q
    · have := a6 i j q hj; omega
    · exact q
    · have := a6 j i q hi; omega
  · obtain ⟨i, i1, i2⟩ := a7 k hk (by rw [← (r3 k hk).2.2.2.2.1, e, ht1, ht2])
    exact ⟨i, i1, by dsimp only; rw [i2], by dsimp only; rw [i2]⟩
theorem phase {st : Int32} (hst : ¬ st = -1) (CL : Nat → Rg → Rg → Prop) (ML : Rg → Nat → Rg → Rg → Prop)
    (cstop : ∀ {σ : Rg} {dn i : Nat}, σ 1 0 10 = nI dn → dn ≤ i → i ≤ 120 → CL i σ σ)
    (cskip : ∀ {σ σ' : Rg} {dn i p : Nat}, σ 1 0 10 = nI dn → i < dn → dn ≤ 120 → σ 35 0 i = nI p → p < 120 → ¬ (σ 15 0 p = st ∧ σ 18 0 p = σ 1 0 2) → CL (i + 1) σ σ' → CL i σ σ')
    (mstop : ∀ {m h : Rg} {mn i : Nat}, m 40 0 19 = nI mn → mn ≤ i → i ≤ 120 → ML m i h h)
    (mskip : ∀ {m h h' : Rg} {mn i : Nat}, m 40 0 19 = nI mn → i < mn → mn ≤ 120 → MX 2 105 [.inl (m 48 0 i), .inl st] m h (some 0) m h → ML m (i + 1) h h' → ML m i h h')
    (body : ∀ {σ m h : Rg} {ns N G nn gc k dn i mn i' : Nat} {P Q PG QG : Nat → Nat}, R σ m h ns N G nn gc P Q PG QG 1000 1000 → σ 1 0 11 = -1 → 0 < ns → nn + 1 < 1073741824 → k < N → h 70 0 k = st → h 72 0 k = h 60 0 0 → σ 1 0 10 = nI dn → i < dn → dn ≤ 120 → σ 35 0 i = nI (P k) → m 40 0 19 = nI mn → i' < mn → mn ≤ 120 → m 48 0 i' = h 67 0 k →
      ∃ σ1 h1 N' G' P' Q' PG' QG' nn', (∀ σ', CL (i + 1) σ1 σ' → CL i σ σ') ∧ (∀ h', ML m (i' + 1) h1 h' → ML m i' h h') ∧ R σ1 m h1 ns N' G' nn' gc P' Q' PG' QG' 1000 1000 ∧ nn' ≤ nn + 1 ∧ σ1 1 0 11 = -1 ∧ Tr N N' P P' σ σ1 h h1) :
    ∀ (c : Nat) {σ m h : Rg} {ns N G nn gc dn i mn i' : Nat} {P Q PG QG pl : Nat → Nat} {nu : Nat → Int32} {L : List Int32}, R σ m h ns N G nn gc P Q PG QG 1000 1000 → σ 1 0 11 = -1 → 0 < ns → DU σ h N P dn pl nu → i + c = dn → Dch (fun i => isD h N P st (pl i) (nu i)) nu c i L → Seg (m 48 0) mn L i' → m 40 0 19 = nI mn → mn ≤ 120 → nn + c < 1073741824 →
      ∃ σ' h' N' G' P' Q' PG' QG' nn', CL i σ σ' ∧ ML m i' h h' ∧ R σ' m h' ns N' G' nn' gc P' Q' PG' QG' 1000 1000 ∧ nn' ≤ nn + c ∧ σ' 1 0 11 = -1 ∧ Tr N N' P P' σ σ' h h' := by
  intro c
  induction c with
  | zero =>
    intro σ m h ns N G nn gc dn i mn i' P Q PG QG pl nu L hR h11 hns hD hi hC hS h19 hmn hnn
    have hL : L = [] := hC
    subst hL
    have hS' : i' = mn := hS
    refine ⟨σ, h, N, G, P, Q, PG, QG, nn, cstop hD.2.1 (by omega) (by have := hD.1; omega), mstop h19 (by omega) (by omega), hR, by omega, h11, Tr.refl⟩
  | succ c ih =>
    intro σ m h ns N G nn gc dn i mn i' P Q PG QG pl nu L hR h11 hns hD hi hC hS h19 hmn hnn
    obtain ⟨d1, d2, d3, d4, d5, d6, d7⟩ := id hD
    have hid : i < dn := by omega
    obtain ⟨p1, p2⟩ := d3 i hid
    have iff := hD.is hR hid hst
    rcases hC with ⟨c1, c2⟩ | ⟨L', c1, c2⟩
    · obtain ⟨σ', h', N', G', P', Q', PG', QG', nn', a1, a2, a3, a4, a5, a6⟩ := ih hR h11 hns hD (by omega) c2 hS h19 hmn (by omega)
      exact ⟨σ', h', N', G', P', Q', PG', QG', nn', cskip d2 hid d1 p2 p1 (fun e => c1 (iff.mp e)) a1, a2, a3, by omega, a5, a6⟩
    · subst c1
      obtain ⟨s1, s2, s3⟩ := hS
      by_cases hd : isD h N P st (pl i) (nu i)
      · obtain ⟨k, k1, k2, k3, k4, k5⟩ := hd
        obtain ⟨σ1, h1, N1, G1, P1, Q1, PG1, QG1, nn1, b1, b2, b3, b4, b5, b6⟩ := body hR h11 hns (by omega) k1 k4 k5 d2 hid d1 (by rw [k2]; exact p2) h19 s1 hmn (s2.trans k3.symm)
        obtain ⟨σ', h', N', G', P', Q', PG', QG', nn', a1, a2, a3, a4, a5, a6⟩ := ih b3 b5 hns (hD.tr b6) (by omega) (Dch.mono (fun i => isD.tr b6) _ _ _ c2) s3 h19 hmn (by omega)
        exact ⟨σ', h', N', G', P', Q', PG', QG', nn', b1 _ a1, b2 _ a2, a3, by omega, a5, b6.trans a6⟩
      · obtain ⟨σ', h', N', G', P', Q', PG', QG', nn', a1, a2, a3, a4, a5, a6⟩ := ih hR h11 hns hD (by omega) c2 s3 h19 hmn (by omega)
        have r4 := hR.2.2.2.1
        refine ⟨σ', h', N', G', P', Q', PG', QG', nn', cskip d2 hid d1 p2 p1 (fun e => hd (iff.mp e)) a1, mskip h19 s1 hmn (T_isSo0 hR.2.2.2.2.2.2.2.2.2.1.2.1 hR.1.1 (fun i j hi hj e => r4.uniq hi hj e) (fun k hk e1 e2 => ?_)) a2, a3, by omega, a5, a6⟩
        rw [s2] at e1
        obtain ⟨i2, q1, q2, q3⟩ := d6 k hk e2.2
        have : i2 = i := by
          rcases Nat.lt_trichotomy i2 i with q | q | q
          · exact absurd (q3.symm.trans e1) (nI_lt_ne (d4 _ _ q hid))
          · exact q
          · exact absurd (e1.symm.trans q3) (nI_lt_ne (d4 _ _ q q1))
        subst this
        exact hd ⟨k, hk, q2, q3, e2.1, e2.2⟩
theorem DU.scan {σ m h : Rg} {ns N G nn gc dn pj pg : Nat} {P Q PG QG pl : Nat → Nat} {nu : Nat → Int32} (st : Int32) (hD : DU σ h N P dn pl nu) (hR : R σ m h ns N G nn gc P Q PG QG pj pg) : Dch (fun i => isD h N P st (pl i) (nu i)) nu dn 0 (scanL (dst h st) (h 67 0) N 0) := by
  obtain ⟨d1, d2, d3, d4, d5, d6, d7⟩ := hD
  refine Dch_scan hR.2.2.2.1.2 d4 (fun k hk e => ?_) (fun i hi e => ?_) dn 0 N 0 (by omega) (by omega) (fun k hk e i hi e2 => ⟨fun _ => Nat.zero_le _, fun _ => Nat.zero_le _⟩)
  · unfold dst at e
    obtain ⟨i, i1, i2, i3⟩ := d6 k hk (of_decide_eq_true e).2
    exact ⟨i, i1, i3⟩
  · obtain ⟨k, k1, k2, k3, k4, k5⟩ := e
    exact ⟨k, k1, by unfold dst; exact decide_eq_true ⟨k4, k5⟩, k3⟩
