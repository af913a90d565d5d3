/-! place, usual -/
theorem w_pred {x : Int32} {n : Nat} (hn : n < 2147483648) : (x < 0 ∨ nI n - 1 < x) ↔ (x < 0 ∨ nI n ≤ x) := by
  by_cases z : n = 0
  · subst z
    constructor
    · rintro (e | e)
      · exact Or.inl e
      · by_cases q : x < 0
        · exact Or.inl q
        · exact Or.inr (Int32.not_lt.mp q)
    · rintro (e | e)
      · exact Or.inl e
      · exact Or.inr (Int32.lt_of_lt_of_le (by decide) e)
  · rw [nI_dn (show n = (n - 1) + 1 by omega)]
    have : nI (n - 1) < x ↔ nI n ≤ x := by
      rw [Int32.lt_iff_toInt_lt, Int32.le_iff_toInt_le, nI_toInt (by omega), nI_toInt (by omega)]
      omega
    rw [this]
theorem US.place {σ m : Rg} {pd i q k : Nat} (h : US σ m pd) (hi : i < pd) (hq : q < 8) (hk : k ≤ 5) : US (cset (cset σ 33 0 i (nI q)) 34 0 i (nI k)) (cset (cset m 46 0 i (nI q)) 47 0 i (nI k)) pd := by
  obtain ⟨h1, h2, h3, h4, h5⟩ := h
  refine ⟨h1, ?_, ?_, fun e => absurd hi (by omega), fun i' hi' => ?_⟩
  · simp (disch := decide) only [cs_a]; exact h2
  · simp (disch := decide) only [cs_a]; exact h3
  · simp (disch := decide) only [cs_a, cs_r]
    by_cases e : i' = i
    · subst e
      simp only [va_up_self]
      exact ⟨True.intro, ⟨q, hq, rfl⟩, k, hk, rfl, fun _ => True.intro⟩
    · simp (disch := assumption) only [va_up_ne]
      exact h5 i' hi'
theorem CALL_place (x y z : Int32) : CALL 51 84 [.inl x, .inl y, .inl z] := by
  intro μ hB
  obtain ⟨ns, N, G, nn, gc, t, pd, P, Q, PG, QG, hR, ⟨h11, h12⟩, h0, ht, hnn, hgc, h14, ⟨tn, hT⟩, hU, hpr, hfr⟩ := id hB
  obtain ⟨u1, u2, u3, -, -⟩ := id hU
  have w := fun d => T_within (d := d) (μ := μ) (x := x) (a := 0) (b := nI pd - 1)
  rcases nI_rng x (n := pd) (by omega) with ⟨i, hi, rfl, x0, x1⟩ | ⟨hx, hx2⟩
  · have xn : ¬ nI pd ≤ nI i := Int32.not_le.mpr x1
    rw [if_neg (fun e => ((w_pred (by omega)).mp e).elim x0 xn)] at w
    have v0 : vp_in (nI i) 12 := vp_in_nI (by omega) (by decide)
    have k0 : (nI i).toNatClampNeg = i := nI_cl (by omega)
    have xm : ∀ μ' : Mem, μ' 3 = μ 3 → ¬ μ' 3 40 0 9 ≤ nI i := fun μ' h => by rw [h, u3]; exact xn
    rcases isK μ μ y with ⟨q, hq, rfl, b1, b2⟩ | ⟨b1, b2⟩
    · by_cases hz : z < 0 ∨ 5 < z
      · have u := fun d => T_within (d := d) (μ := μ) (x := z) (a := 0) (b := 5)
        have u' := fun d => T_mwithin (d := d) (μ := μ) (x := z) (a := 0) (b := 5)
        rw [if_pos hz] at u u'
        exact ⟨-1, μ, μ, M_up (k := 3) (fun d => M51 ⟨_, _, by show M (d + 2) 72 [.inl (nI i), .inl 0, .inl (μ 1 32 0 2 - 1)] μ _; rw [u2]; exact w (d + 1), fun e => absurd e (by decide), fun _ => ⟨_, _, b1 d, fun e => absurd e (by decide), fun _ => ⟨_, _, u (d + 1), fun e => absurd rfl e, fun _ => B51_36.mpr rfl⟩⟩⟩) (by decide), M_up (k := 3) (fun d => M84 ⟨fun e => absurd e x0, fun _ => ⟨fun e => absurd e (xm μ rfl), fun _ => ⟨_, _, b2 d, fun e => absurd e (by decide), fun _ => ⟨_, _, u' (d + 1), fun e => absurd rfl e, fun _ => B84_28.mpr rfl⟩⟩⟩⟩) (by decide), hB⟩
      · obtain ⟨k, k1, k2, rfl⟩ := nI_btw (x := z) (a := 0) (b := 5) (by decide) (by decide) (fun e => hz (Or.inl e)) (fun e => hz (Or.inr e))
        have u := fun d => T_within (d := d) (μ := μ) (x := nI k) (a := 0) (b := 5)
        rw [if_neg hz] at u
        obtain ⟨σ', hσ⟩ : ∃ σ', σ' = cset (cset (μ 1) 33 0 i (nI q)) 34 0 i (nI k) := ⟨_, rfl⟩
        obtain ⟨m', hm⟩ : ∃ m', m' = cset (cset (μ 3) 46 0 i (nI q)) 47 0 i (nI k) := ⟨_, rfl⟩
        have f3 : va_up μ 1 σ' 3 = μ 3 := va_up_ne _ _ (by decide)
        have b3 : ∀ d, M (d + 2) 76 [.inl (nI q)] (va_up μ 1 σ') (some 1, va_up μ 1 σ') := fun d => by
          have c' := T_mwithin (d := d) (μ := va_up μ 1 σ') (x := nI q) (a := 0) (b := 7)
          rw [if_neg (fun w => w.elim (fun e => nI_pos (by omega) e) (fun e => absurd ((nI_ltI (a := 7) (by decide) (by omega)).mp e) (by omega)))] at c'
          exact M76 ⟨1, _, c', Or.inr rfl, rfl⟩
        have u' := fun d => T_mwithin (d := d) (μ := va_up μ 1 σ') (x := nI k) (a := 0) (b := 5)
        rw [if_neg hz] at u'
        refine ⟨1, va_up μ 1 σ', va_up (va_up μ 1 σ') 3 m', M_up (k := 3) (fun d => M51 ⟨_, _, by show M (d + 2) 72 [.inl (nI i), .inl 0, .inl (μ 1 32 0 2 - 1)] μ _; rw [u2]; exact w (d + 1), fun e => absurd e (by decide), fun _ => ⟨_, _, b1 d, fun e => absurd e (by decide), fun _ => ⟨_, _, u (d + 1), fun _ => ⟨v0, v0, ?_⟩, fun e => absurd (by decide) e⟩⟩⟩) (by decide), M_up (k := 3) (fun d => M84 ⟨fun e => absurd e x0, fun _ => ⟨fun e => absurd e (xm _ f3), fun _ => ⟨_, _, b3 d, fun e => absurd e (by decide), fun _ => ⟨_, _, u' (d + 1), fun _ => ⟨v0, v0, ?_⟩, fun e => absurd (by decide) e⟩⟩⟩⟩) (by decide), ?_⟩
        · rw [k0, hσ, mset_e μ, ms_up]
        · rw [k0, hm, mset_e (va_up μ 1 σ'), ms_up, f3]
        · have so : ∀ a, a ≠ 33 → a ≠ 34 → σ' a = μ 1 a := fun a q1 q2 => by rw [hσ, cs_a _ _ q2, cs_a _ _ q1]
          have mo : ∀ a, a ≠ 46 → a ≠ 47 → m' a = μ 3 a := fun a q1 q2 => by rw [hm, cs_a _ _ q2, cs_a _ _ q1]
          have m40 := mo 40 (by decide) (by decide)
          refine ⟨ns, N, G, nn, gc, t, pd, P, Q, PG, QG, ?_⟩
          simp (disch := decide) only [va_up_self, va_up_ne]
          refine ⟨R_m (R_28 hR (fun a ha => so a (by omega) (by omega))) (mo 41 (by decide) (by decide)) (mo 42 (by decide) (by decide)) (by rw [m40]) (by rw [m40]) (by rw [m40]), ⟨?_, h12⟩, h0, ht, hnn, hgc, ?_, ⟨tn, hT.keep (so 28 (by decide) (by decide)) (so 29 (by decide) (by decide)) (so 30 (by decide) (by decide)) (so 31 (by decide) (by decide)) (by rw [m40]) (mo 43 (by decide) (by decide)) (mo 44 (by decide) (by decide)) (mo 45 (by decide) (by decide))⟩, ?_, ?_, fun e => ⟨(hfr e).1, fun s' q1 q2 => ((hfr e).2 s' q1 q2).keep (by rw [so 4 (by decide) (by decide)]) (so 3 (by decide) (by decide)) (fun j' hj' => by rw [mo 41 (by decide) (by decide)])⟩⟩
          · rw [so 1 (by decide) (by decide)]; exact h11
          · rw [m40]; exact h14
          · rw [hσ, hm]; exact hU.place hi hq k2
          · rw [m40]; exact hpr
    · exact ⟨-1, μ, μ, M_up (k := 3) (fun d => M51 ⟨_, _, by show M (d + 2) 72 [.inl (nI i), .inl 0, .inl (μ 1 32 0 2 - 1)] μ _; rw [u2]; exact w (d + 1), fun e => absurd e (by decide), fun _ => ⟨_, _, b1 d, fun _ => B51_36.mpr rfl, fun e => absurd rfl e⟩⟩) (by decide), M_up (k := 3) (fun d => M84 ⟨fun e => absurd e x0, fun _ => ⟨fun e => absurd e (xm μ rfl), fun _ => ⟨_, _, b2 d, fun _ => B84_28.mpr rfl, fun e => absurd rfl e⟩⟩⟩) (by decide), hB⟩
  · rw [if_pos ((w_pred (by omega)).mpr hx)] at w
    exact ⟨-1, μ, μ, M_up (k := 3) (fun d => M51 ⟨_, _, by show M (d + 2) 72 [.inl x, .inl 0, .inl (μ 1 32 0 2 - 1)] μ _; rw [u2]; exact w (d + 1), fun _ => B51_36.mpr rfl, fun e => absurd rfl e⟩) (by decide), M_up (k := 3) (fun d => M84 ⟨fun _ => B84_28.mpr rfl, fun e => ⟨fun _ => B84_28.mpr rfl, fun e2 => absurd hx (fun q => q.elim e (fun q2 => e2 (by rw [u3]; exact q2)))⟩⟩) (by decide), hB⟩
theorem fill_33 {v : Int32} : ∀ (q k : Nat) (σ : Rg), q + k = 12 → ∃ σ', (∀ (d : Nat) (μ : Mem) (r : Nat), EvE (M d) 130 5 [some (.inr (r, 33, 0)), some (.inl v), some (.inl (nI k)), some (.inl (nI 12))] [] (va_up μ r σ) (none, va_up μ r σ')) ∧ (∀ a, a ≠ 33 → σ' a = σ a) ∧ (∀ i, k ≤ i → i < 12 → σ' 33 0 i = v) ∧ ∀ i, i < k → σ' 33 0 i = σ 33 0 i := by
  intro q
  induction q with
  | zero =>
    intro k σ hk
    refine ⟨σ, fun d μ r => B130v33_5.mpr ⟨fun _ => rfl, fun e => absurd ?_ e⟩, fun _ _ => rfl, fun i h1 h2 => by omega, fun _ _ => rfl⟩
    rw [nI_le' (by omega) (by omega)]; omega
  | succ q ih =>
    intro k σ hk
    have v0 : vp_in (nI k) 12 := vp_in_nI (by omega) (by decide)
    have k0 : (nI k).toNatClampNeg = k := nI_cl (by omega)
    obtain ⟨σ', a1, a2, a3, a4⟩ := ih (k + 1) (cset σ 33 0 k v) (by omega)
    refine ⟨σ', fun d μ r => B130v33_5.mpr ⟨fun e => absurd e ?_, fun _ => ⟨v0, ?_⟩⟩, fun a ha => by rw [a2 a ha, cs_a _ _ ha], fun i h1 h2 => ?_, fun i hi => ?_⟩
    · rw [nI_le' (by omega) (by omega)]; omega
    · rw [k0, nI_1, ms_up]; exact a1 d μ r
    · by_cases e : i = k
      · rw [a4 i (by omega), e, cs_s]
      · exact a3 i (by omega) h2
    · rw [a4 i (by omega), cs_i _ _ (by omega)]
theorem fill_34 {v : Int32} : ∀ (q k : Nat) (σ : Rg), q + k = 12 → ∃ σ', (∀ (d : Nat) (μ : Mem) (r : Nat), EvE (M d) 130 5 [some (.inr (r, 34, 0)), some (.inl v), some (.inl (nI k)), some (.inl (nI 12))] [] (va_up μ r σ) (none, va_up μ r σ')) ∧ (∀ a, a ≠ 34 → σ' a = σ a) ∧ (∀ i, k ≤ i → i < 12 → σ' 34 0 i = v) ∧ ∀ i, i < k → σ' 34 0 i = σ 34 0 i := by
  intro q
  induction q with
  | zero =>
    intro k σ hk
    refine ⟨σ, fun d μ r => B130v34_5.mpr ⟨fun _ => rfl, fun e => absurd ?_ e⟩, fun _ _ => rfl, fun i h1 h2 => by omega, fun _ _ => rfl⟩
    rw [nI_le' (by omega) (by omega)]; omega
  | succ q ih =>
    intro k σ hk
    have v0 : vp_in (nI k) 12 := vp_in_nI (by omega) (by decide)
    have k0 : (nI k).toNatClampNeg = k := nI_cl (by omega)
    obtain ⟨σ', a1, a2, a3, a4⟩ := ih (k + 1) (cset σ 34 0 k v) (by omega)
    refine ⟨σ', fun d μ r => B130v34_5.mpr ⟨fun e => absurd e ?_, fun _ => ⟨v0, ?_⟩⟩, fun a ha => by rw [a2 a ha, cs_a _ _ ha], fun i h1 h2 => ?_, fun i hi => ?_⟩
    · rw [nI_le' (by omega) (by omega)]; omega
    · rw [k0, nI_1, ms_up]; exact a1 d μ r
    · by_cases e : i = k
      · rw [a4 i (by omega), e, cs_s]
      · exact a3 i (by omega) h2
    · rw [a4 i (by omega), cs_i _ _ (by omega)]
theorem us_loop {x : Int32} : ∀ (q k : Nat) (m : Rg), q + k = 12 → ∃ m', (∀ (d : Nat) (μ : Mem), EvE (M d) 83 19 [some (.inr (3, 40, 0)), some (.inl x), some (.inl (nI k))] [] (va_up μ 3 m) (some 1, va_up μ 3 m')) ∧ (∀ a, a ≠ 47 → m' a = m a) ∧ (∀ i, k ≤ i → i < 12 → m' 47 0 i = 0) ∧ ∀ i, i < k → m' 47 0 i = m 47 0 i := by
  intro q
  induction q with
  | zero =>
    intro k σ hk
    refine ⟨σ, fun d μ => B83_19.mpr ⟨fun _ => rfl, fun e => absurd ?_ e⟩, fun _ _ => rfl, fun i h1 h2 => by omega, fun _ _ => rfl⟩
    exact (nI_leI (a := 12) (by decide) (by omega)).mpr (by omega)
  | succ q ih =>
    intro k σ hk
    have v0 : vp_in (nI k) 12 := vp_in_nI (by omega) (by decide)
    have k0 : (nI k).toNatClampNeg = k := nI_cl (by omega)
    obtain ⟨σ', a1, a2, a3, a4⟩ := ih (k + 1) (cset σ 47 0 k 0) (by omega)
    refine ⟨σ', fun d μ => B83_19.mpr ⟨fun e => absurd ((nI_leI (a := 12) (by decide) (by omega)).mp e) (by omega), fun _ => ⟨v0, ?_⟩⟩, fun a ha => by rw [a2 a ha, cs_a _ _ ha], fun i h1 h2 => ?_, fun i hi => ?_⟩
    · rw [k0, nI_1, ms_up]; exact a1 d μ
    · by_cases e : i = k
      · rw [a4 i (by omega), e, cs_s]
      · exact a3 i (by omega) h2
    · rw [a4 i (by omega), cs_i _ _ (by omega)]
theorem CALL_usual (x : Int32) : CALL 50 83 [.inl x] := by
  intro μ hB
  obtain ⟨ns, N, G, nn, gc, t, pd, P, Q, PG, QG, hR, ⟨h11, h12⟩, h0, ht, hnn, hgc, h14, ⟨tn, hT⟩, hU, hpr, hfr⟩ := id hB
  by_cases hx : x < 1 ∨ 12 < x
  · have w := fun d => T_within (d := d) (μ := μ) (x := x) (a := 1) (b := 12)
    have w' := fun d => T_mwithin (d := d) (μ := μ) (x := x) (a := 1) (b := 12)
    rw [if_pos hx] at w w'
    exact ⟨-1, μ, μ, M_up (k := 2) (fun d => M50 ⟨_, _, w d, fun e => absurd rfl e, fun _ => rfl⟩) (by decide), M_up (k := 2) (fun d => M83 ⟨_, _, w' d, fun e => absurd rfl e, fun _ => rfl⟩) (by decide), hB⟩
  · obtain ⟨n, n1, n2, rfl⟩ := nI_btw (x := x) (a := 1) (b := 12) (by decide) (by decide) (fun e => hx (Or.inl e)) (fun e => hx (Or.inr e))
    obtain ⟨σ1, a1, a2, a3, -⟩ := fill_33 (v := 0) 12 0 (cset (μ 1) 32 0 2 (nI n)) (by omega)
    obtain ⟨σ2, b1, b2, b3, -⟩ := fill_34 (v := 0) 12 0 σ1 (by omega)
    obtain ⟨m2, c1, c2, c3, -⟩ := us_loop (x := nI n) 12 0 (cset (μ 3) 40 0 9 (nI n)) (by omega)
    have w := fun d => T_within (d := d) (μ := μ) (x := nI n) (a := 1) (b := 12)
    have w' := fun d => T_mwithin (d := d) (μ := va_up μ 1 σ2) (x := nI n) (a := 1) (b := 12)
    rw [if_neg hx] at w w'
    have f3 : va_up μ 1 σ2 3 = μ 3 := va_up_ne _ _ (by decide)
    refine ⟨1, va_up μ 1 σ2, va_up (va_up μ 1 σ2) 3 m2, M_up (k := 3) (fun d => M50 ⟨_, _, w (d + 1), fun _ => ⟨va_up μ 1 σ2, M34 ⟨va_up μ 1 σ1, M130v33 (a1 d μ 1), va_up μ 1 σ2, M130v34 (b1 d μ 1), rfl⟩, rfl⟩, fun e => absurd (by decide) e⟩) (by decide), M_up (k := 3) (fun d => M83 ⟨_, _, w' (d + 1), fun _ => ?_, fun e => absurd (by decide) e⟩) (by decide), ?_⟩
    · rw [mset_e, f3]; exact c1 _ _
    · have so : ∀ a, a ≠ 32 → a ≠ 33 → a ≠ 34 → σ2 a = μ 1 a := fun a q1 q2 q3 => by rw [b2 a q3, a2 a q2, cs_a _ _ q1]
      have mo : ∀ a, a ≠ 40 → a ≠ 47 → m2 a = μ 3 a := fun a q1 q2 => by rw [c2 a q2, cs_a _ _ q1]
      have m9 : ∀ i, i ≠ 9 → m2 40 0 i = μ 3 40 0 i := fun i hi => by rw [c2 40 (by decide), cs_i _ _ hi]
      refine ⟨ns, N, G, nn, gc, t, n, P, Q, PG, QG, ?_⟩
      simp (disch := decide) only [va_up_self, va_up_ne]
      refine ⟨R_m (R_28 hR (fun a ha => so a (by omega) (by omega) (by omega))) (mo 41 (by decide) (by decide)) (mo 42 (by decide) (by decide)) (m9 2 (by decide)) (m9 3 (by decide)) (m9 4 (by decide)), ⟨?_, h12⟩, h0, ht, hnn, hgc, ?_, ⟨tn, hT.keep (so 28 (by decide) (by decide) (by decide)) (so 29 (by decide) (by decide) (by decide)) (so 30 (by decide) (by decide) (by decide)) (so 31 (by decide) (by decide) (by decide)) (m9 8 (by decide)) (mo 43 (by decide) (by decide)) (mo 44 (by decide) (by decide)) (mo 45 (by decide) (by decide))⟩, ⟨n2, ?_, ?_, fun e => by omega, fun i hi => ⟨?_, ⟨0, by decide, ?_⟩, 0, by decide, ?_, fun e => absurd e (by decide)⟩⟩, ?_, fun e => ⟨(hfr e).1, fun s' q1 q2 => ((hfr e).2 s' q1 q2).keep (by rw [so 4 (by decide) (by decide) (by decide)]) (so 3 (by decide) (by decide) (by decide)) (fun j' hj' => by rw [mo 41 (by decide) (by decide)])⟩⟩
      · rw [so 1 (by decide) (by decide) (by decide)]; exact h11
      · rw [m9 14 (by decide)]; exact h14
      · rw [b2 32 (by decide), a2 32 (by decide), cs_s]
      · rw [c2 40 (by decide), cs_s]
      · rw [b3 i (by omega) (by omega), c3 i (by omega) (by omega)]
      · rw [b2 33 (by decide), a3 i (by omega) (by omega)]; rfl
      · rw [b3 i (by omega) (by omega)]; rfl
      · rw [m9 17 (by decide)]; exact hpr
