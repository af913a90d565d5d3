/-! guests, crowd -/
theorem R_pat {σ m h : Rg} {ns N G nn gc pj pg n : Nat} {P Q PG QG : Nat → Nat} (hR : R σ m h ns N G nn gc P Q PG QG pj pg) (h1 : 1 ≤ n) (h2 : n ≤ 60) : R (cset σ 20 0 5 (nI n)) (cset m 40 0 3 (nI n)) h ns N G nn gc P Q PG QG pj pg := by
  obtain ⟨r1, r2, r3, r4, r5, r6, r7, r8, r9, ⟨c1, c2, c3, c4, c5, c6, c7, c8, c9, c10, c11, c12, c13⟩, r11⟩ := hR
  refine ⟨?_, ?_, ?_, ?_, ?_, ?_, ?_, ?_, ?_, ?_, ?_⟩ <;> try simp (disch := decide) only [cs_a, cs_i, cs_s]
  · exact r1
  · exact r2
  · exact r3
  · exact r4
  · exact r5
  · exact r6
  · exact r7
  · exact r8
  · exact r9
  · exact ⟨c1, c2, c3, c4, c5, c6, c7, c8, c9, c10, c11, ⟨rfl, n, h1, h2, rfl⟩, c13⟩
  · exact r11
theorem R_mag {σ m h : Rg} {ns N G nn gc pj pg n : Nat} {P Q PG QG : Nat → Nat} (hR : R σ m h ns N G nn gc P Q PG QG pj pg) (h2 : n ≤ 3) : R (cset σ 20 0 6 (nI n)) (cset m 40 0 4 (nI n)) h ns N G nn gc P Q PG QG pj pg := by
  obtain ⟨r1, r2, r3, r4, r5, r6, r7, r8, r9, ⟨c1, c2, c3, c4, c5, c6, c7, c8, c9, c10, c11, c12, c13⟩, r11⟩ := hR
  refine ⟨?_, ?_, ?_, ?_, ?_, ?_, ?_, ?_, ?_, ?_, ?_⟩ <;> try simp (disch := decide) only [cs_a, cs_i, cs_s]
  · exact r1
  · exact r2
  · exact r3
  · exact r4
  · exact r5
  · exact r6
  · exact r7
  · exact r8
  · exact r9
  · exact ⟨c1, c2, c3, c4, c5, c6, c7, c8, c9, c10, c11, c12, ⟨rfl, n, h2, rfl⟩⟩
  · exact r11
theorem CALL_guests (x y : Int32) : CALL 48 81 [.inl x, .inl y] := by
  intro μ hB
  obtain ⟨ns, N, G, nn, gc, t, pd, P, Q, PG, QG, hR, ⟨h11, h12⟩, h0, ht, hnn, hgc, h14, ⟨tn, hT⟩, hU, hpr, hfr⟩ := id hB
  obtain ⟨c1, c2, c3, c4, c5, c6, c7, c8, c9, c10, c11, ⟨c12, -⟩, ⟨c13, -⟩⟩ := hR.2.2.2.2.2.2.2.2.2.1
  have m0 : ∀ (d : Nat) (μ : Mem), M (d + 1) 74 [.inl 0, .inl 0, .inl 1] μ (some 1, μ) := fun d μ => by
    have := T_mwithin (d := d) (μ := μ) (x := 0) (a := 0) (b := 1)
    rw [if_neg (by decide)] at this; exact this
  have m1 : ∀ (d : Nat) (μ : Mem), M (d + 1) 74 [.inl 1, .inl 0, .inl 1] μ (some 1, μ) := fun d μ => by
    have := T_mwithin (d := d) (μ := μ) (x := 1) (a := 0) (b := 1)
    rw [if_neg (by decide)] at this; exact this
  by_cases x0 : x = 0
  · subst x0
    by_cases hy : y < 1 ∨ 60 < y
    · have w := fun d => T_within (d := d) (μ := μ) (x := y) (a := 1) (b := 60)
      have w' := fun d => T_mwithin (d := d) (μ := μ) (x := y) (a := 1) (b := 60)
      rw [if_pos hy] at w w'
      exact ⟨-1, μ, μ, M_up (k := 2) (fun d => M48 ⟨fun e => absurd rfl e, fun _ => ⟨_, _, w d, fun _ => B48_39.mpr ⟨fun _ => B48_78.mpr (B48_80.mpr rfl), fun e => absurd (by decide) e⟩, fun e => absurd rfl e⟩⟩) (by decide), M_up (k := 2) (fun d => M81 ⟨_, _, m0 d μ, fun e => absurd e (by decide), fun _ => ⟨fun e => absurd rfl e, fun _ => B81_19.mpr ⟨fun e => absurd rfl e, fun _ => B81_29.mpr ⟨_, _, w' d, fun e => absurd rfl e, fun _ => B81_35.mpr rfl⟩⟩⟩⟩) (by decide), hB⟩
    · obtain ⟨n, n1, n2, rfl⟩ := nI_btw (x := y) (a := 1) (b := 60) (by decide) (by decide) (fun e => hy (Or.inl e)) (fun e => hy (Or.inr e))
      have w := fun d => T_within (d := d) (μ := μ) (x := nI n) (a := 1) (b := 60)
      have w' := fun d => T_mwithin (d := d) (μ := va_up μ 1 (cset (μ 1) 20 0 5 (nI n))) (x := nI n) (a := 1) (b := 60)
      rw [if_neg hy] at w w'
      have f3 : va_up μ 1 (cset (μ 1) 20 0 5 (nI n)) 3 = μ 3 := va_up_ne _ _ (by decide)
      refine ⟨μ 1 20 0 5, va_up μ 1 (cset (μ 1) 20 0 5 (nI n)), va_up (va_up μ 1 (cset (μ 1) 20 0 5 (nI n))) 3 (cset (μ 3) 40 0 3 (nI n)), M_up (k := 2) (fun d => M48 ⟨fun e => absurd rfl e, fun _ => ⟨_, _, w d, fun e => absurd e (by decide), fun _ => B48_80.mpr rfl⟩⟩) (by decide), M_up (k := 2) (fun d => M81 ⟨_, _, m0 d _, fun e => absurd e (by decide), fun _ => ⟨fun e => absurd rfl e, fun _ => B81_19.mpr ⟨fun e => absurd rfl e, fun _ => B81_29.mpr ⟨_, _, w' d, fun _ => ⟨fun e => absurd rfl e, fun _ => B81_52.mpr ⟨fun e => absurd rfl e, fun _ => B81_70.mpr ?_⟩⟩, fun e => absurd (by decide) e⟩⟩⟩⟩) (by decide), ?_⟩
      · rw [f3, mset_e, f3, c12]
      · refine ⟨ns, N, G, nn, gc, t, pd, P, Q, PG, QG, ?_⟩
        simp (disch := decide) only [va_up_self, va_up_ne]
        refine ⟨R_pat hR n1 n2, ⟨?_, h12⟩, h0, ht, hnn, hgc, ?_, ⟨tn, hT.keep (cs_a _ _ (by decide)) (cs_a _ _ (by decide)) (cs_a _ _ (by decide)) (cs_a _ _ (by decide)) (cs_i _ _ (by decide)) (cs_a _ _ (by decide)) (cs_a _ _ (by decide)) (cs_a _ _ (by decide))⟩, hU.keep (cs_a _ _ (by decide)) (cs_a _ _ (by decide)) (cs_a _ _ (by decide)) (cs_i _ _ (by decide)) (cs_a _ _ (by decide)) (cs_a _ _ (by decide)), ?_, fun e => ⟨(hfr e).1, fun s' q1 q2 => ((hfr e).2 s' q1 q2).keep (by rw [cs_a _ _ (by decide)]) (cs_a _ _ (by decide)) (fun j' hj' => by rw [cs_a _ _ (by decide)])⟩⟩
        · rw [cs_a _ _ (by decide)]; exact h11
        · rw [cs_i _ _ (by decide)]; exact h14
        · rw [cs_i _ _ (by decide)]; exact hpr
  · by_cases x1 : x = 1
    · subst x1
      by_cases hy : y < 0 ∨ 3 < y
      · have w := fun d => T_within (d := d) (μ := μ) (x := y) (a := 0) (b := 3)
        have w' := fun d => T_mwithin (d := d) (μ := μ) (x := y) (a := 0) (b := 3)
        rw [if_pos hy] at w w'
        exact ⟨-1, μ, μ, M_up (k := 2) (fun d => M48 ⟨fun _ => B48_39.mpr ⟨fun e => absurd rfl e, fun _ => ⟨_, _, w d, fun _ => B48_78.mpr (B48_80.mpr rfl), fun e => absurd rfl e⟩⟩, fun e => absurd (by decide) e⟩) (by decide), M_up (k := 2) (fun d => M81 ⟨_, _, m1 d μ, fun e => absurd e (by decide), fun _ => ⟨fun _ => B81_19.mpr ⟨fun _ => B81_29.mpr ⟨_, _, w' d, fun e => absurd rfl e, fun _ => B81_35.mpr rfl⟩, fun e => absurd (by decide) e⟩, fun e => absurd (by decide) e⟩⟩) (by decide), hB⟩
      · obtain ⟨n, n1, n2, rfl⟩ := nI_btw (x := y) (a := 0) (b := 3) (by decide) (by decide) (fun e => hy (Or.inl e)) (fun e => hy (Or.inr e))
        have w := fun d => T_within (d := d) (μ := μ) (x := nI n) (a := 0) (b := 3)
        have w' := fun d => T_mwithin (d := d) (μ := va_up μ 1 (cset (μ 1) 20 0 6 (nI n))) (x := nI n) (a := 0) (b := 3)
        rw [if_neg hy] at w w'
        have f3 : va_up μ 1 (cset (μ 1) 20 0 6 (nI n)) 3 = μ 3 := va_up_ne _ _ (by decide)
        refine ⟨μ 1 20 0 6, va_up μ 1 (cset (μ 1) 20 0 6 (nI n)), va_up (va_up μ 1 (cset (μ 1) 20 0 6 (nI n))) 3 (cset (μ 3) 40 0 4 (nI n)), M_up (k := 2) (fun d => M48 ⟨fun _ => B48_39.mpr ⟨fun e => absurd rfl e, fun _ => ⟨_, _, w d, fun e => absurd e (by decide), fun _ => B48_80.mpr rfl⟩⟩, fun e => absurd (by decide) e⟩) (by decide), M_up (k := 2) (fun d => M81 ⟨_, _, m1 d _, fun e => absurd e (by decide), fun _ => ⟨fun _ => B81_19.mpr ⟨fun _ => B81_29.mpr ⟨_, _, w' d, fun _ => ⟨fun _ => B81_52.mpr ⟨fun _ => B81_70.mpr ?_, fun e => absurd (by decide) e⟩, fun e => absurd (by decide) e⟩, fun e => absurd (by decide) e⟩, fun e => absurd (by decide) e⟩, fun e => absurd (by decide) e⟩⟩) (by decide), ?_⟩
        · rw [f3, mset_e, f3, c13]
        · refine ⟨ns, N, G, nn, gc, t, pd, P, Q, PG, QG, ?_⟩
          simp (disch := decide) only [va_up_self, va_up_ne]
          refine ⟨R_mag hR n2, ⟨?_, h12⟩, h0, ht, hnn, hgc, ?_, ⟨tn, hT.keep (cs_a _ _ (by decide)) (cs_a _ _ (by decide)) (cs_a _ _ (by decide)) (cs_a _ _ (by decide)) (cs_i _ _ (by decide)) (cs_a _ _ (by decide)) (cs_a _ _ (by decide)) (cs_a _ _ (by decide))⟩, hU.keep (cs_a _ _ (by decide)) (cs_a _ _ (by decide)) (cs_a _ _ (by decide)) (cs_i _ _ (by decide)) (cs_a _ _ (by decide)) (cs_a _ _ (by decide)), ?_, fun e => ⟨(hfr e).1, fun s' q1 q2 => ((hfr e).2 s' q1 q2).keep (by rw [cs_a _ _ (by decide)]) (cs_a _ _ (by decide)) (fun j' hj' => by rw [cs_a _ _ (by decide)])⟩⟩
          · rw [cs_a _ _ (by decide)]; exact h11
          · rw [cs_i _ _ (by decide)]; exact h14
          · rw [cs_i _ _ (by decide)]; exact hpr
    · have w := fun d => T_mwithin (d := d) (μ := μ) (x := x) (a := 0) (b := 1)
      rw [if_pos (by
        by_cases e : x < 0 ∨ 1 < x
        · exact e
        · obtain ⟨q, q1, q2, e2⟩ := nI_btw (x := x) (a := 0) (b := 1) (by decide) (by decide) (fun e3 => e (Or.inl e3)) (fun e3 => e (Or.inr e3))
          rcases (show q = 0 ∨ q = 1 by omega) with rfl | rfl
          · exact absurd e2 x0
          · exact absurd e2 x1)] at w
      exact ⟨-1, μ, μ, M_up (k := 2) (fun d => M48 ⟨fun _ => B48_39.mpr ⟨fun _ => B48_78.mpr (B48_80.mpr rfl), fun e => absurd x1 e⟩, fun e => absurd x0 e⟩) (by decide), M_up (k := 2) (fun d => M81 ⟨_, _, w d, fun _ => B81_35.mpr rfl, fun e => absurd rfl e⟩) (by decide), hB⟩
theorem TL.add {σ m : Rg} {tn q n : Nat} {x : Int32} (h : TL σ m tn) (htn : tn < 40) (hq : q < 8) (hn : n ≤ 30) : TL (cset (cset (cset (cset σ 29 0 tn x) 30 0 tn (nI q)) 31 0 tn (nI n)) 28 0 3 (nI (tn + 1))) (cset (cset (cset (cset m 43 0 tn x) 44 0 tn (nI q)) 45 0 tn (nI n)) 40 0 8 (nI (tn + 1))) (tn + 1) := by
  obtain ⟨h1, h2, h3, h4⟩ := h
  refine ⟨by omega, by rw [cs_s], by rw [cs_s], fun i hi => ?_⟩
  simp (disch := decide) only [cs_a, cs_r]
  by_cases e : i = tn
  · subst e
    simp only [va_up_self]
    exact ⟨True.intro, True.intro, True.intro, ⟨q, hq, rfl⟩, n, hn, rfl⟩
  · simp (disch := assumption) only [va_up_ne]
    exact h4 i (by omega)
theorem CALL_crowd (x y z : Int32) : CALL 49 82 [.inl x, .inl y, .inl z] := by
  intro μ hB
  obtain ⟨ns, N, G, nn, gc, t, pd, P, Q, PG, QG, hR, ⟨h11, h12⟩, h0, ht, hnn, hgc, h14, ⟨tn, hT⟩, hU, hpr, hfr⟩ := id hB
  have ht1 : μ 1 1 0 2 = nI t := by
    obtain ⟨tt, _, t1, t2⟩ := hR.2.2.2.2.2.2.2.2.2.1.2.2.2.2.2.1
    rw [t1, ← t2]; exact h0
  have e1 : μ 4 60 0 0 + 1 = nI (t + 1) := by rw [h0]; exact nI_1 t
  obtain ⟨htn, t3, t8, t4⟩ := id hT
  by_cases hx : x < nI (t + 1) ∨ 100000 < x
  · have w := fun d => T_mwithin (d := d) (μ := μ) (x := x) (a := nI (t + 1)) (b := 100000)
    rw [if_pos hx, ← e1] at w
    refine ⟨-1, μ, μ, M_up (k := 2) (fun d => M49 ?_) (by decide), M_up (k := 2) (fun d => M82 ⟨_, _, w d, fun _ => B82_35.mpr rfl, fun e => absurd rfl e⟩) (by decide), hB⟩
    rw [ht1]
    rcases hx with e | e
    · refine ⟨fun _ => B49_34.mpr rfl, fun q => absurd ?_ q⟩
      have := Int32.lt_iff_toInt_lt.mp e
      rw [nI_toInt (by omega)] at this
      apply Int32.le_iff_toInt_le.mpr
      rw [nI_toInt (by omega)]
      omega
    · exact ⟨fun _ => B49_34.mpr rfl, fun _ => ⟨fun _ => B49_34.mpr rfl, fun q => absurd e q⟩⟩
  · obtain ⟨n, n1, n2, rfl⟩ := nI_btw (x := x) (a := t + 1) (b := 100000) (by omega) (by decide) (fun e => hx (Or.inl e)) (fun e => hx (Or.inr e))
    have x1 : ¬ nI n ≤ μ 1 1 0 2 := by rw [ht1, nI_le' (by omega) (by omega)]; omega
    have x2 : ¬ (100000 : Int32) < nI n := fun e => hx (Or.inr e)
    have w := fun d (μ' : Mem) (h : μ' 4 = μ 4) => T_mwithin (d := d) (μ := μ') (x := nI n) (a := μ' 4 60 0 0 + 1) (b := 100000)
    have w : ∀ d (μ' : Mem) (h : μ' 4 = μ 4), M (d + 1) 74 [.inl (nI n), .inl (μ' 4 60 0 0 + 1), .inl 100000] μ' (some 1, μ') := fun d μ' h => by
      have := T_mwithin (d := d) (μ := μ') (x := nI n) (a := μ' 4 60 0 0 + 1) (b := 100000)
      rw [if_neg (by rw [h, e1]; exact hx)] at this; exact this
    rcases isK μ μ y with ⟨q, hq, rfl, b1, b2⟩ | ⟨b1, b2⟩
    · by_cases hz : z < 1 ∨ 30 < z
      · have u := fun d => T_within (d := d) (μ := μ) (x := z) (a := 1) (b := 30)
        have u' := fun d => T_mwithin (d := d) (μ := μ) (x := z) (a := 1) (b := 30)
        rw [if_pos hz] at u u'
        exact ⟨-1, μ, μ, M_up (k := 3) (fun d => M49 ⟨fun e => absurd e x1, fun _ => ⟨fun e => absurd e x2, fun _ => ⟨_, _, b1 d, fun e => absurd e (by decide), fun _ => ⟨_, _, u (d + 1), fun e => absurd rfl e, fun _ => B49_34.mpr rfl⟩⟩⟩⟩) (by decide), M_up (k := 3) (fun d => M82 ⟨_, _, w (d + 1) μ rfl, fun e => absurd e (by decide), fun _ => ⟨_, _, b2 d, fun e => absurd e (by decide), fun _ => ⟨_, _, u' (d + 1), fun e => absurd rfl e, fun _ => B82_35.mpr rfl⟩⟩⟩) (by decide), hB⟩
      · obtain ⟨k, k1, k2, rfl⟩ := nI_btw (x := z) (a := 1) (b := 30) (by decide) (by decide) (fun e => hz (Or.inl e)) (fun e => hz (Or.inr e))
        have u := fun d => T_within (d := d) (μ := μ) (x := nI k) (a := 1) (b := 30)
        rw [if_neg hz] at u
        have u' : ∀ d (μ' : Mem), M (d + 1) 74 [.inl (nI k), .inl 1, .inl 30] μ' (some 1, μ') := fun d μ' => by
          have := T_mwithin (d := d) (μ := μ') (x := nI k) (a := 1) (b := 30)
          rw [if_neg hz] at this; exact this
        by_cases hf : tn = 40
        · subst hf
          refine ⟨-2, μ, μ, M_up (k := 3) (fun d => M49 ⟨fun e => absurd e x1, fun _ => ⟨fun e => absurd e x2, fun _ => ⟨_, _, b1 d, fun e => absurd e (by decide), fun _ => ⟨_, _, u (d + 1), fun _ => ⟨fun e => absurd e ?_, fun _ => rfl⟩, fun e => absurd (by decide) e⟩⟩⟩⟩) (by decide), M_up (k := 3) (fun d => M82 ⟨_, _, w (d + 1) μ rfl, fun e => absurd e (by decide), fun _ => ⟨_, _, b2 d, fun e => absurd e (by decide), fun _ => ⟨_, _, u' (d + 1) μ, fun _ => ⟨fun e => absurd ?_ e, fun _ => rfl⟩, fun e => absurd (by decide) e⟩⟩⟩) (by decide), hB⟩
          · rw [t3]; decide
          · rw [t8]; decide
        · have kt : (nI tn).toNatClampNeg = tn := nI_cl (by omega)
          have vt : vp_in (nI tn) 40 := vp_in_nI (by omega) (by decide)
          obtain ⟨σ', hσ⟩ : ∃ σ', σ' = cset (cset (cset (cset (μ 1) 29 0 tn (nI n)) 30 0 tn (nI q)) 31 0 tn (nI k)) 28 0 3 (nI (tn + 1)) := ⟨_, rfl⟩
          obtain ⟨m', hm⟩ : ∃ m', m' = cset (cset (cset (cset (μ 3) 43 0 tn (nI n)) 44 0 tn (nI q)) 45 0 tn (nI k)) 40 0 8 (nI (tn + 1)) := ⟨_, rfl⟩
          have f3 : va_up μ 1 σ' 3 = μ 3 := va_up_ne _ _ (by decide)
          have f4 : va_up μ 1 σ' 4 = μ 4 := va_up_ne _ _ (by decide)
          have b3 : ∀ d, M (d + 2) 76 [.inl (nI q)] (va_up μ 1 σ') (some 1, va_up μ 1 σ') := fun d => by
            have c' := T_mwithin (d := d) (μ := va_up μ 1 σ') (x := nI q) (a := 0) (b := 7)
            rw [if_neg (fun w => w.elim (fun e => nI_pos (by omega) e) (fun e => absurd ((nI_ltI (a := 7) (by decide) (by omega)).mp e) (by omega)))] at c'
            exact M76 ⟨1, _, c', Or.inr rfl, rfl⟩
          refine ⟨nI (tn + 1), va_up μ 1 σ', va_up (va_up μ 1 σ') 3 m', M_up (k := 3) (fun d => M49 ⟨fun e => absurd e x1, fun _ => ⟨fun e => absurd e x2, fun _ => ⟨_, _, b1 d, fun e => absurd e (by decide), fun _ => ⟨_, _, u (d + 1), fun _ => ⟨fun _ => ⟨va_up μ 1 σ', M43 ?_, ?_⟩, fun e => absurd ?_ e⟩, fun e => absurd (by decide) e⟩⟩⟩⟩) (by decide), M_up (k := 3) (fun d => M82 ⟨_, _, w (d + 1) _ f4, fun e => absurd e (by decide), fun _ => ⟨_, _, b3 d, fun e => absurd e (by decide), fun _ => ⟨_, _, u' (d + 1) _, fun _ => ⟨fun _ => ?_, fun e => absurd ?_ e⟩, fun e => absurd (by decide) e⟩⟩⟩) (by decide), ?_⟩
          · show (40 ≤ μ 1 28 0 3 → _) ∧ _
            simp only [Nat.reduceAdd, t3, kt, nI_1]
            refine ⟨fun e => absurd ((nI_leI (a := 40) (by decide) (by omega)).mp e) (by omega), fun _ => ⟨vt, vt, vt, B43_49.mpr ?_⟩⟩
            rw [hσ, mset_e μ, ms_up, ms_up, ms_up]
          · show _ = (some (va_up μ 1 σ' 1 28 0 3), _)
            rw [va_up_self, hσ, cs_s]
          · rw [t3]; exact nI_lt (b := 40) (by omega) (by decide)
          · rw [f3, t8, kt, nI_1]
            refine ⟨vt, vt, vt, ?_⟩
            rw [mset_e (va_up μ 1 σ'), ms_up, ms_up, ms_up, f3, hm]
          · rw [f3, t8]
            intro e; have := nI_inj (b := 40) (by omega) (by decide) e; omega
          · have s28 : ∀ a, a < 28 → σ' a = μ 1 a := fun a ha => by rw [hσ, cs_a _ _ (by omega), cs_a _ _ (by omega), cs_a _ _ (by omega), cs_a _ _ (by omega)]
            have s32 : ∀ a, 32 ≤ a → σ' a = μ 1 a := fun a ha => by rw [hσ, cs_a _ _ (by omega), cs_a _ _ (by omega), cs_a _ _ (by omega), cs_a _ _ (by omega)]
            have mo : ∀ a, a ≠ 40 → a ≠ 43 → a ≠ 44 → a ≠ 45 → m' a = μ 3 a := fun a q1 q2 q3 q4 => by rw [hm, cs_a _ _ q1, cs_a _ _ q4, cs_a _ _ q3, cs_a _ _ q2]
            have m8 : ∀ i, i ≠ 8 → m' 40 0 i = μ 3 40 0 i := fun i hi => by rw [hm, cs_i _ _ hi, cs_a _ _ (by decide), cs_a _ _ (by decide), cs_a _ _ (by decide)]
            refine ⟨ns, N, G, nn, gc, t, pd, P, Q, PG, QG, ?_⟩
            simp (disch := decide) only [va_up_self, va_up_ne]
            refine ⟨R_m (R_28 hR s28) (mo 41 (by decide) (by decide) (by decide) (by decide)) (mo 42 (by decide) (by decide) (by decide) (by decide)) (m8 2 (by decide)) (m8 3 (by decide)) (m8 4 (by decide)), ⟨?_, h12⟩, h0, ht, hnn, hgc, ?_, ⟨tn + 1, ?_⟩, hU.keep (s32 32 (by decide)) (s32 33 (by decide)) (s32 34 (by decide)) (m8 9 (by decide)) (mo 46 (by decide) (by decide) (by decide) (by decide)) (mo 47 (by decide) (by decide) (by decide) (by decide)), ?_, fun e => ⟨(hfr e).1, fun s' q1 q2 => ((hfr e).2 s' q1 q2).keep (by rw [s28 4 (by decide)]) (s28 3 (by decide)) (fun j' hj' => by rw [mo 41 (by decide) (by decide) (by decide) (by decide)])⟩⟩
            · rw [s28 1 (by decide)]; exact h11
            · rw [m8 14 (by decide)]; exact h14
            · rw [hσ, hm]; exact hT.add (by omega) hq k2
            · rw [m8 17 (by decide)]; exact hpr
    · exact ⟨-1, μ, μ, M_up (k := 3) (fun d => M49 ⟨fun e => absurd e x1, fun _ => ⟨fun e => absurd e x2, fun _ => ⟨_, _, b1 d, fun _ => B49_34.mpr rfl, fun e => absurd rfl e⟩⟩⟩) (by decide), M_up (k := 3) (fun d => M82 ⟨_, _, w (d + 1) μ rfl, fun e => absurd e (by decide), fun _ => ⟨_, _, b2 d, fun _ => B82_35.mpr rfl, fun e => absurd rfl e⟩⟩) (by decide), hB⟩
