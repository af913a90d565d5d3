/-! rule, guests -/
theorem mset_e (μ : Mem) (r a o i : Nat) (v : Int32) : mset μ r a o i v = va_up μ r (cset (μ r) a o i v) := rfl
theorem TL.keep {σ σ' m m' : Rg} {tn : Nat} (h : TL σ m tn) (e28 : σ' 28 = σ 28) (e29 : σ' 29 = σ 29) (e30 : σ' 30 = σ 30) (e31 : σ' 31 = σ 31) (e8 : m' 40 0 8 = m 40 0 8) (e43 : m' 43 = m 43) (e44 : m' 44 = m 44) (e45 : m' 45 = m 45) : TL σ' m' tn := by
  unfold TL
  rw [e28, e29, e30, e31, e8, e43, e44, e45]
  exact h
theorem FR.keep {σ σ' m m' h : Rg} {s : Nat} (H : FR σ m h s) (e4 : σ' 4 s = σ 4 s) (e3 : σ' 3 = σ 3) (e41 : ∀ j, j < 9 → m' 41 0 (9 * s + j) = m 41 0 (9 * s + j)) : FR σ' m' h s := by
  unfold FR
  rw [e4, e3, e41 1 (by decide), e41 3 (by decide), e41 4 (by decide), e41 6 (by decide)]
  exact H
def loR (j : Nat) : Nat := ([1, 0, 0, 0, 0, 1, 0, 1, 1, 0] : List Nat).getD j 0
def hiR (j : Nat) : Nat := ([40, 4, 9, 60, 9, 60, 1, 9, 9, 20] : List Nat).getD j 0
theorem T_isRule {j : Nat} (hj : j < 10) (v : Int32) (d : Nat) (μ : Mem) : M (d + 2) 71 [.inl (nI j), .inl v] μ (some (if v < nI (loR j) ∨ nI (hiR j) < v then 0 else 1), μ) := by
  have w := fun d => T_within (d := d) (μ := μ) (x := nI j) (a := 0) (b := 9)
  rw [if_neg (fun q => q.elim (fun e => nI_pos (by omega) e) (fun e => absurd ((nI_ltI (a := 9) (by decide) (by omega)).mp e) (by omega)))] at w
  have w2 := fun d => T_within (d := d) (μ := μ) (x := v) (a := nI (loR j)) (b := nI (hiR j))
  have v0 : vp_in (nI j) 10 := vp_in_nI (by omega) (by decide)
  have k0 : (nI j).toNatClampNeg = j := nI_cl (by omega)
  have e1 : imC 90 j = nI (loR j) := by
    rcases (show j = 0 ∨ j = 1 ∨ j = 2 ∨ j = 3 ∨ j = 4 ∨ j = 5 ∨ j = 6 ∨ j = 7 ∨ j = 8 ∨ j = 9 by omega) with rfl | rfl | rfl | rfl | rfl | rfl | rfl | rfl | rfl | rfl <;> decide
  have e2 : imC 91 j = nI (hiR j) := by
    rcases (show j = 0 ∨ j = 1 ∨ j = 2 ∨ j = 3 ∨ j = 4 ∨ j = 5 ∨ j = 6 ∨ j = 7 ∨ j = 8 ∨ j = 9 by omega) with rfl | rfl | rfl | rfl | rfl | rfl | rfl | rfl | rfl | rfl <;> decide
  refine M71 ⟨_, _, w d, fun e => absurd e (by decide), fun _ => ⟨v0, v0, _, _, by rw [k0, e1, e2]; exact w2 d, ?_⟩⟩
  by_cases e : v < nI (loR j) ∨ nI (hiR j) < v
  · rw [if_pos e]; exact ⟨fun _ => B71_31.mpr (B71_32.mpr ⟨Or.inl rfl, rfl⟩), fun q => absurd rfl q⟩
  · rw [if_neg e]; exact ⟨fun q => absurd q (by decide), fun _ => B71_32.mpr ⟨Or.inr rfl, rfl⟩⟩
theorem T_misRule {j : Nat} (hj : j < 9) (v : Int32) (d : Nat) (μ : Mem) : M (d + 2) 79 [.inl (nI j), .inl v] μ (some (if v < nI (loR j) ∨ nI (hiR j) < v then 0 else 1), μ) := by
  have w2 := fun d => T_mwithin (d := d) (μ := μ) (x := v) (a := nI (loR j)) (b := nI (hiR j))
  have w3 : ∀ p : Prop, ∀ _ : Decidable p, (if p then (0 : Int32) else 1) = 0 ∨ (if p then (0 : Int32) else 1) = 1 := fun p _ => by
    by_cases e : p
    · rw [if_pos e]; exact Or.inl rfl
    · rw [if_neg e]; exact Or.inr rfl
  rcases (show j = 0 ∨ j = 1 ∨ j = 2 ∨ j = 3 ∨ j = 4 ∨ j = 5 ∨ j = 6 ∨ j = 7 ∨ j = 8 by omega) with rfl | rfl | rfl | rfl | rfl | rfl | rfl | rfl | rfl
  · refine M79 ⟨fun k' t hk' hx' => ?_, fun h => absurd rfl (h 0 (by decide))⟩
    have e : 52 = t := Option.some.inj (swk (n := 9) (by decide) rfl hj hk' hx')
    subst e
    exact B79_52.mpr ⟨_, _, w2 d, w3 _ _, rfl⟩
  · refine M79 ⟨fun k' t hk' hx' => ?_, fun h => absurd rfl (h 1 (by decide))⟩
    have e : 60 = t := Option.some.inj (swk (n := 9) (by decide) rfl hj hk' hx')
    subst e
    exact B79_60.mpr ⟨_, _, w2 d, w3 _ _, rfl⟩
  · refine M79 ⟨fun k' t hk' hx' => ?_, fun h => absurd rfl (h 2 (by decide))⟩
    have e : 67 = t := Option.some.inj (swk (n := 9) (by decide) rfl hj hk' hx')
    subst e
    exact B79_67.mpr ⟨_, _, w2 d, w3 _ _, rfl⟩
  · refine M79 ⟨fun k' t hk' hx' => ?_, fun h => absurd rfl (h 3 (by decide))⟩
    have e : 75 = t := Option.some.inj (swk (n := 9) (by decide) rfl hj hk' hx')
    subst e
    exact B79_75.mpr ⟨_, _, w2 d, w3 _ _, rfl⟩
  · refine M79 ⟨fun k' t hk' hx' => ?_, fun h => absurd rfl (h 4 (by decide))⟩
    have e : 67 = t := Option.some.inj (swk (n := 9) (by decide) rfl hj hk' hx')
    subst e
    exact B79_67.mpr ⟨_, _, w2 d, w3 _ _, rfl⟩
  · refine M79 ⟨fun k' t hk' hx' => ?_, fun h => absurd rfl (h 5 (by decide))⟩
    have e : 83 = t := Option.some.inj (swk (n := 9) (by decide) rfl hj hk' hx')
    subst e
    exact B79_83.mpr ⟨_, _, w2 d, w3 _ _, rfl⟩
  · refine M79 ⟨fun k' t hk' hx' => ?_, fun h => absurd rfl (h 6 (by decide))⟩
    have e : 91 = t := Option.some.inj (swk (n := 9) (by decide) rfl hj hk' hx')
    subst e
    exact B79_91.mpr ⟨_, _, w2 d, w3 _ _, rfl⟩
  · refine M79 ⟨fun k' t hk' hx' => ?_, fun h => absurd rfl (h 7 (by decide))⟩
    have e : 98 = t := Option.some.inj (swk (n := 9) (by decide) rfl hj hk' hx')
    subst e
    exact B79_98.mpr ⟨_, _, w2 d, w3 _ _, rfl⟩
  · refine M79 ⟨fun k' t hk' hx' => ?_, fun h => absurd rfl (h 8 (by decide))⟩
    have e : 98 = t := Option.some.inj (swk (n := 9) (by decide) rfl hj hk' hx')
    subst e
    exact B79_98.mpr ⟨_, _, w2 d, w3 _ _, rfl⟩
theorem T_misNo {v x : Int32} (hx : ∀ k, k < 9 → ¬ x = nI k) (d : Nat) (μ : Mem) : M (d + 2) 79 [.inl x, .inl v] μ (some 0, μ) := M79 ⟨fun k t hk e => absurd e (hx k (by
    rcases Nat.lt_or_ge k 9 with q | q
    · exact q
    · rw [List.getElem?_eq_none q] at hk; cases hk)), fun _ => B79_106.mpr rfl⟩
theorem RU1_set {f : Nat → Int32} {j n : Nat} (h : RU1 f) (hj : j < 9) (h1 : loR j ≤ n) (h2 : n ≤ hiR j) : RU1 (va_up f j (nI n)) := by
  obtain ⟨a0, a1, a2, a3, a4, a5, a6, a7, a8, a9⟩ := h
  unfold RU1
  rcases (show j = 0 ∨ j = 1 ∨ j = 2 ∨ j = 3 ∨ j = 4 ∨ j = 5 ∨ j = 6 ∨ j = 7 ∨ j = 8 by omega) with rfl | rfl | rfl | rfl | rfl | rfl | rfl | rfl | rfl <;> simp (disch := decide) only [va_up_self, va_up_ne]
  · exact ⟨⟨n, h1, h2, rfl⟩, a1, a2, a3, a4, a5, a6, a7, a8, a9⟩
  · exact ⟨a0, ⟨n, h2, rfl⟩, a2, a3, a4, a5, a6, a7, a8, a9⟩
  · exact ⟨a0, a1, ⟨n, h2, rfl⟩, a3, a4, a5, a6, a7, a8, a9⟩
  · exact ⟨a0, a1, a2, ⟨n, h2, rfl⟩, a4, a5, a6, a7, a8, a9⟩
  · exact ⟨a0, a1, a2, a3, ⟨n, h2, rfl⟩, a5, a6, a7, a8, a9⟩
  · exact ⟨a0, a1, a2, a3, a4, ⟨n, h1, h2, rfl⟩, a6, a7, a8, a9⟩
  · exact ⟨a0, a1, a2, a3, a4, a5, (show nI n = 0 ∨ nI n = 1 from (show n = 0 ∨ n = 1 from (by have : n ≤ 1 := h2; omega)).elim (fun e => Or.inl (by rw [e]; rfl)) (fun e => Or.inr (by rw [e]; rfl))), a7, a8, a9⟩
  · exact ⟨a0, a1, a2, a3, a4, a5, a6, ⟨n, h1, h2, rfl⟩, a8, a9⟩
  · exact ⟨a0, a1, a2, a3, a4, a5, a6, a7, ⟨n, h1, h2, rfl⟩, a9⟩
theorem T_misS {d ns s : Nat} {μ : Mem} (h : μ 3 40 0 2 = nI ns) (hs : s < ns) (hns : ns ≤ 6) : M (d + 1) 75 [.inr (3, 40, 0), .inl (nI s)] μ (some 1, μ) := M75 (by
  rw [h]
  exact ⟨fun e => absurd e (nI_pos (by omega)), fun _ => ⟨fun e => absurd ((nI_leI (by omega) (by omega)).mp e) (by omega), fun _ => B75_17.mpr ⟨Or.inr rfl, rfl⟩⟩⟩)
theorem R_rule {σ m h : Rg} {ns N G nn gc pj pg s j n : Nat} {P Q PG QG : Nat → Nat} (hR : R σ m h ns N G nn gc P Q PG QG pj pg) (hs : s < ns) (hj : j < 9) (h1 : loR j ≤ n) (h2 : n ≤ hiR j) : R (cset σ 4 s j (nI n)) (cset m 41 0 (9 * s + j) (nI n)) h ns N G nn gc P Q PG QG pj pg := by
  obtain ⟨r1, r2, r3, r4, r5, r6, r7, r8, r9, r10, r11⟩ := hR
  refine ⟨?_, ?_, ?_, ?_, ?_, ?_, ?_, ?_, ?_, ?_, ?_⟩ <;> try simp (disch := decide) only [cs_a]
  · exact r1
  · exact r2
  · exact r3
  · exact r4
  · exact r5
  · exact r6
  · exact r7
  · exact r8
  · intro s' hs'
    obtain ⟨q1, q2, q3⟩ := r9 s' hs'
    by_cases e : s' = s
    · subst e
      rw [cs_r, cs_r]
      refine ⟨fun j' hj' => ?_, ?_, RU1_set q3 hj h1 h2⟩
      · by_cases e2 : j' = j
        · rw [e2, va_up_self, va_up_self]
        · rw [va_up_ne _ _ e2, va_up_ne _ _ (by omega)]; exact q1 j' hj'
      · rw [va_up_ne _ _ (by omega)]; exact q2
    · rw [cs_o _ _ e, cs_r]
      refine ⟨fun j' hj' => ?_, q2, q3⟩
      rw [va_up_ne _ _ (by omega)]; exact q1 j' hj'
  · exact r10
  · exact r11
theorem CALL_rule (x y z : Int32) : CALL 47 80 [.inl x, .inl y, .inl z] := by
  intro μ hB
  obtain ⟨ns, N, G, nn, gc, t, pd, P, Q, PG, QG, hR, ⟨h11, h12⟩, h0, ht, hnn, hgc, h14, ⟨tn, hT⟩, hU, hpr, hfr⟩ := id hB
  have hns : ns ≤ 6 := hR.2.2.2.2.2.2.2.2.2.1.1.1
  have hc1 : μ 1 1 0 1 = nI ns := hR.2.2.2.2.2.2.2.2.2.1.1.2.1
  have hm2 : μ 3 40 0 2 = nI ns := hR.2.2.2.2.2.2.2.2.2.1.1.2.2
  rcases isS hns hc1 hm2 x with ⟨s, hs, rfl, a1, -⟩ | ⟨a1, a2⟩
  · have v1 : vp_in (nI s) 6 := vp_in_nI (by omega) (by decide)
    have k1 : (nI s).toNatClampNeg = s := nI_cl (by omega)
    have a2 : ∀ μ' : Mem, μ' 3 40 0 2 = nI ns → ∀ d, M (d + 2) 75 [.inr (3, 40, 0), .inl (nI s)] μ' (some 1, μ') := fun μ' h d => T_misS (d := d + 1) h hs (by omega)
    by_cases hy : ∃ j, j < 9 ∧ y = nI j
    · obtain ⟨j, hj, rfl⟩ := hy
      have w := fun d => T_within (d := d) (μ := μ) (x := nI j) (a := 0) (b := 8)
      rw [if_neg (fun q => q.elim (fun e => nI_pos (by omega) e) (fun e => absurd ((nI_ltI (a := 8) (by decide) (by omega)).mp e) (by omega)))] at w
      have v2 : vp_in (nI j) 10 := vp_in_nI (by omega) (by decide)
      have k2 : (nI j).toNatClampNeg = j := nI_cl (by omega)
      have r1 := fun d => T_isRule (j := j) (by omega) z d μ
      by_cases hz : z < nI (loR j) ∨ nI (hiR j) < z
      · have r2 := fun d => T_misRule (j := j) hj z d μ
        rw [if_pos hz] at r1 r2
        exact ⟨-1, μ, μ, M_up (k := 3) (fun d => M47 ⟨_, _, a1 d, fun e => absurd e (by decide), fun _ => ⟨_, _, w (d + 1), fun e => absurd e (by decide), fun _ => ⟨_, _, r1 d, fun e => absurd rfl e, fun _ => B47_26.mpr rfl⟩⟩⟩) (by decide), M_up (k := 3) (fun d => M80 ⟨_, _, a2 μ hm2 d, fun e => absurd e (by decide), fun _ => ⟨_, _, r2 d, fun e => absurd rfl e, fun _ => B80_16.mpr rfl⟩⟩) (by decide), hB⟩
      · rw [if_neg hz] at r1
        have hh : hiR j < 2147483648 := by
          rcases (show j = 0 ∨ j = 1 ∨ j = 2 ∨ j = 3 ∨ j = 4 ∨ j = 5 ∨ j = 6 ∨ j = 7 ∨ j = 8 by omega) with rfl | rfl | rfl | rfl | rfl | rfl | rfl | rfl | rfl <;> decide
        have hl : loR j < 2147483648 := by
          rcases (show j = 0 ∨ j = 1 ∨ j = 2 ∨ j = 3 ∨ j = 4 ∨ j = 5 ∨ j = 6 ∨ j = 7 ∨ j = 8 by omega) with rfl | rfl | rfl | rfl | rfl | rfl | rfl | rfl | rfl <;> decide
        obtain ⟨n, n1, n2, rfl⟩ := nI_btw (x := z) hl hh (fun e => hz (Or.inl e)) (fun e => hz (Or.inr e))
        have e4 : μ 1 4 s j = μ 3 41 0 (9 * s + j) := (hR.2.2.2.2.2.2.2.2.1 s hs).1 j hj
        have e0 : 9 * nI s + nI j = nI (9 * s + j) := ix_lin 9 rfl rfl
        have v0 : vp_in (nI (9 * s + j)) 54 := vp_in_nI (by omega) (by decide)
        have k0 : (nI (9 * s + j)).toNatClampNeg = 9 * s + j := nI_cl (by omega)
        have hb2 : ∀ μ', μ' 3 = μ 3 → ∀ d, M (d + 2) 79 [.inl (nI j), .inl (nI n)] μ' (some 1, μ') := fun μ' _ d => by
          have := T_misRule (j := j) hj (nI n) d μ'
          rw [if_neg hz] at this; exact this
        have f3 : va_up μ 1 (cset (μ 1) 4 s j (nI n)) 3 = μ 3 := va_up_ne _ _ (by decide)
        have f4 : va_up μ 1 (cset (μ 1) 4 s j (nI n)) 4 = μ 4 := va_up_ne _ _ (by decide)
        refine ⟨μ 1 4 s j, va_up μ 1 (cset (μ 1) 4 s j (nI n)), va_up (va_up μ 1 (cset (μ 1) 4 s j (nI n))) 3 (cset (μ 3) 41 0 (9 * s + j) (nI n)), M_up (k := 3) (fun d => M47 ⟨_, _, a1 d, fun e => absurd e (by decide), fun _ => ⟨_, _, w (d + 1), fun e => absurd e (by decide), fun _ => ⟨_, _, r1 d, fun _ => ⟨v1, v2, v1, v2, ?_⟩, fun e => absurd (by decide) e⟩⟩⟩) (by decide), M_up (k := 3) (fun d => M80 ⟨_, _, a2 _ (by rw [f3]; exact hm2) d, fun e => absurd e (by decide), fun _ => ⟨_, _, hb2 _ f3 d, fun _ => ⟨μ 3 41 0 (9 * s + j), va_up μ 1 (cset (μ 1) 4 s j (nI n)), ?_, ?_, ?_⟩, fun e => absurd (by decide) e⟩⟩) (by decide), ?_⟩
        · rw [k1, k2]; rfl
        · have := T_ruled (m := μ 3) (h := μ 4) (s := s) (j := j) (x := nI j) (by omega) hj rfl (d + 1) (va_up μ 1 (cset (μ 1) 4 s j (nI n)))
          have e : mm (va_up μ 1 (cset (μ 1) 4 s j (nI n))) (μ 3) (μ 4) = va_up μ 1 (cset (μ 1) 4 s j (nI n)) := mm_eta (va_up μ 1 (cset (μ 1) 4 s j (nI n)))
          rw [e] at this
          exact this
        · rw [e0]; exact v0
        · rw [e0, k0, e4, mset_e, f3]
        · refine ⟨ns, N, G, nn, gc, t, pd, P, Q, PG, QG, ?_⟩
          simp (disch := decide) only [va_up_self, va_up_ne]
          refine ⟨R_rule hR hs hj n1 n2, ⟨?_, h12⟩, h0, ht, hnn, hgc, ?_, ⟨tn, hT.keep (cs_a _ _ (by decide)) (cs_a _ _ (by decide)) (cs_a _ _ (by decide)) (cs_a _ _ (by decide)) ?_ (cs_a _ _ (by decide)) (cs_a _ _ (by decide)) (cs_a _ _ (by decide))⟩, hU.keep (cs_a _ _ (by decide)) (cs_a _ _ (by decide)) (cs_a _ _ (by decide)) ?_ (cs_a _ _ (by decide)) (cs_a _ _ (by decide)), ?_, fun e => ⟨(hfr e).1, fun s' q1 q2 => ((hfr e).2 s' q1 q2).keep (cs_o _ _ (by omega)) (cs_a _ _ (by decide)) (fun j' hj' => cs_i _ _ (by omega))⟩⟩
          · rw [cs_a _ _ (by decide)]; exact h11
          · rw [cs_a _ _ (by decide)]; exact h14
          · rw [cs_a _ _ (by decide)]
          · rw [cs_a _ _ (by decide)]
          · rw [cs_a _ _ (by decide)]; exact hpr
    · have hno : ∀ k : Nat, k < 9 → ¬ y = nI k := fun k hk e => hy ⟨k, hk, e⟩
      have w := fun d => T_within (d := d) (μ := μ) (x := y) (a := 0) (b := 8)
      rw [if_pos (by
        by_cases e : y < 0 ∨ 8 < y
        · exact e
        · obtain ⟨q, q1, q2, e2⟩ := nI_btw (x := y) (a := 0) (b := 8) (by decide) (by decide) (fun e3 => e (Or.inl e3)) (fun e3 => e (Or.inr e3))
          exact absurd e2 (hno q (by omega)))] at w
      exact ⟨-1, μ, μ, M_up (k := 3) (fun d => M47 ⟨_, _, a1 d, fun e => absurd e (by decide), fun _ => ⟨_, _, w (d + 1), fun _ => B47_26.mpr rfl, fun e => absurd rfl e⟩⟩) (by decide), M_up (k := 3) (fun d => M80 ⟨_, _, a2 μ hm2 d, fun e => absurd e (by decide), fun _ => ⟨_, _, T_misNo hno d μ, fun e => absurd rfl e, fun _ => B80_16.mpr rfl⟩⟩) (by decide), hB⟩
  · exact ⟨-1, μ, μ, M_up (k := 3) (fun d => M47 ⟨_, _, a1 d, fun _ => B47_26.mpr rfl, fun e => absurd rfl e⟩) (by decide), M_up (k := 3) (fun d => M80 ⟨_, _, a2 d, fun _ => B80_16.mpr rfl, fun e => absurd rfl e⟩) (by decide), hB⟩
