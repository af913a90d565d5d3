/-! about -/
theorem nI_subc (a b : Nat) : nI (a + b) - nI b = nI a := by
  have := ix_lin (c := 1) (s := a) (t := b) (x := nI b) 1 rfl rfl
  rw [Nat.one_mul, Int32.one_mul] at this
  rw [← this, Int32.add_sub_cancel]
def hmp (h : Rg) (s x : Int32) (k : Nat) : Bool := decide (h 68 0 k = s ∧ h 70 0 k = x)
theorem hmp_1 {h : Rg} {s x : Int32} {k : Nat} (a : h 68 0 k = s) (b : h 70 0 k = x) : cnt (hmp h s x) (k + 1) = cnt (hmp h s x) k + 1 := by
  show cnt (hmp h s x) k + (if hmp h s x k then 1 else 0) = _
  rw [show hmp h s x k = true by unfold hmp; simp [a, b]]; simp
theorem hmp_0 {h : Rg} {s x : Int32} {k : Nat} (a : ¬ (h 68 0 k = s ∧ h 70 0 k = x)) : cnt (hmp h s x) (k + 1) = cnt (hmp h s x) k := by
  show cnt (hmp h s x) k + (if hmp h s x k then 1 else 0) = _
  rw [show hmp h s x k = false by unfold hmp; exact decide_eq_false a]; simp
theorem hm_loop {σ m h : Rg} {ns N G nn gc pj pg : Nat} {P Q PG QG : Nat → Nat} {s x : Int32} (hR : R σ m h ns N G nn gc P Q PG QG pj pg) : ∀ (q k : Nat), q + k = N → ∀ (d : Nat) (μ : Mem) (r : Nat), EvE (M d) 28 14 [some (.inr (r, 8, 0)), some (.inl s), some (.inl x), some (.inl (nI (cnt (hmp h s x) k))), some (.inl (if k < N then nI (P k) else -1)), some (.inl (nI k))] [] (va_up μ r σ) (some (nI (cnt (hmp h s x) N)), va_up μ r σ) := by
  obtain ⟨h1, h2, h3, h4, h5, h6, h7, h8, h9, h10, h11, h12, h13⟩ := hR.1
  intro q
  induction q with
  | zero =>
    intro k hk d μ r
    have : k = N := by omega
    subst this
    refine B28_14.mpr ⟨fun _ => B28_75.mpr rfl, fun e => absurd ?_ e⟩
    rw [va_up_self, h7, nI_le' (by omega) (by omega)]
    exact Nat.le_refl _
  | succ q ih =>
    intro k hk d μ r
    have hkN : k < N := by omega
    have hb := h2 k hkN
    have v0 : vp_in (nI (P k)) 120 := vp_in_nI (by omega) (by decide)
    have k0 : (nI (P k)).toNatClampNeg = P k := nI_cl (by omega)
    have e0 : σ 11 0 (P k) = if k + 1 < N then nI (P (k + 1)) else -1 := h11 k hkN
    obtain ⟨-, g2, -, g4, -⟩ := hR.2.2.1 k hkN
    have go := ih (k + 1) (by omega) d μ r
    rw [if_pos hkN]
    refine B28_14.mpr ⟨fun e => absurd e ?_, fun _ => ⟨fun e => absurd e (nI_m1 (by omega)), fun _ => ⟨v0, ?_⟩⟩⟩
    · rw [va_up_self, h7, nI_le' (by omega) (by omega)]; omega
    · rw [k0, va_up_self, ← g2, ← g4]
      simp only [B28_57, k0, va_up_self, e0, nI_1]
      refine ⟨fun e => ⟨v0, ?_⟩, fun e => ⟨v0, fun e2 => ⟨v0, ?_⟩, fun e2 => ⟨v0, ?_⟩⟩⟩
      · rw [hmp_0 (fun w => e w.1)] at go; exact go
      · rw [hmp_0 (fun w => e2 w.2)] at go; exact go
      · rw [hmp_1 (Classical.not_not.mp e) (Classical.not_not.mp e2)] at go; exact go
theorem T_howMany {σ m h : Rg} {ns N G nn gc pj pg : Nat} {P Q PG QG : Nat → Nat} {s x : Int32} (hR : R σ m h ns N G nn gc P Q PG QG pj pg) : CX 1 28 8 0 [.inl s, .inl x] σ (some (nI (cnt (hmp h s x) N))) σ := fun d μ r => M28 (by
  have h8 := hR.1.2.2.2.2.2.2.2.1
  have go := hm_loop (s := s) (x := x) hR N 0 (by omega) d μ r
  rw [va_up_self, h8]
  by_cases z : N = 0
  · rw [if_pos z]
    rw [if_neg (by omega)] at go; exact go
  · rw [if_neg z]
    rw [if_pos (by omega)] at go; exact go)
theorem ab_loop {m h : Rg} {N : Nat} {s x : Int32} (hN : h 60 0 15 = nI N) (hb : N ≤ 120) : ∀ (q k : Nat), q + k = N → ∀ (d : Nat) (μ : Mem), EvE (M d) 114 30 [some (.inr (3, 40, 0)), some (.inl s), some (.inl x), some (.inl (nI (cnt (hmp h s x) k))), some (.inl (nI k))] [] (mm μ m h) (some (nI (cnt (hmp h s x) N)), mm μ m h) := by
  intro q
  induction q with
  | zero =>
    intro k hk d μ
    have : k = N := by omega
    subst this
    refine B114_30.mpr ⟨fun _ => rfl, fun e => absurd ?_ e⟩
    show mm μ m h 4 60 0 15 ≤ nI k
    rw [mm4, hN, nI_le' (by omega) (by omega)]
    exact Nat.le_refl _
  | succ q ih =>
    intro k hk d μ
    have hkN : k < N := by omega
    have v0 : vp_in (nI k) 120 := vp_in_nI (by omega) (by decide)
    have k0 : (nI k).toNatClampNeg = k := nI_cl (by omega)
    have go := ih (k + 1) (by omega) d μ
    refine B114_30.mpr ?_
    simp only [Nat.reduceAdd, B114_75, B114_76, mm4, hN, nI_1, k0, Int32.add_zero]
    refine ⟨fun e => absurd e ?_, fun _ => ⟨v0, fun e => ?_, fun e => ⟨v0, fun e2 => ?_, fun e2 => ?_⟩⟩⟩
    · rw [nI_le' (by omega) (by omega)]; omega
    · rw [hmp_0 (fun w => e w.1)] at go; exact go
    · rw [hmp_0 (fun w => e2 w.2)] at go; exact go
    · rw [hmp_1 (Classical.not_not.mp e) (Classical.not_not.mp e2)] at go; exact go
theorem CALL_about (x y : Int32) : CALL 53 114 [.inl x, .inl y] := by
  intro μ hB
  obtain ⟨ns, N, G, nn, gc, t, pd, P, Q, PG, QG, hR, h11, h0, ht, hnn, hgc, h14, hT, hU, hpr, hfr⟩ := id hB
  have hns : ns ≤ 6 := hR.2.2.2.2.2.2.2.2.2.1.1.1
  have hc1 : μ 1 1 0 1 = nI ns := hR.2.2.2.2.2.2.2.2.2.1.1.2.1
  have hm2 : μ 3 40 0 2 = nI ns := hR.2.2.2.2.2.2.2.2.2.1.1.2.2
  have h15 : μ 4 60 0 15 = nI N := hR.2.2.2.2.2.2.2.2.2.1.2.1
  have ht1 : μ 1 1 0 2 = nI t := by
    obtain ⟨tt, _, t1, t2⟩ := hR.2.2.2.2.2.2.2.2.2.1.2.2.2.2.2.1
    rw [t1, ← t2]; exact h0
  rcases isS hns hc1 hm2 x with ⟨s, hs, rfl, a1, a2⟩ | ⟨a1, a2⟩
  · obtain ⟨p1, p2, p3, p4⟩ := hR.2.2.2.2.2.2.2.1 s (by omega)
    have p3' : μ 1 3 s 7 = μ 4 62 0 s := p3
    have p4' : μ 1 3 s 6 = μ 4 61 0 s ∨ (μ 1 3 s 6 = -4 ∧ μ 4 61 0 s = -1) := p4
    have v1 : vp_in (nI s) 6 := vp_in_nI (by omega) (by decide)
    have k1 : (nI s).toNatClampNeg = s := nI_cl (by omega)
    rcases wi (x := y) (a := 0) (b := 12) (by decide) (by decide) 0 12 rfl rfl μ μ with ⟨j, -, hj, rfl, b1, b2⟩ | ⟨-, b1, b2⟩
    · have l6 : (nI j < 6) = (j < 6) := nI_lt' (b := 6) (by omega) (by decide)
      have l4 : (4 ≤ nI j) = (4 ≤ j) := nI_le' (a := 4) (by decide) (by omega)
      have q4 : (nI j = 4) = (j = 4) := propext ⟨fun e => nI_inj (b := 4) (by omega) (by decide) e, fun e => by rw [e]; rfl⟩
      have q5 : (nI j = 5) = (j = 5) := propext ⟨fun e => nI_inj (b := 5) (by omega) (by decide) e, fun e => by rw [e]; rfl⟩
      by_cases c1 : j < 4
      · have c := fun d => T_howMany (s := nI s) (x := nI j) hR d μ 1
        rw [up_eta] at c
        have c' := fun d => ab_loop (m := μ 3) (h := μ 4) (s := nI s) (x := nI j) h15 hR.1.1 N 0 (by omega) d μ
        rw [mm_eta] at c'
        refine ⟨nI (cnt (hmp (μ 4) (nI s) (nI j)) N), μ, μ, M_up (k := 3) (fun d => M53 ⟨_, _, a1 d, fun e => absurd e (by decide), fun _ => ⟨_, _, b1 (d + 1), fun _ => ⟨v1, ?_⟩, fun e => absurd (by decide) e⟩⟩) (by decide), M_up (k := 3) (fun d => M114 ⟨_, _, a2 d, fun e => absurd e (by decide), fun _ => ⟨_, _, b2 (d + 1), fun _ => ?_, fun e => absurd (by decide) e⟩⟩) (by decide), hB⟩
        · rw [l6, q4, q5]
          exact ⟨fun _ => ⟨fun e => by omega, fun e => by omega, fun _ _ => B53_100.mpr ⟨_, _, c (d + 1), rfl⟩⟩, fun e => by omega⟩
        · rw [l4]
          exact ⟨fun e => by omega, fun _ => c' (d + 2)⟩
      · by_cases c2 : j = 4
        · subst c2
          have c := fun d => T_rests (σ := μ 1) (s := s) (t := nI t) d μ 1
          rw [up_eta] at c
          have c' := fun d => T_mrests (m := μ 3) (h := μ 4) (s := s) (by omega) d μ
          rw [mm_eta] at c'
          have tn : ¬ nI t < 0 := nI_pos (by omega)
          have ev : (if μ 1 3 s 6 < nI t then (-1 : Int32) else μ 1 3 s 6) = (if μ 4 61 0 s < nI t then (-1 : Int32) else μ 4 61 0 s) := by
            rcases p4' with e | ⟨e1, e2⟩
            · rw [e]
            · have z : (0 : Int32) ≤ nI t := Int32.not_lt.mp tn
              rw [e1, e2, if_pos (Int32.lt_of_lt_of_le (by decide) z), if_pos (Int32.lt_of_lt_of_le (by decide) z)]
          refine ⟨if μ 1 3 s 6 < nI t then (-1 : Int32) else μ 1 3 s 6, μ, μ, M_up (k := 3) (fun d => M53 ⟨_, _, a1 d, fun e => absurd e (by decide), fun _ => ⟨_, _, b1 (d + 1), fun _ => ⟨v1, ?_⟩, fun e => absurd (by decide) e⟩⟩) (by decide), M_up (k := 3) (fun d => M114 ⟨_, _, a2 d, fun e => absurd e (by decide), fun _ => ⟨_, _, b2 (d + 1), fun _ => ?_, fun e => absurd (by decide) e⟩⟩) (by decide), hB⟩
          · refine ⟨fun _ => ⟨fun _ => B53_72.mpr ?_, fun e => absurd e (by decide), fun e => absurd (by decide) e⟩, fun e => absurd (by decide) e⟩
            simp only [Nat.reduceAdd, k1, ht1, B53_94]
            refine ⟨_, _, c (d + 1), fun e => ?_, fun e => ?_⟩
            · by_cases w : μ 1 3 s 6 < nI t
              · rw [if_pos w]
              · rw [if_neg w] at e; exact absurd e (by decide)
            · by_cases w : μ 1 3 s 6 < nI t
              · rw [if_pos w] at e; exact absurd rfl e
              · rw [if_neg w]
          · rw [ev]
            rw [h0] at c'
            refine ⟨fun _ => ⟨fun e => absurd (by decide) e, fun _ => ⟨_, _, c' (d + 1), fun e => B114_146.mpr ?_, fun e => ⟨v1, B114_146.mpr ?_⟩⟩⟩, fun e => absurd (by decide) e⟩
            · by_cases w : μ 4 61 0 s < nI t
              · rw [if_pos w]
              · rw [if_neg w] at e; exact absurd e (by decide)
            · rw [k1]
              by_cases w : μ 4 61 0 s < nI t
              · rw [if_pos w] at e; exact absurd rfl e
              · rw [if_neg w]
        · by_cases c3 : j = 5
          · subst c3
            refine ⟨μ 1 3 s 7, μ, μ, M_up (k := 3) (fun d => M53 ⟨_, _, a1 d, fun e => absurd e (by decide), fun _ => ⟨_, _, b1 (d + 1), fun _ => ⟨v1, ?_⟩, fun e => absurd (by decide) e⟩⟩) (by decide), M_up (k := 3) (fun d => M114 ⟨_, _, a2 d, fun e => absurd e (by decide), fun _ => ⟨_, _, b2 (d + 1), fun _ => ?_, fun e => absurd (by decide) e⟩⟩) (by decide), hB⟩
            · exact ⟨fun _ => ⟨fun e => absurd e (by decide), fun _ => B53_95.mpr (by rw [k1]), fun _ e => absurd (by decide) e⟩, fun e => absurd (by decide) e⟩
            · exact ⟨fun _ => ⟨fun _ => ⟨fun e => absurd (by decide) e, fun _ => ⟨v1, B114_146.mpr (by rw [k1, p3'])⟩⟩, fun e => absurd (by decide) e⟩, fun e => absurd (by decide) e⟩
          · have e6 : nI j - 6 = nI (j - 6) := by
              have := nI_subc (j - 6) 6
              rw [show j - 6 + 6 = j by omega] at this
              exact this
            have v2 : vp_in (nI (j - 6)) 7 := vp_in_nI (by omega) (by decide)
            have k2 : (nI (j - 6)).toNatClampNeg = j - 6 := nI_cl (by omega)
            have e0 : 13 * nI s + nI j = nI (13 * s + j) := ix_lin 13 rfl rfl
            have v0 : vp_in (nI (13 * s + j)) 78 := vp_in_nI (by omega) (by decide)
            have k0 : (nI (13 * s + j)).toNatClampNeg = 13 * s + j := nI_cl (by omega)
            have e5 : μ 1 5 s (j - 6) = μ 4 63 0 (13 * s + j) := by
              have := p1 (j - 6) (by omega)
              rw [show 6 + (j - 6) = j by omega] at this
              exact this
            refine ⟨μ 1 5 s (j - 6), μ, μ, M_up (k := 3) (fun d => M53 ⟨_, _, a1 d, fun e => absurd e (by decide), fun _ => ⟨_, _, b1 (d + 1), fun _ => ⟨v1, ?_⟩, fun e => absurd (by decide) e⟩⟩) (by decide), M_up (k := 3) (fun d => M114 ⟨_, _, a2 d, fun e => absurd e (by decide), fun _ => ⟨_, _, b2 (d + 1), fun _ => ?_, fun e => absurd (by decide) e⟩⟩) (by decide), hB⟩
            · rw [l6, e6, k2, k1]
              exact ⟨fun e => by omega, fun _ => ⟨v2, rfl⟩⟩
            · rw [l4, q4, q5, e0, k0, e5]
              exact ⟨fun _ => ⟨fun _ => ⟨fun _ => ⟨v0, B114_146.mpr rfl⟩, fun e => absurd c3 e⟩, fun e => absurd c2 e⟩, fun e => by omega⟩
    · exact ⟨-1, μ, μ, M_up (k := 3) (fun d => M53 ⟨_, _, a1 d, fun e => absurd e (by decide), fun _ => ⟨_, _, b1 (d + 1), fun e => absurd rfl e, fun _ => B53_18.mpr rfl⟩⟩) (by decide), M_up (k := 3) (fun d => M114 ⟨_, _, a2 d, fun e => absurd e (by decide), fun _ => ⟨_, _, b2 (d + 1), fun e => absurd rfl e, fun _ => B114_18.mpr rfl⟩⟩) (by decide), hB⟩
  · exact ⟨-1, μ, μ, M_up (k := 3) (fun d => M53 ⟨_, _, a1 d, fun _ => B53_18.mpr rfl, fun e => absurd rfl e⟩) (by decide), M_up (k := 3) (fun d => M114 ⟨_, _, a2 d, fun _ => B114_18.mpr rfl, fun e => absurd rfl e⟩) (by decide), hB⟩
