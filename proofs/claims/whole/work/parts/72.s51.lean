/-! bears -/
theorem MqT.trans {m m1 m2 : Rg} (p : MqT m m1) (q : MqT m1 m2) : MqT m m2 :=
  ⟨fun x z1 z2 z3 => (q.1 x z1 z2 z3).trans (p.1 x z1 z2 z3), fun i z1 z2 z3 z4 z5 => (q.2.1 i z1 z2 z3 z4 z5).trans (p.2.1 i z1 z2 z3 z4 z5), q.2.2⟩
theorem MqT.R {τ m m' h : Rg} {ns N G nn gc pj pg : Nat} {P Q PG QG : Nat → Nat} (q : MqT m m') (hR : R τ m h ns N G nn gc P Q PG QG pj pg) : R τ m' h ns N G nn gc P Q PG QG pj pg :=
  R_m hR (q.1 41 (by decide) (by decide) (by decide)) (q.1 42 (by decide) (by decide) (by decide)) (q.2.1 2 (by decide) (by decide) (by decide) (by decide) (by decide)) (q.2.1 3 (by decide) (by decide) (by decide) (by decide) (by decide)) (q.2.1 4 (by decide) (by decide) (by decide) (by decide) (by decide))
theorem MqT.U {τ m m' : Rg} {pd : Nat} (q : MqT m m') (hU : US τ m pd) : US τ m' pd :=
  hU.keep rfl rfl rfl (q.2.1 9 (by decide) (by decide) (by decide) (by decide) (by decide)) (q.1 46 (by decide) (by decide) (by decide)) (q.1 47 (by decide) (by decide) (by decide))
theorem bears_loop {τ m0 h0 : Rg} {ns N G nn gc t pd q n : Nat} {P Q PG QG : Nat → Nat} (hR : R τ m0 h0 ns N G nn gc P Q PG QG 1000 1000) (hns : 0 < ns) (ht0 : h0 60 0 0 = nI t) (ht : t ≤ 100000) (hnn : nn ≤ 1700 * t) (hgc : gc ≤ 1700 * t) (hU : US τ m0 pd) (hq : q < 8) (hn : n ≤ 400) :
    ∀ (z c : Nat), c + z = 31 → ∀ (σ m h k5 : Rg) (b : Int32), σ 1 0 11 = -1 → HE h0 h N G → MqT m0 m → (c = 0 → b = -4) → (0 < c → b = nI (c - 1)) →
      ∃ v σ' m' h' k', (∀ (d : Nat) (μ : Mem), μ 1 = τ → EvE (M (d + 10)) 61 35 [some (.inr (0, 0, 0)), some (.inl (nI q)), some (.inl (nI n)), some (.inl b), some (.inl (nI c))] [] (va_up μ 2 σ) (some v, va_up μ 2 σ')) ∧ (∀ (d : Nat) (μ : Mem), EvE (M (d + 64)) 124 33 [some (.inr (3, 40, 0)), some (.inl (nI q)), some (.inl (nI n)), some (.inl (nI c))] [] (mm (va_up μ 5 k5) m h) (some v, mm (va_up μ 5 k') m' h')) ∧ σ' 1 0 11 = -1 ∧ HE h0 h' N G ∧ MqT m0 m' := by
  intro z
  induction z with
  | zero =>
    intro c hc σ m h k5 b s11 hE hM hb0 hb1
    have hc' : c = 31 := by omega
    subst hc'
    have hb := hb1 (by decide)
    subst hb
    exact ⟨nI 30, σ, m, h, k5, fun d μ _ => B61_35.mpr ⟨fun _ => B61_72.mpr rfl, fun e => absurd (by decide) e⟩, fun d μ => B124_33.mpr ⟨fun _ => B124_56.mpr ⟨fun _ => B124_68.mpr rfl, fun e => absurd (by decide) e⟩, fun e => absurd (by decide) e⟩, s11, hE, hM⟩
  | succ z ih =>
    intro c hc σ m h k5 b s11 hE hM hb0 hb1
    have l30 : ¬ (30 : Int32) < nI c := fun e => absurd ((nI_ltI (a := 30) (by decide) (by omega)).mp e) (by omega)
    obtain ⟨v, σ1, σ2, m2, h2, k2, x1, x2, x3, x4, x5, x6, x7⟩ := TRY2 (σ := σ) (k5 := k5) (q := q) (c := c) (n := n) (R_he (hM.R hR) hE) hns s11 (by rw [hE.1 0 (by omega)]; exact ht0) ht hnn hgc (hM.U hU) hq (by omega) hn
    rcases x7 with rfl | ⟨f0, y1, y2, rfl⟩
    · refine ⟨b, σ2, m2, h2, k2, fun d μ e => B61_35.mpr ⟨fun e2 => absurd e2 l30, fun _ => ⟨_, x1 (d + 5) μ e, _, _, x2 d μ, fun e2 => absurd rfl e2, fun _ => B61_72.mpr rfl⟩⟩, fun d μ => B124_33.mpr ⟨fun e2 => absurd e2 l30, fun _ => ⟨_, _, x3 d μ, fun _ => B124_56.mpr ⟨fun e2 => B124_68.mpr ?_, fun e2 => B124_68.mpr ?_⟩, fun e2 => absurd (by decide) e2⟩⟩, x6, hE.trans x4, hM.trans x5⟩
      · have c0 : 0 < c := by
          rcases Nat.eq_zero_or_pos c with w | w
          · exact absurd (by rw [w]; rfl) e2
          · exact w
        rw [hb1 c0, nI_dn (show c = (c - 1) + 1 by omega)]
      · have c0 : c = 0 := nI_inj (b := 0) (by omega) (by decide) (Classical.not_not.mp e2)
        rw [hb0 c0]
    · obtain ⟨v, σ', m', h', k', w1, w2, w3, w4, w5⟩ := ih (c + 1) (by omega) σ2 m2 h2 k2 (nI c) x6 (hE.trans x4) (hM.trans x5) (fun e => by omega) (fun _ => by rw [show c + 1 - 1 = c by omega])
      exact ⟨v, σ', m', h', k', fun d μ e => B61_35.mpr ⟨fun e2 => absurd e2 l30, fun _ => ⟨_, x1 (d + 5) μ e, _, _, x2 d μ, fun _ => by rw [nI_1]; exact w1 d μ e, fun e2 => absurd (nI_neg (by omega) (by decide)) e2⟩⟩, fun d μ => B124_33.mpr ⟨fun e2 => absurd e2 l30, fun _ => ⟨_, _, x3 d μ, fun e2 => absurd e2 (nI_pos (by omega)), fun _ => by rw [nI_1]; exact w2 d μ⟩⟩, w3, w4, w5⟩
theorem CALL_bears (x y : Int32) : CALL 61 124 [.inl x, .inl y] := by
  intro μ hB
  obtain ⟨ns, N, G, nn, gc, t, pd, P, Q, PG, QG, hR, ⟨h11, h12⟩, h0, ht, hnn, hgc, h14, ⟨tn, hT⟩, hU, hpr, hfr⟩ := id hB
  have hns : ns ≤ 6 := hR.2.2.2.2.2.2.2.2.2.1.1.1
  have hc1 : μ 1 1 0 1 = nI ns := hR.2.2.2.2.2.2.2.2.2.1.1.2.1
  have hm2 : μ 3 40 0 2 = nI ns := hR.2.2.2.2.2.2.2.2.2.1.1.2.2
  have z0 : (nI ns = 0) = (ns = 0) := nI_eq0 (by omega)
  rcases isK μ μ x with ⟨q, hq, rfl, b1, b2⟩ | ⟨b1, b2⟩
  · rcases T_triable y with ⟨n, n1, n2, rfl, w1, w2⟩ | ⟨w1, w2⟩
    · by_cases hz : ns = 0
      · refine ⟨-3, μ, μ, M_up (k := 3) (fun d => M61 ⟨_, _, b1 d, fun e => absurd e (by decide), fun _ => ⟨_, _, w1 d μ, fun _ => ⟨fun e => absurd ?_ e, fun _ => rfl⟩, fun e => absurd (by decide) e⟩⟩) (by decide), M_up (k := 3) (fun d => M124 ⟨_, _, b2 d, fun e => absurd e (by decide), fun _ => ⟨_, _, w2 (d + 1) μ, fun _ => ⟨fun e => absurd ?_ e, fun _ => rfl⟩, fun e => absurd (by decide) e⟩⟩) (by decide), hB⟩
        · rw [hc1, z0]; exact hz
        · rw [hm2, z0]; exact hz
      · obtain ⟨v, σ', m', h', k', g1, g2, g3, g4, g5⟩ := bears_loop (q := q) (n := n) hR (by omega) h0 ht hnn hgc hU hq n2 31 0 (by omega) (μ 2) (μ 3) (μ 4) (μ 5) (-4) h12 ⟨fun _ _ => rfl, fun _ _ => ⟨rfl, rfl, rfl⟩, fun _ _ => rfl, fun _ _ => rfl, fun _ _ => rfl, fun _ _ _ _ _ => rfl, fun _ _ _ _ _ => rfl⟩ ⟨fun _ _ _ _ => rfl, fun _ _ _ _ _ _ => rfl, h14⟩ (fun _ => rfl) (fun e => absurd e (by decide))
        have u1 := fun d => g1 d μ rfl
        have u2 := fun d => g2 d (va_up μ 2 σ')
        have e5 : mm (va_up (va_up μ 2 σ') 5 (μ 5)) (μ 3) (μ 4) = va_up μ 2 σ' := mm_eta5 (va_up μ 2 σ')
        rw [up_eta] at u1
        rw [e5] at u2
        have b3 : ∀ d, M (d + 2) 76 [.inl (nI q)] (va_up μ 2 σ') (some 1, va_up μ 2 σ') := fun d => by
          have c' := T_mwithin (d := d) (μ := va_up μ 2 σ') (x := nI q) (a := 0) (b := 7)
          rw [if_neg (fun w => w.elim (fun e => nI_pos (by omega) e) (fun e => absurd ((nI_ltI (a := 7) (by decide) (by omega)).mp e) (by omega)))] at c'
          exact M76 ⟨1, _, c', Or.inr rfl, rfl⟩
        refine ⟨v, va_up μ 2 σ', mm (va_up (va_up μ 2 σ') 5 k') m' h', M_up (k := 11) (fun d => M61 ⟨_, _, b1 (d + 8), fun e => absurd e (by decide), fun _ => ⟨_, _, w1 (d + 8) μ, fun _ => ⟨fun _ => u1 d, fun e => absurd ?_ e⟩, fun e => absurd (by decide) e⟩⟩) (by decide), M_up (k := 65) (fun d => M124 ⟨_, _, b3 (d + 62), fun e => absurd e (by decide), fun _ => ⟨_, _, w2 (d + 63) _, fun _ => ⟨fun _ => u2 d, fun e => absurd ?_ e⟩, fun e => absurd (by decide) e⟩⟩) (by decide), BR_after hR h11 g3 h0 ht hnn hgc hT hU hpr hfr g4 g5⟩
        · rw [hc1, z0]; exact hz
        · rw [va_up_ne _ _ (by decide), hm2, z0]; exact hz
    · exact ⟨-1, μ, μ, M_up (k := 3) (fun d => M61 ⟨_, _, b1 d, fun e => absurd e (by decide), fun _ => ⟨_, _, w1 d μ, fun e => absurd rfl e, fun _ => B61_14.mpr rfl⟩⟩) (by decide), M_up (k := 3) (fun d => M124 ⟨_, _, b2 d, fun e => absurd e (by decide), fun _ => ⟨_, _, w2 (d + 1) μ, fun e => absurd rfl e, fun _ => B124_19.mpr rfl⟩⟩) (by decide), hB⟩
  · exact ⟨-1, μ, μ, M_up (k := 3) (fun d => M61 ⟨_, _, b1 d, fun _ => B61_14.mpr rfl, fun e => absurd rfl e⟩) (by decide), M_up (k := 3) (fun d => M124 ⟨_, _, b2 d, fun _ => B124_19.mpr rfl, fun e => absurd rfl e⟩) (by decide), hB⟩
