/-! a whole trial, both sides; rest -/
theorem mm5 (μ : Mem) (m h k : Rg) : mm (va_up μ 5 k) m h = va_up (mm μ m h) 5 k := by
  unfold mm
  rw [up_comm _ _ _ (by decide : (5 : Nat) ≠ 3), up_comm _ _ _ (by decide : (5 : Nat) ≠ 4)]
def MqT (m m' : Rg) : Prop := (∀ a, a ≠ 40 → a ≠ 48 → a ≠ 49 → m' a = m a) ∧ (∀ i, i ≠ 14 → i ≠ 15 → i ≠ 16 → i ≠ 19 → i ≠ 21 → m' 40 0 i = m 40 0 i) ∧ m' 40 0 14 = 0
theorem TRY1 {σ0 m h k5 : Rg} {ns N G nn gc t pd q c n : Nat} {P Q PG QG : Nat → Nat} {te : Int32} (hR : R σ0 m h ns N G nn gc P Q PG QG 1000 1000) (hns : 0 < ns) (h11 : σ0 1 0 11 = -1) (h0 : h 60 0 0 = nI t) (ht : t ≤ 100000) (hnn : nn ≤ 1700 * t) (hgc : gc ≤ 1700 * t) (hU : US σ0 m pd) (hTs : (c = 0 ∧ σ0 28 0 3 = nI 0) ∨ (σ0 28 0 3 = nI 1 ∧ σ0 29 0 0 = nI (t + 1) ∧ σ0 30 0 0 = nI q ∧ σ0 31 0 0 = nI c)) (hq : q < 8) (hc : c ≤ 30) (hn : n ≤ 400) (hte : te = 0 ∨ te = 1) :
    ∃ v σ' m' h' k', (∀ (d : Nat) (μ : Mem), M (d + 10) 65 [.inr (0, 0, 0), .inl (nI n), .inl te] (va_up μ 2 σ0) (some v, va_up μ 2 σ')) ∧ (∀ (d : Nat) (μ : Mem), M (d + 64) 122 [.inr (3, 40, 0), .inl (nI q), .inl (nI c), .inl (nI n), .inl te] (mm (va_up μ 5 k5) m h) (some v, mm (va_up μ 5 k') m' h')) ∧ HE h h' N G ∧ MqT m m' ∧ σ' 1 0 11 = -1 ∧ (v = -4 ∨ ∃ f0, 1 ≤ f0 ∧ f0 ≤ 400 ∧ v = nI f0) ∧ (te = 1 → ¬ v = -4 → m' 40 0 21 = σ' 20 0 9 - h 60 0 25 + σ' 1 0 4 - h 60 0 27) := by
  obtain ⟨c1, h15, h22, c4, c5, c6, ⟨-, h28⟩, -⟩ := hR.2.2.2.2.2.2.2.2.2.1
  have hN : N ≤ 120 := hR.1.1
  have hG : G ≤ 100 := hR.2.1.1
  obtain ⟨kk, x1, x2⟩ := T_mcopy (hs := h) (hd := k5) (r0 := 5) (r1 := 4) (by decide) h15 hN h22 hG h28
  obtain ⟨mT, hmT⟩ : ∃ mT, mT = cset (cset (cset m 40 0 14 1) 40 0 15 (nI q)) 40 0 16 (nI c) := ⟨_, rfl⟩
  have t40 : ∀ a, a ≠ 40 → mT a = m a := fun a ha => by rw [hmT, cs_a _ _ ha, cs_a _ _ ha, cs_a _ _ ha]
  have ti : ∀ i, i ≠ 14 → i ≠ 15 → i ≠ 16 → mT 40 0 i = m 40 0 i := fun i i1 i2 i3 => by rw [hmT, cs_i _ _ i3, cs_i _ _ i2, cs_i _ _ i1]
  have t14 : mT 40 0 14 = 1 := by rw [hmT, cs_i _ _ (by decide), cs_i _ _ (by decide), cs_s]
  have t15 : mT 40 0 15 = nI q := by rw [hmT, cs_i _ _ (by decide), cs_s]
  have t16 : mT 40 0 16 = nI c := by rw [hmT, cs_s]
  have hJ : JS ns pd t σ0 mT h := by
    refine ⟨N, G, nn, gc, P, Q, PG, QG, R_m hR (t40 41 (by decide)) (t40 42 (by decide)) (ti 2 (by decide) (by decide) (by decide)) (ti 3 (by decide) (by decide) (by decide)) (ti 4 (by decide) (by decide) (by decide)), h11, h0, Or.inr ⟨by rw [t14]; decide, ?_⟩, by rw [t14]; decide, hU.keep rfl rfl rfl (ti 9 (by decide) (by decide) (by decide)) (t40 46 (by decide)) (t40 47 (by decide)), hnn, hgc⟩
    rcases hTs with ⟨e1, e2⟩ | ⟨e1, e2, e3, e4⟩
    · exact Or.inl ⟨e2, by rw [t16, e1]⟩
    · exact Or.inr ⟨q, c, hq, hc, e1, e2, e3, e4, t15, t16⟩
  obtain ⟨v, σ', m2, h2, st', k', b1, b2, b3, b4, b5, b6⟩ := trial (te := te) (x1 := nI q) (x2 := nI c) hns hn hte n 1 0 t (-4) σ0 mT h (by omega) (by omega) hJ (Or.inl ⟨rfl, by decide, by decide⟩)
  have y1 : ∀ i, i = 0 ∨ i = 15 ∨ i = 16 ∨ (22 ≤ i ∧ i ≤ 28) → kk 60 0 i = h 60 0 i := x2.1
  obtain ⟨h', z1, z2⟩ := T_mcopy (hs := kk) (hd := h2) (r0 := 4) (r1 := 5) (N := N) (G := G) (by decide) (by rw [y1 15 (by omega)]; exact h15) hN (by rw [y1 22 (by omega)]; exact h22) hG (by rw [y1 28 (by omega)]; exact h28)
  obtain ⟨m3, hm3⟩ : ∃ m3, m3 = cset (cset m2 40 0 21 (h2 60 0 25 - kk 60 0 25 + h2 60 0 27 - kk 60 0 27)) 40 0 14 0 := ⟨_, rfl⟩
  obtain ⟨s1, s2, s3⟩ := b3
  obtain ⟨s4, s5, s6, s7⟩ := s3 (by rw [t14]; decide)
  refine ⟨v, σ', m3, h', kk, fun d μ => M65 (b1 d μ none), fun d μ => M122 ⟨mm (va_up μ 5 kk) m h, ?_, ?_⟩, x2.trans z2, ⟨fun a a1 a2 a3 => ?_, fun i i1 i2 i3 i4 i5 => ?_, ?_⟩, b4, b5, fun e1 e2 => ?_⟩
  · rw [mm5, mm5]; exact x1 (d + 62) (mm μ m h) (mm4 _ _ _)
  · rw [ms3, ms3, ms3, ← hmT]
    refine b2 d (va_up μ 5 kk) _ (B122_108.mpr ⟨mm (va_up μ 5 kk) m3 h', ?_, rfl⟩)
    have e5 : mm (va_up μ 5 kk) m2 h2 5 = kk := by rw [mm_o (by decide) (by decide), va_up_self]
    simp only [Nat.reduceAdd, mm4, e5, ms3, ← hm3]
    exact z1 (d + 62) (va_up (va_up μ 5 kk) 3 m3) (by rw [va_up_ne _ _ (by decide), va_up_self])
  · rw [hm3, cs_a _ _ a1, cs_a _ _ a1]
    by_cases e43 : a = 43
    · subst e43; rw [s4, t40 _ (by decide)]
    · by_cases e44 : a = 44
      · subst e44; rw [s5, t40 _ (by decide)]
      · by_cases e45 : a = 45
        · subst e45; rw [s6, t40 _ (by decide)]
        · rw [s1 a a1 e43 e44 e45 a2 a3, t40 a a1]
  · rw [hm3, cs_i _ _ i1, cs_i _ _ i5]
    by_cases e8 : i = 8
    · subst e8; rw [s7, ti _ (by decide) (by decide) (by decide)]
    · rw [s2 i e8 i3 i4, ti i i1 i2 i3]
  · rw [hm3, cs_s]
  · obtain ⟨w1, w2⟩ := b6 e1 e2
    rw [hm3, cs_i _ _ (by decide), cs_s, w1, w2, y1 25 (by omega), y1 27 (by omega)]
/-- beginTrial and the ticks, from the bench's own house -/
theorem TRY2 {τ σ m h k5 : Rg} {ns N G nn gc t pd q c n : Nat} {P Q PG QG : Nat → Nat} (hR : R τ m h ns N G nn gc P Q PG QG 1000 1000) (hns : 0 < ns) (h11 : σ 1 0 11 = -1) (h0 : h 60 0 0 = nI t) (ht : t ≤ 100000) (hnn : nn ≤ 1700 * t) (hgc : gc ≤ 1700 * t) (hU : US τ m pd) (hq : q < 8) (hc : c ≤ 30) (hn : n ≤ 400) :
    ∃ v σ1 σ' m' h' k', (∀ (d : Nat) (μ : Mem), μ 1 = τ → M (d + 5) 64 [.inr (0, 0, 0), .inl (nI q), .inl (nI c)] (va_up μ 2 σ) (none, va_up μ 2 σ1)) ∧ (∀ (d : Nat) (μ : Mem), M (d + 10) 65 [.inr (0, 0, 0), .inl (nI n), .inl 0] (va_up μ 2 σ1) (some v, va_up μ 2 σ')) ∧ (∀ (d : Nat) (μ : Mem), M (d + 64) 122 [.inr (3, 40, 0), .inl (nI q), .inl (nI c), .inl (nI n), .inl 0] (mm (va_up μ 5 k5) m h) (some v, mm (va_up μ 5 k') m' h')) ∧ HE h h' N G ∧ MqT m m' ∧ σ' 1 0 11 = -1 ∧ (v = -4 ∨ ∃ f0, 1 ≤ f0 ∧ f0 ≤ 400 ∧ v = nI f0) := by
  obtain ⟨c1, h15, h22, c4, c5, c6, ⟨c7, h28⟩, -⟩ := hR.2.2.2.2.2.2.2.2.2.1
  have ht1 : τ 1 0 2 = nI t := by
    obtain ⟨tt, _, t1, t2⟩ := c6
    rw [t1, ← t2]; exact h0
  obtain ⟨σ1, a1, a2, a3, a4⟩ := T_beginT (τ := τ) (σ := σ) (t := t) (q := q) (c := c) (by rw [c7]; exact h28) ht1 hq hc
  obtain ⟨v, σ', m', h', k', b1, b2, b3, b4, b5, b6, -⟩ := TRY1 (k5 := k5) (te := 0) (R_cp hR a2) hns (by rw [a3]; exact h11) h0 ht hnn hgc (US_cp hU a2) a4 hq hc hn (Or.inl rfl)
  exact ⟨v, σ1, σ', m', h', k', a1, b1, b2, b3, b4, b5, b6⟩
theorem FR_he {σ m m' h h' : Rg} {s N G : Nat} (H : FR σ m h s) (hs : s < 6) (hE : HE h h' N G) (e41 : m' 41 = m 41) : FR σ m' h' s := by
  unfold FR
  rw [e41, (hE.2.1 s hs).2.2]
  exact H
theorem BR_after {μ : Mem} {σ' m' h' k' : Rg} {ns N G nn gc t pd tn : Nat} {P Q PG QG : Nat → Nat} (hR : R (μ 1) (μ 3) (μ 4) ns N G nn gc P Q PG QG 1000 1000) (h11 : μ 1 1 0 11 = -1) (h12 : σ' 1 0 11 = -1) (h0 : μ 4 60 0 0 = nI t) (ht : t ≤ 100000) (hnn : nn ≤ 1700 * t) (hgc : gc ≤ 1700 * t) (hT : TL (μ 1) (μ 3) tn) (hU : US (μ 1) (μ 3) pd) (hpr : μ 0 0 0 2 = μ 3 40 0 17) (hfr : t = 0 → N = 0 ∧ ∀ s, ns ≤ s → s < 6 → FR (μ 1) (μ 3) (μ 4) s) (hE : HE (μ 4) h' N G) (hM : MqT (μ 3) m') : BR (mm (va_up (va_up μ 2 σ') 5 k') m' h') := by
  obtain ⟨q1, q2, q3⟩ := hM
  refine ⟨ns, N, G, nn, gc, t, pd, P, Q, PG, QG, ?_⟩
  simp (disch := decide) only [mm3, mm4, mm_o, va_up_self, va_up_ne]
  refine ⟨R_he (R_m hR (q1 41 (by decide) (by decide) (by decide)) (q1 42 (by decide) (by decide) (by decide)) (q2 2 (by decide) (by decide) (by decide) (by decide) (by decide)) (q2 3 (by decide) (by decide) (by decide) (by decide) (by decide)) (q2 4 (by decide) (by decide) (by decide) (by decide) (by decide))) hE, ⟨h11, h12⟩, by rw [hE.1 0 (by omega)]; exact h0, ht, hnn, hgc, q3, ⟨tn, hT.keep rfl rfl rfl rfl (q2 8 (by decide) (by decide) (by decide) (by decide) (by decide)) (q1 43 (by decide) (by decide) (by decide)) (q1 44 (by decide) (by decide) (by decide)) (q1 45 (by decide) (by decide) (by decide))⟩, hU.keep rfl rfl rfl (q2 9 (by decide) (by decide) (by decide) (by decide) (by decide)) (q1 46 (by decide) (by decide) (by decide)) (q1 47 (by decide) (by decide) (by decide)), by rw [q2 17 (by decide) (by decide) (by decide) (by decide) (by decide)]; exact hpr, fun e => ⟨(hfr e).1, fun s s1 s2 => FR_he ((hfr e).2 s s1 s2) s2 hE (q1 41 (by decide) (by decide) (by decide))⟩⟩
theorem T_triable (x : Int32) : (∃ n, 24 ≤ n ∧ n ≤ 400 ∧ x = nI n ∧ (∀ (d : Nat) (μ : Mem), M (d + 2) 70 [.inl x] μ (some 1, μ)) ∧ ∀ (d : Nat) (μ : Mem), M (d + 1) 74 [.inl x, .inl 24, .inl 400] μ (some 1, μ)) ∨ ((∀ (d : Nat) (μ : Mem), M (d + 2) 70 [.inl x] μ (some 0, μ)) ∧ ∀ (d : Nat) (μ : Mem), M (d + 1) 74 [.inl x, .inl 24, .inl 400] μ (some 0, μ)) := by
  by_cases h : x < 24 ∨ 400 < x
  · refine Or.inr ⟨fun d μ => M70 ⟨0, μ, ?_, Or.inl rfl, rfl⟩, fun d μ => ?_⟩
    · have := T_within (d := d) (μ := μ) (x := x) (a := 24) (b := 400)
      rw [if_pos h] at this; exact this
    · have := T_mwithin (d := d) (μ := μ) (x := x) (a := 24) (b := 400)
      rw [if_pos h] at this; exact this
  · obtain ⟨n, n1, n2, e⟩ := nI_btw (x := x) (a := 24) (b := 400) (by decide) (by decide) (fun e => h (Or.inl e)) (fun e => h (Or.inr e))
    refine Or.inl ⟨n, n1, n2, e, fun d μ => M70 ⟨1, μ, ?_, Or.inr rfl, rfl⟩, fun d μ => ?_⟩
    · have := T_within (d := d) (μ := μ) (x := x) (a := 24) (b := 400)
      rw [if_neg h] at this; exact this
    · have := T_mwithin (d := d) (μ := μ) (x := x) (a := 24) (b := 400)
      rw [if_neg h] at this; exact this
theorem mm_eta5 (μ : Mem) : mm (va_up μ 5 (μ 5)) (μ 3) (μ 4) = μ := by rw [up_eta, mm_eta]
theorem CALL_rest (x : Int32) : CALL 60 123 [.inl x] := by
  intro μ hB
  obtain ⟨ns, N, G, nn, gc, t, pd, P, Q, PG, QG, hR, ⟨h11, h12⟩, h0, ht, hnn, hgc, h14, ⟨tn, hT⟩, hU, hpr, hfr⟩ := id hB
  have hns : ns ≤ 6 := hR.2.2.2.2.2.2.2.2.2.1.1.1
  have hc1 : μ 1 1 0 1 = nI ns := hR.2.2.2.2.2.2.2.2.2.1.1.2.1
  have hm2 : μ 3 40 0 2 = nI ns := hR.2.2.2.2.2.2.2.2.2.1.1.2.2
  have z0 : (nI ns = 0) = (ns = 0) := nI_eq0 (by omega)
  rcases T_triable x with ⟨n, n1, n2, rfl, w1, w2⟩ | ⟨w1, w2⟩
  · by_cases hz : ns = 0
    · refine ⟨-3, μ, μ, M_up (k := 3) (fun d => M60 ⟨_, _, w1 d μ, fun _ => ⟨fun e => absurd ?_ e, fun _ => rfl⟩, fun e => absurd (by decide) e⟩) (by decide), M_up (k := 3) (fun d => M123 ⟨_, _, w2 (d + 1) μ, fun _ => ⟨fun e => absurd ?_ e, fun _ => B123_34.mpr rfl⟩, fun e => absurd (by decide) e⟩) (by decide), hB⟩
      · rw [hc1, z0]; exact hz
      · rw [hm2, z0]; exact hz
    · obtain ⟨v, σ1, σ', m', h', k', a1, a2, a3, a4, a5, a6, -⟩ := TRY2 (σ := μ 2) (k5 := μ 5) (q := 0) (c := 0) (n := n) hR (by omega) h12 h0 ht hnn hgc hU (by decide) (by decide) n2
      have b1 := fun d => a1 d μ rfl
      have b3 := fun d => a3 d (va_up μ 2 σ')
      have e5 : mm (va_up (va_up μ 2 σ') 5 (μ 5)) (μ 3) (μ 4) = va_up μ 2 σ' := mm_eta5 (va_up μ 2 σ')
      rw [up_eta] at b1
      rw [e5] at b3
      refine ⟨v, va_up μ 2 σ', mm (va_up (va_up μ 2 σ') 5 k') m' h', M_up (k := 11) (fun d => M60 ⟨_, _, w1 (d + 8) μ, fun _ => ⟨fun _ => ⟨_, b1 (d + 5), _, _, a2 d μ, rfl⟩, fun e => absurd ?_ e⟩, fun e => absurd (by decide) e⟩) (by decide), M_up (k := 65) (fun d => M123 ⟨_, _, w2 (d + 63) _, fun _ => ⟨fun _ => ⟨_, _, b3 d, B123_34.mpr rfl⟩, fun e => absurd ?_ e⟩, fun e => absurd (by decide) e⟩) (by decide), BR_after hR h11 a6 h0 ht hnn hgc hT hU hpr hfr a4 a5⟩
      · rw [hc1, z0]; exact hz
      · rw [va_up_ne _ _ (by decide), hm2, z0]; exact hz
  · exact ⟨-1, μ, μ, M_up (k := 3) (fun d => M60 ⟨_, _, w1 d μ, fun e => absurd rfl e, fun _ => rfl⟩) (by decide), M_up (k := 3) (fun d => M123 ⟨_, _, w2 (d + 1) μ, fun e => absurd rfl e, fun _ => rfl⟩) (by decide), hB⟩
