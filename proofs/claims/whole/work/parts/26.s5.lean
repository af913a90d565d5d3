/-! what a step of a tick keeps: nothing becomes due, places gone are marked, the rest of the house stays -/
def Tr (N N' : Nat) (P P' : Nat → Nat) (σ σ' h h' : Rg) : Prop :=
  (∀ k', k' < N' → h' 72 0 k' = h 60 0 0 → ∃ k, k < N ∧ P k = P' k' ∧ h 67 0 k = h' 67 0 k' ∧ h 70 0 k = h' 70 0 k' ∧ h 72 0 k = h 60 0 0) ∧
  (∀ p, ((∃ k, k < N ∧ P k = p) ∨ σ 15 0 p = -1) → ((∃ k, k < N' ∧ P' k = p) ∨ σ' 15 0 p = -1)) ∧
  h' 60 0 0 = h 60 0 0 ∧ (∀ a, 28 ≤ a → σ' a = σ a) ∧ σ' 1 0 10 = σ 1 0 10 ∧ σ' 4 = σ 4
theorem Tr.refl {N : Nat} {P : Nat → Nat} {σ h : Rg} : Tr N N P P σ σ h h := ⟨fun k hk e => ⟨k, hk, rfl, rfl, rfl, e⟩, fun _ h => h, rfl, fun _ _ => rfl, rfl, rfl⟩
theorem Tr.trans {N N' N2 : Nat} {P P' P2 : Nat → Nat} {σ σ' σ2 h h' h2 : Rg} (a : Tr N N' P P' σ σ' h h') (b : Tr N' N2 P' P2 σ' σ2 h' h2) : Tr N N2 P P2 σ σ2 h h2 := by
  obtain ⟨a1, a2, a3, a4, a5, a6⟩ := a
  obtain ⟨b1, b2, b3, b4, b5, b6⟩ := b
  refine ⟨fun k hk e => ?_, fun p h => b2 p (a2 p h), b3.trans a3, fun x hx => (b4 x hx).trans (a4 x hx), b5.trans a5, b6.trans a6⟩
  obtain ⟨k1, c1, c2, c3, c4, c5⟩ := b1 k hk (e.trans a3.symm)
  obtain ⟨k2, d1, d2, d3, d4, d5⟩ := a1 k1 c1 (c5.trans a3)
  exact ⟨k2, d1, d2.trans c2, d3.trans c3, d4.trans c4, d5⟩
theorem Tr.same {N : Nat} {P : Nat → Nat} {σ σ' h h' : Rg} (e67 : h' 67 = h 67) (e70 : h' 70 = h 70) (e72 : h' 72 = h 72) (e60 : h' 60 0 0 = h 60 0 0) (e15 : σ' 15 = σ 15) (e28 : ∀ a, 28 ≤ a → σ' a = σ a) (e10 : σ' 1 0 10 = σ 1 0 10) (e4 : σ' 4 = σ 4) : Tr N N P P σ σ' h h' := ⟨fun k hk e => ⟨k, hk, rfl, by rw [e67], by rw [e70], by rw [← e, e72]⟩, fun p h => by rw [e15]; exact h, e60, e28, e10, e4⟩
theorem Tr.st {N z : Nat} {P : Nat → Nat} {σ h : Rg} {u v : Int32} (hv : ¬ v = h 60 0 0) (hu : ¬ u = -1) (hz : z < N) : Tr N N P P σ (cset (cset σ 15 0 (P z) u) 18 0 (P z) v) h (cset (cset h 70 0 z u) 72 0 z v) := by
  refine ⟨fun k hk e => ?_, fun p hp => ?_, ?_, fun a ha => ?_, ?_, ?_⟩
  · simp (disch := decide) only [cs_a, cs_r, up_app] at e ⊢
    by_cases ek : k = z
    · rw [if_pos ek] at e; exact absurd e hv
    · rw [if_neg ek] at e
      rw [if_neg ek]
      exact ⟨k, hk, rfl, rfl, rfl, e⟩
  · simp (disch := decide) only [cs_a, cs_r, up_app]
    rcases hp with hp | hp
    · exact Or.inl hp
    · by_cases ep : p = P z
      · exact Or.inl ⟨z, hz, ep.symm⟩
      · rw [if_neg ep]; exact Or.inr hp
  · simp (disch := decide) only [cs_a]
  · rw [cs_a _ _ (by omega), cs_a _ _ (by omega)]
  · simp (disch := decide) only [cs_a]
  · simp (disch := decide) only [cs_a]
/-- changes that the relation doesn't see, and small ones -/
theorem R_one {σ m h : Rg} {ns N G nn gc pj pg i : Nat} {P Q PG QG : Nat → Nat} {v : Int32} (hR : R σ m h ns N G nn gc P Q PG QG pj pg) (hi : 5 ≤ i) : R (cset σ 1 0 i v) m h ns N G nn gc P Q PG QG pj pg := by
  unfold R at hR ⊢
  simp (disch := first | decide | omega) only [cs_a, cs_i]
  exact hR
theorem R_np {σ m h : Rg} {ns N G nn gc pj pg pj' pg' : Nat} {P Q PG QG : Nat → Nat} (hR : R σ m h ns N G nn gc P Q PG QG pj pg) (h1 : N ≤ pj) (h2 : N ≤ pj') (h3 : G ≤ pg) (h4 : G ≤ pg') : R σ m h ns N G nn gc P Q PG QG pj' pg' := by
  obtain ⟨r1, r2, r3, r4, ⟨l1, l2, l3, l4⟩, r6⟩ := hR
  refine ⟨r1, r2, r3, r4, ⟨fun k hk _ => l1 k hk (by omega), fun i hi => ?_, fun j hj _ => l3 j hj (by omega), l4⟩, r6⟩
  rcases l2 i hi with q | ⟨k, k1, k2, k3⟩ | ⟨j, j1, j2, j3⟩
  · exact Or.inl q
  · exact Or.inr (Or.inl ⟨k, k1, by omega, k3⟩)
  · exact Or.inr (Or.inr ⟨j, j1, by omega, j3⟩)
theorem R_fails {σ m h : Rg} {ns N G nn gc pj pg s : Nat} {P Q PG QG : Nat → Nat} {v : Int32} (hR : R σ m h ns N G nn gc P Q PG QG pj pg) : R (cset σ 3 s 7 v) m (cset h 62 0 s v) ns N G nn gc P Q PG QG pj pg := by
  obtain ⟨r1, r2, r3, r4, r5, r6, r7, r8, r9, r10, r11⟩ := hR
  refine ⟨?_, ?_, ?_, ?_, ?_, ?_, ?_, ?_, ?_, ?_, ?_⟩ <;> simp (disch := decide) only [cs_a, cs_i, cs_col, cs_r]
  · exact r1
  · exact r2
  · exact r3
  · exact r4
  · exact r5
  · exact r6
  · exact r7
  · exact r8.fails
  · exact r9
  · exact r10
  · exact r11
theorem R_gbad {σ m h : Rg} {ns N G nn gc pj j pg' : Nat} {P Q PG QG : Nat → Nat} {v : Int32} (hR : R σ m h ns N G nn gc P Q PG QG pj j) (hj : j < G) (hpg : G ≤ pg') : R (cset (cset σ 25 0 (PG j) (-1)) 26 0 (PG j) v) m (cset (cset h 76 0 j (-3)) 77 0 j v) ns N G nn gc P Q PG QG pj pg' := by
  obtain ⟨r1, r2, r3, r4, r5, r6, r7, r8, r9, r10, r11⟩ := hR
  have hgi := r2.2.2.2.1
  refine ⟨?_, ?_, ?_, ?_, ?_, ?_, ?_, ?_, ?_, ?_, ?_⟩ <;> simp (disch := decide) only [cs_a, cs_r]
  · exact r1
  · exact r2
  · exact r3
  · exact r4
  · exact r5.gset hj hgi hpg
  · exact r6
  · exact r7
  · exact r8
  · exact r9
  · exact r10
  · exact r11.set77 hgi hj
theorem R_ggo {σ σ' m h h' : Rg} {ns N G nn gc pj z pg pg' : Nat} {P Q PG QG : Nat → Nat} (hR : R σ m h ns N G nn gc P Q PG QG pj pg) (hz : z < G) (hp : pg = z ∨ G ≤ pg) (hc : z = pg ∨ σ 25 0 (PG z) = -1) (hpg : G - 1 ≤ pg')
    (l21 : LN (σ' 21 0) (σ' 22 0) (σ' 23 0) 100 (G - 1) (fun k => PG (shk z k)) (cons1 (PG z) QG)) (f : ∀ a, a ≠ 20 → a ≠ 21 → a ≠ 22 → a ≠ 23 → a ≠ 25 → a ≠ 1 → σ' a = σ a) (f25 : ∀ k, k < G → k ≠ z → σ' 25 0 (PG k) = σ 25 0 (PG k)) (t2 : ∀ a, 75 ≤ a → a ≤ 79 → ∀ k, k < G - 1 → h' a 0 k = h a 0 (shk z k)) (t3 : ∀ a, ¬ (75 ≤ a ∧ a ≤ 79) → a ≠ 60 → h' a = h a)
    (hsc : SC (σ' 1 0 1) (σ' 1 0 2) (σ' 1 0 3) (σ' 1 0 4) (σ' 8 0 9) (σ' 20 0 5) (σ' 20 0 6) (σ' 20 0 7) (σ' 20 0 8) (σ' 20 0 9) (σ' 20 0 10) (h' 60 0 0) (h' 60 0 15) (h' 60 0 16) (h' 60 0 22) (h' 60 0 23) (h' 60 0 24) (h' 60 0 25) (h' 60 0 26) (h' 60 0 27) (h' 60 0 28) (m 40 0 2) (m 40 0 3) (m 40 0 4) N (G - 1) ns nn gc) : R σ' m h' ns N (G - 1) nn gc P Q (fun k => PG (shk z k)) (cons1 (PG z) QG) pj pg' := by
  obtain ⟨r1, r2, r3, r4, r5, r6, r7, r8, r9, r10, r11⟩ := hR
  have hb := r1.2.1
  have lk := r5.grem hz hb hp hpg hc (t2 76 (by decide) (by decide))
  refine ⟨?_, l21, ?_, ?_, ?_, ?_, ?_, ?_, ?_, hsc, ?_⟩
  · simp (disch := decide) only [f]; exact r1
  · rw [t3 67 (by omega) (by decide), t3 68 (by omega) (by decide), t3 69 (by omega) (by decide), t3 70 (by omega) (by decide), t3 72 (by omega) (by decide), t3 73 (by omega) (by decide)]
    simp (disch := decide) only [f]; exact r3
  · rw [t3 67 (by omega) (by decide), t3 68 (by omega) (by decide), t3 69 (by omega) (by decide), t3 70 (by omega) (by decide), t3 72 (by omega) (by decide), t3 73 (by omega) (by decide)]
    exact r4
  · rw [t3 67 (by omega) (by decide), t3 68 (by omega) (by decide), t3 70 (by omega) (by decide), t3 71 (by omega) (by decide), t3 74 (by omega) (by decide)]
    simp (disch := decide) only [f]
    obtain ⟨l1, l2, l3, l4⟩ := lk
    refine ⟨l1, fun i hi => ?_, fun j hj hjp => ?_, l4⟩
    · rcases l2 i hi with q | q | ⟨j, q1, q2, q3, q4⟩
      · exact Or.inl q
      · exact Or.inr (Or.inl q)
      · refine Or.inr (Or.inr ⟨j, q1, q2, q3, ?_⟩)
        dsimp only at q4 ⊢
        rw [f25 _ (shk_lt hz q1) (shk_ne z j)]
        exact q4
    · have := l3 j hj hjp
      dsimp only at this ⊢
      rw [f25 _ (shk_lt hz hj) (shk_ne z j)]
      exact this
  · rw [t3 65 (by omega) (by decide), t3 66 (by omega) (by decide), t3 67 (by omega) (by decide), t3 68 (by omega) (by decide), t3 70 (by omega) (by decide)]
    simp (disch := decide) only [f]; exact r6
  · rw [t3 68 (by omega) (by decide), t3 70 (by omega) (by decide)]
    simp (disch := decide) only [f]; exact r7
  · rw [t3 61 (by omega) (by decide), t3 62 (by omega) (by decide), t3 63 (by omega) (by decide), t3 64 (by omega) (by decide)]
    simp (disch := decide) only [f]; exact r8
  · simp (disch := decide) only [f]; exact r9
  · simp (disch := decide) only [f]
    exact r11.rem hz (t2 75 (by decide) (by decide)) (t2 77 (by decide) (by decide)) (t2 78 (by decide) (by decide)) (t2 79 (by decide) (by decide))
/-- the guests stay, with their numbers, and none becomes due -/
def GK (h h' : Rg) : Prop := h' 79 = h 79 ∧ ∀ k, h' 77 0 k = h 60 0 0 → h 77 0 k = h 60 0 0
theorem one_ne (t : Int32) : ¬ t + 1 = t := by
  intro e
  have : t + 1 = t + 0 := by rw [e, Int32.add_zero]
  exact absurd ((Int32.add_right_inj t).mp this) (by decide)
/-- a guest is answered -/
theorem SIM_G {σ m h : Rg} {ns N G nn gc pj j i : Nat} {P Q PG QG : Nat → Nat} {g : Int32} (hR : R σ m h ns N G nn gc P Q PG QG pj j) (hpj : N ≤ pj) (hj : j < G) (h11 : σ 1 0 11 = nI (1000 + PG j)) (h12 : σ 1 0 12 = g) (hg : g = 0 ∨ g = 1) (hi : i ≤ 6) :
    ∃ σ' h' G' PG' QG', ST 3 i σ σ' ∧ MX 2 95 [.inl (nI j), .inl g] m h none m h' ∧ R σ' m h' ns N G' nn gc P Q PG' QG' 1000 1000 ∧ σ' 1 0 11 = -1 ∧ Tr N N P P σ σ' h h' ∧ ((g = 0 ∧ G' = G ∧ PG' = PG ∧ GK h h') ∨ (g = 1 ∧ G' = G - 1 ∧ (PG' = fun k => PG (shk j k)) ∧ ∀ a, 75 ≤ a → a ≤ 79 → ∀ k, k < G - 1 → h' a 0 k = h a 0 (shk j k))) := by
  have hgb : PG j < 100 := hR.2.1.2.1 j hj
  have hG100 : G ≤ 100 := hR.2.1.1
  have hN120 : N ≤ 120 := hR.1.1
  have hgi := hR.2.1.2.2.2.1
  obtain ⟨tt, ht0, ht1, ht2⟩ := hR.2.2.2.2.2.2.2.2.2.1.2.2.2.2.2.1
  have hG := hR.2.2.2.2.2.2.2.2.2.1.2.2.1
  have hR1 : R (cset σ 1 0 11 (-1)) m h ns N G nn gc P Q PG QG pj j := R_one hR (by decide)
  rcases hg with rfl | rfl
  · have hR2 := R_np (R_gbad (v := h 60 0 0 + 1) hR1 hj (Nat.le_refl G)) hpj (by omega : N ≤ 1000) (Nat.le_refl G) (by omega : G ≤ 1000)
    have hE := T_aG0 (σ := cset σ 1 0 11 (-1)) hgb (by rw [cs_i _ _ (by decide)]; exact h12)
    rw [cs_i _ _ (by decide), ht1, ← ht2] at hE
    refine ⟨_, _, G, PG, QG, ST_guest hi hgb h11 hE (ST.mono (ST_stop (by simp (disch := decide) only [cs_a, cs_s])) (by decide)), (T_ansG0 (by omega)).mono (by decide), hR2, by simp (disch := decide) only [cs_a, cs_s], ?_, Or.inl ⟨rfl, rfl, rfl, by simp (disch := decide) only [cs_a], fun k hk => ?_⟩⟩
    · refine Tr.same ?_ ?_ ?_ ?_ ?_ (fun a ha => ?_) ?_ ?_ <;> first | (simp (disch := decide) only [cs_a, cs_i]; done) | (rw [cs_a _ _ (by omega), cs_a _ _ (by omega), cs_a _ _ (by omega)])
    · rw [cs_r, up_app] at hk
      by_cases e : k = j
      · rw [if_pos e] at hk; exact absurd hk (one_ne _)
      · rw [if_neg e, cs_a _ _ (by decide)] at hk; exact hk
  · obtain ⟨σ2, e1, e2, e3⟩ := T_aG1 (σ := cset σ 1 0 11 (-1)) (G := G) (z := j) (PG := PG) (QG := QG) (by simpa (disch := decide) only [cs_a] using hR.2.1) hj (by rw [cs_i _ _ (by decide)]; exact h12)
    obtain ⟨h2, m1, m2, m3⟩ := T_ansG1 (m := m) hG hG100 hj
    have f11 : σ2 1 0 11 = -1 := by rw [e3 1 (by decide) (by decide) (by decide)]; simp (disch := decide) only [cs_a, cs_s]
    refine ⟨σ2, h2, G - 1, fun k => PG (shk j k), cons1 (PG j) QG, ST_guest hi hgb h11 e1 (ST.mono (ST_stop f11) (by decide)), m1, ?_, f11, ?_, Or.inr ⟨rfl, rfl, rfl, m2⟩⟩
    · refine R_np (R_ggo (pg' := G) hR1 hj (Or.inl rfl) (Or.inl rfl) (by omega) e2 ?_ ?_ m2 ?_ ?_) hpj (by omega) (by omega) (by omega)
      · intro a a20 a21 a22 a23 a25 a1
        rw [e3 a a21 a22 a23, cs_a _ _ a20, cs_a _ _ a25]
      · intro k hk hkz
        rw [e3 25 (by decide) (by decide) (by decide), cs_a _ _ (by decide), cs_r, va_up_ne _ _ (fun q => hkz (hgi _ _ hk hj q))]
      · intro a a1 a2
        rw [m3 a a1, cs_a _ _ a2, cs_a _ _ a2]
      · rw [m3 60 (by omega), e3 1 (by decide) (by decide) (by decide), e3 8 (by decide) (by decide) (by decide), e3 20 (by decide) (by decide) (by decide)]
        obtain ⟨c1, c2, c3, c4, c5, c6, c7, c8, c9, c10⟩ := hR.2.2.2.2.2.2.2.2.2.1
        simp (disch := decide) only [cs_a, cs_i, cs_s]
        exact ⟨c1, c2, rfl, c4, c5, c6, c7, c8, by rw [c9], c10⟩
    · refine Tr.same ?_ ?_ ?_ ?_ ?_ (fun a ha => ?_) ?_ ?_
      · rw [m3 67 (by omega)]; simp (disch := decide) only [cs_a]
      · rw [m3 70 (by omega)]; simp (disch := decide) only [cs_a]
      · rw [m3 72 (by omega)]; simp (disch := decide) only [cs_a]
      · rw [m3 60 (by omega)]; simp (disch := decide) only [cs_i]
      · rw [e3 15 (by decide) (by decide) (by decide)]; simp (disch := decide) only [cs_a]
      · rw [e3 a (by omega) (by omega) (by omega), cs_a _ _ (by omega), cs_a _ _ (by omega), cs_a _ _ (by omega)]
      · rw [e3 1 (by decide) (by decide) (by decide)]; simp (disch := decide) only [cs_a, cs_i]
      · rw [e3 4 (by decide) (by decide) (by decide)]; simp (disch := decide) only [cs_a]
