/-! a job ends, and all that follows up the row -/
theorem Tr_end {σ σ1 m h h3 : Rg} {N z s q : Nat} {P : Nat → Nat} {g x : Int32} (hz : z < N) (f1 : ∀ a, a ≠ 9 → a ≠ 10 → a ≠ 11 → σ1 a = cset (cE1 σ (P z) s q g x) 15 0 (P z) (-1) a) (t2 : ∀ a, 67 ≤ a → a ≤ 74 → ∀ k, k < N - 1 → h3 a 0 k = h a 0 (shk z k)) (t3 : ∀ a, ¬ (67 ≤ a ∧ a ≤ 74) → h3 a = cset (mKp m h s q g) 60 0 15 (nI (N - 1)) a) :
    Tr N (N - 1) P (fun k => P (shk z k)) σ (cset (cset σ1 1 0 11 x) 1 0 12 g) h (if x = -1 then mNo h3 s else h3) := by
  have fh : ∀ a, a ≠ 60 → a ≠ 63 → (if x = -1 then mNo h3 s else h3) a = h3 a := by
    intro a a1 a2
    split
    · unfold mNo; rw [cs_a _ _ a1, cs_a _ _ a2]
    · rfl
  have f60 : (if x = -1 then mNo h3 s else h3) 60 0 0 = h 60 0 0 := by
    have e1 : h3 60 0 0 = h 60 0 0 := by rw [t3 60 (by omega), cs_i _ _ (by decide), mKp_out (by decide) (by decide)]
    split
    · unfold mNo; rw [cs_i _ _ (by decide), cs_a _ _ (by decide), e1]
    · exact e1
  refine ⟨fun k hk e => ?_, fun p hp => ?_, f60, fun a ha => ?_, ?_, ?_⟩
  · rw [fh 72 (by decide) (by decide), t2 72 (by decide) (by decide) k hk] at e
    rw [fh 67 (by decide) (by decide), fh 70 (by decide) (by decide), t2 67 (by decide) (by decide) k hk, t2 70 (by decide) (by decide) k hk]
    exact ⟨shk z k, shk_lt hz hk, rfl, rfl, rfl, e⟩
  · have f15 : cset (cset σ1 1 0 11 x) 1 0 12 g 15 0 = va_up (σ 15 0) (P z) (-1) := by
      rw [cs_a _ _ (by decide), cs_a _ _ (by decide), f1 15 (by decide) (by decide) (by decide), cs_r, cE1_out (by decide) (by decide) (by decide) (by decide)]
    rw [f15, up_app]
    by_cases ep : p = P z
    · rw [if_pos ep]; exact Or.inr rfl
    · rw [if_neg ep]
      rcases hp with ⟨k, k1, k2⟩ | hp
      · have hkz : ¬ k = z := by rintro rfl; exact ep k2.symm
        obtain ⟨k', w1, w2⟩ := shk_onto hkz k1 hz
        exact Or.inl ⟨k', w1, by dsimp only; rw [w2]; exact k2⟩
      · exact Or.inr hp
  · rw [cs_a _ _ (by omega), cs_a _ _ (by omega), f1 a (by omega) (by omega) (by omega), cs_a _ _ (by omega), cE1_out (by omega) (by omega) (by omega) (by omega)]
  · rw [cs_i _ _ (by decide), cs_i _ _ (by decide), f1 1 (by decide) (by decide) (by decide), cs_a _ _ (by decide), cE1_1 (by decide)]
  · rw [cs_a _ _ (by decide), cs_a _ _ (by decide), f1 4 (by decide) (by decide) (by decide), cs_a _ _ (by decide), cE1_out (by decide) (by decide) (by decide) (by decide)]
/-- what an answer to a pending job at service s comes to -/
def AnsAt (s : Nat) : Prop := ∀ {σ m h : Rg} {ns N G nn gc z pg i : Nat} {P Q PG QG : Nat → Nat} {g : Int32}, R σ m h ns N G nn gc P Q PG QG z pg → G ≤ pg → z < N → h 68 0 z = nI s → ¬ h 70 0 z = 0 → s + 1 < ns → (g = 0 ∨ g = 1) → σ 1 0 11 = nI (P z) → σ 1 0 12 = g → i + s + 2 ≤ 7 →
  ∃ σ' h' N' G' P' Q' PG' QG', ST 3 i σ σ' ∧ MX (9 * s + 11) 98 [.inl (h 67 0 z), .inl g] m h none m h' ∧ R σ' m h' ns N' G' nn gc P' Q' PG' QG' 1000 1000 ∧ σ' 1 0 11 = -1 ∧ Tr N N' P P' σ σ' h h'
theorem SIM_end {s : Nat} (IH : ∀ s', s = s' + 1 → AnsAt s') {σ m h : Rg} {ns N G nn gc z pj pg i : Nat} {P Q PG QG : Nat → Nat} {g : Int32} (hR : R σ m h ns N G nn gc P Q PG QG pj pg) (hpj : pj = z ∨ (N ≤ pj ∧ σ 17 0 (P z) = -1)) (hpg : G ≤ pg) (hz : z < N) (h68 : h 68 0 z = nI s) (h70 : ¬ h 70 0 z = 0) (hg : g = 0 ∨ g = 1) (hi : i + s + 1 ≤ 7) :
    ∃ σ2 σ' h' N' G' P' Q' PG' QG', CX 3 18 1 0 [.inl (nI (P z)), .inl g] σ none σ2 ∧ ST 3 i σ2 σ' ∧ MX (9 * s + 7) 97 [.inl (h 67 0 z), .inl g] m h none m h' ∧ R σ' m h' ns N' G' nn gc P' Q' PG' QG' 1000 1000 ∧ σ' 1 0 11 = -1 ∧ Tr N N' P P' σ σ' h h' := by
  obtain ⟨r1, r2, r3, r4, r5, r6, r7, r8, r9, r10, r11⟩ := id hR
  have hinj := r1.2.2.2.1
  have hb := r1.2.1
  have hgb := r2.2.1
  have hN120 : N ≤ 120 := r1.1
  have hG100 : G ≤ 100 := r2.1
  have hns : ns ≤ 6 := r10.1.1
  have hNN : h 60 0 15 = nI N := r10.2.1
  have hGG : h 60 0 22 = nI G := r10.2.2.1
  obtain ⟨⟨n0, hn0, hn1⟩, ⟨s1, hs1, hs2⟩, ⟨q, hq1, hq2⟩, -⟩ := r4.1 z hz
  have hss : s1 = s := nI_inj (by omega) (by omega) (hs2.symm.trans h68)
  subst hss
  have hnn : nn < 1073741824 := r10.2.2.2.1.1
  have huz : ∀ i, i < z → ¬ h 67 0 i = h 67 0 z := fun i hi' e => absurd (r4.uniq (by omega) hz e) (by omega)
  have e13 : σ 13 0 (P z) = nI s1 := by rw [← (r3 z hz).2.1]; exact h68
  have e14 : σ 14 0 (P z) = nI q := by rw [← (r3 z hz).2.2.1]; exact hq2
  obtain ⟨σ1, c1, c2, c3⟩ := T_end (g := g) r1 hz (by omega) hq1 e13 e14 hg
  obtain ⟨h3, m1, m2, m3⟩ := T_over (m := m) (g := g) hNN hN120 hz rfl huz (by omega) hq1 h68 hq2 hg
  have pin : ∀ i j, i < N → j < N → nI (P i) = nI (P j) → i = j := fun i j hi' hj' e => hinj i j hi' hj' (nI_inj (by have := hb i hi'; omega) (by have := hb j hj'; omega) e)
  have s11 : cset (cset σ1 1 0 11 (σ 16 0 (P z))) 1 0 12 g 1 0 11 = σ 16 0 (P z) := by rw [cs_i _ _ (by decide), cs_s]
  have s12 : cset (cset σ1 1 0 11 (σ 16 0 (P z))) 1 0 12 g 1 0 12 = g := cs_s _ _ _ _ _
  have tr := Tr_end (m := m) (q := q) (g := g) (x := σ 16 0 (P z)) hz c3 m1 m2
  have r10' : h3 60 0 15 = nI (N - 1) := by rw [m2 60 (by omega), cs_s]
  have r22' : h3 60 0 22 = nI G := by rw [m2 60 (by omega), cs_i _ _ (by decide), mKp_out (by decide) (by decide)]; exact hGG
  have nz : ∀ k, k < N - 1 → ¬ h3 67 0 k = h 67 0 z := fun k hk e => by
    rw [m1 67 (by decide) (by decide) k hk] at e
    exact shk_ne z k (r4.uniq (shk_lt hz hk) hz e)
  have h76 : h3 76 = h 76 := by rw [m2 76 (by omega), cs_a _ _ (by decide), mKp_out (by decide) (by decide)]
  obtain ⟨l1, l2, l3, l4⟩ := id r5
  rcases l2 z hz with hx | ⟨kk, hk1, hk2, hk3, hk4⟩ | ⟨j, hj1, hj2, hj3, hj4⟩
  · -- nobody
    have hR2 := R_end (pj' := 1000) (pg' := 1000) hR hz h70 h68 hs1 hq1 hg rfl hpj hpg (fun k hk _ e => by rw [hx] at e; exact nI_m1 (by have := hb _ (shk_lt hz hk); omega) e.symm) (fun j hj _ e => by rw [hx] at e; exact nI_m1 (by have := hgb j hj; omega) e.symm) (fun e => by omega) (fun e => by omega) c2 c3 m1 m2
    rw [hx] at hR2 tr s11
    rw [hx] at c1
    simp only [if_true] at hR2 tr
    have lk := hR2.2.2.2.2.1
    have eno : ∀ a, a ≠ 60 → a ≠ 63 → mNo h3 s1 a = h3 a := fun a a1 a2 => by unfold mNo; rw [cs_a _ _ a1, cs_a _ _ a2]
    rw [eno 67 (by decide) (by decide), eno 68 (by decide) (by decide), eno 70 (by decide) (by decide), eno 71 (by decide) (by decide), eno 74 (by decide) (by decide), eno 76 (by decide) (by decide)] at lk
    have tell : MX 2 94 [.inl (h 67 0 z), .inl (h 71 0 z), .inl g] m h3 (some 0) m h3 := by
      rcases l4 z hz with e | ⟨nr, hnr, e⟩
      · rw [e]
        refine T_tellNoG r22' hG100 (fun j hj e2 => ?_) (by decide)
        rcases lk.2.2.1 j hj (by omega) with w | ⟨i', w1, w2, w3, -⟩
        · rw [w.2, hn1] at e2; exact nI_neg (by omega) (by decide) e2.symm
        · exact nz i' w1 (w3.symm.trans e2)
      · rw [e]
        refine T_tellNoJ r10' (by omega) hnr (fun i' j' hi' hj' e2 => ?_) (fun k hk _ _ e2 => ?_)
        · rw [m1 67 (by decide) (by decide) i' hi', m1 67 (by decide) (by decide) j' hj'] at e2
          exact shk_inj (r4.uniq (shk_lt hz hi') (shk_lt hz hj') e2)
        · rcases lk.1 k hk (by omega) with w | ⟨-, i', w1, -, w3, -⟩
          · rw [w.2, hn1] at e2; exact nI_m1 (by omega) e2.symm
          · exact nz i' w1 (w3.symm.trans e2)
    exact ⟨_, _, _, N - 1, G, _, _, PG, QG, c1, ST.mono (ST_stop s11) (by decide), ((m3 2 0 h3 tell).2 rfl).mono (by omega), hR2, s11, tr⟩
  · -- a job
    have hkz : ¬ kk = z := by
      rintro rfl
      rcases hpj with w | w
      · exact hk2 w.symm
      · rw [w.2] at hk4; exact nI_m1 (by have := hb _ hz; omega) hk4.symm
    obtain ⟨k', w1, w2⟩ := shk_onto hkz hk1 hz
    obtain ⟨u70, u74, u71, u68⟩ : h 70 0 kk = 2 ∧ h 74 0 kk = h 67 0 z ∧ h 71 0 z = h 67 0 kk ∧ h 68 0 z = h 68 0 kk + 1 := by
      rcases l1 kk hk1 hk2 with w | ⟨v1, i', v2, v3, v4, v5, v6, v7⟩
      · rw [w.1] at hk4; exact absurd hk4.symm (nI_m1 (by have := hb _ hz; omega))
      · rw [hk4] at v3
        have := pin _ _ hz v2 v3
        subst this
        exact ⟨v1, v4, v6, v7⟩
    have hxn : ¬ σ 16 0 (P z) = -1 := by rw [hk3]; exact nI_m1 (by have := hb _ hk1; omega)
    have hR2 := R_end (pj' := k') (pg' := 1000) hR hz h70 h68 hs1 hq1 hg rfl hpj hpg (fun k hk hne e => by
        rw [hk3] at e
        have := pin _ _ hk1 (shk_lt hz hk) e
        rw [← w2] at this
        exact hne (shk_inj this).symm) (fun j hj _ e => by
        rw [hk3] at e
        have := nI_inj (by have := hb _ hk1; omega) (by have := hgb j hj; omega) e
        have := hb _ hk1
        omega) (fun _ => by rw [w2]; exact hk4) (fun e => by omega) c2 c3 m1 m2
    simp only [if_neg hxn] at hR2 tr
    obtain ⟨⟨nk, hnk0, hnk1⟩, ⟨s2, hs21, hs22⟩, -⟩ := r4.1 kk hk1
    have es : s1 = s2 + 1 := by
      rw [h68, hs22, nI_1] at u68
      exact nI_inj (by omega) (by omega) u68
    have e67 : h3 67 0 k' = nI nk := by rw [m1 67 (by decide) (by decide) k' w1, w2, hnk1]
    obtain ⟨σ', h', N', G', P', Q', PG', QG', a1, a2, a3, a4, a5⟩ := IH s2 es (i := i) hR2 (by omega) w1 (by rw [m1 68 (by decide) (by decide) k' w1, w2, hs22]) (by rw [m1 70 (by decide) (by decide) k' w1, w2, u70]; decide) (by omega) hg (by rw [s11, hk3, w2]) s12 (by omega)
    rw [e67] at a2
    have tell := T_tellJ (n := h 67 0 z) r10' (by omega) w1 e67 (by omega) (fun i' hi' e => by
        rw [m1 67 (by decide) (by decide) i' (by omega), ← hnk1] at e
        have := r4.uniq (shk_lt hz (by omega)) hk1 e
        rw [← w2] at this
        have := shk_inj this
        omega) (by rw [m1 70 (by decide) (by decide) k' w1, w2, u70]) (by rw [m1 74 (by decide) (by decide) k' w1, w2, u74]) a2
    rw [← hnk1, ← u71] at tell
    exact ⟨_, σ', h', N', G', P', Q', PG', QG', c1, a1, ((m3 _ 1 h' tell).1 (by decide)).mono (by omega), a3, a4, tr.trans a5⟩
  · -- a guest
    obtain ⟨u76, u71⟩ : h 76 0 j = h 67 0 z ∧ h 71 0 z = -4 := by
      rcases l3 j hj1 hj2 with w | ⟨i', v1, v2, v3, v4, v5, v6⟩
      · rw [w.1] at hj4; exact absurd hj4.symm (nI_m1 (by have := hb _ hz; omega))
      · rw [hj4] at v2
        have := pin _ _ hz v1 v2
        subst this
        exact ⟨v3, v5⟩
    have hxn : ¬ σ 16 0 (P z) = -1 := by rw [hj3]; exact nI_m1 (by have := hgb _ hj1; omega)
    have hR2 := R_end (pj' := 1000) (pg' := j) hR hz h70 h68 hs1 hq1 hg rfl hpj hpg (fun k hk _ e => by
        rw [hj3] at e
        have := nI_inj (by have := hgb _ hj1; omega) (by have := hb _ (shk_lt hz hk); omega) e
        have := hb _ (shk_lt hz hk)
        omega) (fun j' hj' hne e => by
        rw [hj3] at e
        have := nI_inj (by have := hgb _ hj1; omega) (by have := hgb j' hj'; omega) e
        exact hne (r2.2.2.2.1 _ _ hj' hj1 (by omega))) (fun e => by omega) (fun _ => hj4) c2 c3 m1 m2
    simp only [if_neg hxn] at hR2 tr
    obtain ⟨σ', h', G', PG', QG', a1, a2, a3, a4, a5, -⟩ := SIM_G (i := i) hR2 (by omega) hj1 (by rw [s11, hj3]) s12 hg (by omega)
    have tell := T_tellG (n := h 67 0 z) (raw := -4) r22' hG100 hj1 (by rw [h76, u76]) (fun i' hi' e => by
        rw [h76] at e
        rcases l3 i' (by omega) (by omega) with w | ⟨i2, v1, v2, v3, v4, v5, v6⟩
        · rw [w.2, hn1] at e; exact nI_neg (by omega) (by decide) e.symm
        · have := r4.uniq v1 hz (v3.symm.trans e)
          subst this
          rw [hj3] at v4
          have := nI_inj (by have := hgb _ hj1; omega) (by have := hgb i' (by omega); omega) v4
          have := r2.2.2.2.1 _ _ hj1 (by omega : i' < G) (by omega)
          omega) (by decide) a2
    rw [← u71] at tell
    exact ⟨_, σ', h', N - 1, G', _, _, PG', QG', c1, a1, ((m3 _ 1 h' tell).1 (by decide)).mono (by omega), a3, a4, tr.trans a5⟩
