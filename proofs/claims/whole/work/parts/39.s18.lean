/-! the guests' patience, both sides -/
theorem Mch.keep {a79 a77 b79 b77 : Nat → Int32} {t : Int32} (e1 : b79 = a79) (e2 : ∀ k, b77 k = t → a77 k = t) : ∀ (c j : Nat) (L : List Int32), Mch a79 a77 t c j L → Mch b79 b77 t c j L := by
  intro c
  induction c with
  | zero => intro j L h; exact h
  | succ c ih =>
    intro j L h
    rcases h with ⟨h1, h2⟩ | ⟨L', h1, h2⟩
    · exact Or.inl ⟨fun e => h1 (e2 j e), ih _ _ h2⟩
    · exact Or.inr ⟨L', by rw [e1]; exact h1, ih _ _ h2⟩
theorem Mch.shift {a79 a77 b79 b77 : Nat → Int32} {t : Int32} : ∀ (c j : Nat) (L : List Int32), (∀ k, j ≤ k → k < j + c → b79 k = a79 (k + 1) ∧ b77 k = a77 (k + 1)) → Mch a79 a77 t c (j + 1) L → Mch b79 b77 t c j L := by
  intro c
  induction c with
  | zero => intro j L _ h; exact h
  | succ c ih =>
    intro j L hk h
    obtain ⟨k1, k2⟩ := hk j (by omega) (by omega)
    rcases h with ⟨h1, h2⟩ | ⟨L', h1, h2⟩
    · exact Or.inl ⟨fun e => h1 (k2.symm.trans e), ih _ _ (fun k q1 q2 => hk k (by omega) (by omega)) h2⟩
    · exact Or.inr ⟨L', by rw [k1]; exact h1, ih _ _ (fun k q1 q2 => hk k (by omega) (by omega)) h2⟩
theorem SIM_pat : ∀ (c : Nat) {σ m h : Rg} {ns N G nn gc j i many : Nat} {P Q PG QG : Nat → Nat} {L : List Int32}, R σ m h ns N G nn gc P Q PG QG 1000 1000 → 0 < ns → j + c = G → Mch (h 79 0) (h 77 0) (h 60 0 0) c j L → Seg (m 49 0) many L i → many ≤ 100 → nn + c < 1073741824 → σ 1 0 11 = -1 →
    ∃ σ' h' N' G' P' Q' PG' QG' nn', (∀ x2, x2 + c ≤ 100 → ∀ d μ r u3, EvE (M (d + 6)) 8 13 [some (.inr (r, 1, 0)), some (.inl (if j < G then nI (PG j) else -1)), some (.inl (nI x2)), u3] [] (va_up μ r σ) (none, va_up μ r σ')) ∧ (∀ d μ u3, EvE (M (d + 8)) 109 60 [some (.inr (3, 40, 0)), some (.inl (nI many)), some (.inl (nI i)), u3] [] (mm μ m h) (none, mm μ m h')) ∧ R σ' m h' ns N' G' nn' gc P' Q' PG' QG' 1000 1000 ∧ nn' ≤ nn + c ∧ σ' 1 0 11 = -1 ∧ Tr N N' P P' σ σ' h h' := by
  intro c
  induction c with
  | zero =>
    intro σ m h ns N G nn gc j i many P Q PG QG L hR hns hj hM hS hm hnn h11
    have hL : L = [] := hM
    subst hL
    have hS' : i = many := hS
    subst hS'
    refine ⟨σ, h, N, G, P, Q, PG, QG, nn, fun x2 hx d μ r u3 => ?_, fun d μ u3 => ?_, hR, by omega, h11, Tr.refl⟩
    · rw [if_neg (by omega)]; exact E8_stop _ μ r u3
    · rw [B109_60]
      simp (disch := omega) only [nI_le']
      exact ⟨fun _ => True.intro, fun e => absurd (Nat.le_refl _) e⟩
  | succ c ih =>
    intro σ m h ns N G nn gc j i many P Q PG QG L hR hns hj hM hS hm hnn h11
    obtain ⟨r1, r2, r3, r4, r5, r6, r7, r8, r9, r10, r11⟩ := id hR
    have hG100 : G ≤ 100 := r2.1
    have hjG : j < G := by omega
    have hp := r2.2.1 j hjG
    have h22 : h 60 0 22 = nI G := r10.2.2.1
    obtain ⟨tt, ht0, ht1, ht2⟩ := r10.2.2.2.2.2.1
    obtain ⟨g1, g2, g3, g4, g5⟩ := r11.1 j hjG
    have hu : ∀ k, k < j → ¬ h 79 0 k = h 79 0 j := fun k hk => nI_lt_ne (r11.2 k j hk hjG)
    have nx : σ 23 0 (PG j) = if j + 1 < G then nI (PG (j + 1)) else -1 := r2.2.2.2.2.2.2.2.2.2.2.1 j hjG
    have due : (σ 26 0 (PG j) = σ 1 0 2) ↔ h 77 0 j = h 60 0 0 := by rw [← g2, ht1, ht2]
    rw [if_pos hjG]
    rcases hM with ⟨m1, m2⟩ | ⟨L', m1, m2⟩
    · obtain ⟨σ', h', N', G', P', Q', PG', QG', nn', a1, a2, a3, a4, a5, a6⟩ := ih (j := j + 1) (i := i) hR hns (by omega) m2 hS hm (by omega) h11
      refine ⟨σ', h', N', G', P', Q', PG', QG', nn', fun x2 hx d μ r u3 => E8_skip hp (by omega) (fun e => m1 (due.mp e)) ?_, a2, a3, by omega, a5, a6⟩
      rw [nx]; exact a1 (x2 + 1) (by omega) d μ r _
    · subst m1
      obtain ⟨s1, s2, s3⟩ := hS
      by_cases hd : h 77 0 j = h 60 0 0
      · obtain ⟨σ1, b1, b2, b3⟩ : ∃ σ1, CX 1 17 1 0 [.inl (σ 25 0 (PG j))] σ none σ1 ∧ R σ1 m h ns N G nn gc P Q PG QG 1000 j ∧ ∀ a, a ≠ 16 → σ1 a = σ a := by
          rcases r5.2.2.1 j hjG (by omega) with ⟨w, -⟩ | ⟨i', w1, w2, -⟩
          · refine ⟨σ, ?_, R_gweak hR (by omega) w, fun _ _ => rfl⟩
            rw [w]; exact T_giveNo
          · refine ⟨_, ?_, R_ggive hR (by have := r1.1; omega) (by omega) hjG w1 w2, fun a ha => cs_a _ _ ha⟩
            rw [w2]; exact T_giveUp (r1.2.1 i' w1)
        have e27 : σ1 27 0 (PG j) = h 78 0 j := by rw [b3 27 (by decide)]; exact g3.symm
        have e6 : σ1 20 0 6 = m 40 0 4 := by rw [b3 20 (by decide)]; exact r10.2.2.2.2.2.2.2.2.2.2.2.2.1
        have tr0 : Tr N N P P σ σ1 h h := Tr.same rfl rfl rfl rfl (b3 15 (by decide)) (fun a ha => b3 a (by omega)) (by rw [b3 1 (by decide)]) (b3 4 (by decide))
        by_cases hle : m 40 0 4 ≤ h 78 0 j
        · have l21 := b2.2.1
          obtain ⟨σ2, t1, t2, t3⟩ := T_give21 (σ := cset (cset (cset σ1 25 0 (PG j) (-1)) 1 0 3 0) 20 0 9 (σ1 20 0 9 + 1)) (z := j) (by simpa (disch := decide) only [cs_a] using l21) hjG
          obtain ⟨h2, q1, q2, q3⟩ := T_guestGoes (m := m) (h := cset (cset h 60 0 28 0) 60 0 25 (h 60 0 25 + 1)) (G := G) (z := j) (by simp (disch := decide) only [cs_i]; exact h22) hG100 hjG
          have q2' : ∀ a, 75 ≤ a → a ≤ 79 → ∀ k, k < G - 1 → h2 a 0 k = h a 0 (shk j k) := fun a a1 a2 k hk => by
            rw [q2 a a1 a2 k hk, cs_a _ _ (by omega), cs_a _ _ (by omega)]
          have hR2 : R σ2 m h2 ns N (G - 1) nn gc P Q (fun k => PG (shk j k)) (cons1 (PG j) QG) 1000 1000 := by
            refine R_ggo b2 hjG (Or.inl rfl) (Or.inl rfl) (by omega) t2 ?_ ?_ q2' ?_ ?_
            · intro a a20 a21 a22 a23 a25 a1
              rw [t3 a a21 a22 a23, cs_a _ _ a20, cs_a _ _ a1, cs_a _ _ a25]
            · intro k hk hkz
              rw [t3 25 (by decide) (by decide) (by decide), cs_a _ _ (by decide), cs_a _ _ (by decide), cs_r, va_up_ne _ _ (fun q => hkz (r2.2.2.2.1 _ _ hk hjG q))]
            · intro a a1 a2
              rw [q3 a a1, cs_a _ _ a2, cs_a _ _ a2, cs_a _ _ a2]
            · rw [q3 60 (by omega), t3 1 (by decide) (by decide) (by decide), t3 8 (by decide) (by decide) (by decide), t3 20 (by decide) (by decide) (by decide)]
              obtain ⟨c1, c2, c3, c4, c5, c6, c7, c8, c9, c10, c11⟩ := b2.2.2.2.2.2.2.2.2.2.1
              simp (disch := decide) only [cs_a, cs_i, cs_s]
              exact ⟨c1, c2, rfl, c4, c5, c6, ⟨rfl, Or.inl rfl⟩, c8, c9, by rw [c10], c11⟩
          have t60 : h2 60 0 0 = h 60 0 0 := by rw [q3 60 (by omega)]; simp (disch := decide) only [cs_i]
          have tr1 : Tr N N P P σ1 σ2 h h2 := by
            refine Tr.same ?_ ?_ ?_ t60 ?_ (fun a ha => ?_) ?_ ?_
            · rw [q3 67 (by omega)]; simp (disch := decide) only [cs_a]
            · rw [q3 70 (by omega)]; simp (disch := decide) only [cs_a]
            · rw [q3 72 (by omega)]; simp (disch := decide) only [cs_a]
            · rw [t3 15 (by decide) (by decide) (by decide)]; simp (disch := decide) only [cs_a]
            · rw [t3 a (by omega) (by omega) (by omega)]; simp (disch := omega) only [cs_a]
            · rw [t3 1 (by decide) (by decide) (by decide)]; simp (disch := decide) only [cs_a, cs_i]
            · rw [t3 4 (by decide) (by decide) (by decide)]; simp (disch := decide) only [cs_a]
          have mc : Mch (h2 79 0) (h2 77 0) (h2 60 0 0) c j L' := by
            rw [t60]
            refine Mch.shift c j L' (fun k k1 k2 => ?_) m2
            rw [q2' 79 (by decide) (by decide) k (by omega), q2' 77 (by decide) (by decide) k (by omega)]
            unfold shk; rw [if_neg (by omega)]; exact ⟨rfl, rfl⟩
          obtain ⟨σ', h', N', G', P', Q', PG', QG', nn', a1, a2, a3, a4, a5, a6⟩ := ih (j := j) (i := i + 1) hR2 hns (by omega) mc s3 hm (by omega) (by rw [t3 1 (by decide) (by decide) (by decide)]; simp (disch := decide) only [cs_a, cs_i]; rw [b3 1 (by decide)]; exact h11)
          refine ⟨σ', h', N', G', P', Q', PG', QG', nn', fun x2 hx d μ r u3 => E8_lost hp (by omega) (due.mpr hd) b1 (by rw [e27, e6]; exact hle) t1 ?_, fun d μ u3 => D109_at h22 hG100 hjG s1 hm s2 hu (D109_lost h22 hG100 hjG hd hle q1 (a2 d μ _)), a3, by omega, a5, tr0.trans (tr1.trans a6)⟩
          have := a1 (x2 + 1) (by omega) d μ r (some (.inl (σ 23 0 (PG j))))
          rw [nx] at this ⊢
          unfold shk at this
          rw [if_neg (Nat.lt_irrefl j)] at this
          by_cases e : j + 1 < G
          · rw [if_pos e] at this ⊢; rw [if_pos (by omega)] at this; exact this
          · rw [if_neg e] at this ⊢; rw [if_neg (by omega)] at this; exact this
        · have hR2 := R_gagain (z := j) (v := h 78 0 j + 1) (R_still (v := 0) (R_g25 (v := -1) b2 hjG) (Or.inl rfl)) hjG
          simp (disch := decide) only [cs_a, cs_i] at hR2
          have k25 : cset (cset (cset (cset σ1 25 0 (PG j) (-1)) 1 0 3 0) 27 0 (PG j) (h 78 0 j + 1)) 20 0 10 (σ1 20 0 10 + 1) 25 0 (PG j) = -1 := by simp (disch := decide) only [cs_a, cs_s]
          have k11 : cset (cset (cset (cset σ1 25 0 (PG j) (-1)) 1 0 3 0) 27 0 (PG j) (h 78 0 j + 1)) 20 0 10 (σ1 20 0 10 + 1) 1 0 11 = -1 := by simp (disch := decide) only [cs_a, cs_i]; rw [b3 1 (by decide)]; exact h11
          obtain ⟨σ2, σ3, h3, N3, G3, P3, Q3, PG3, QG3, nn3, x1, x2, x3, x4, x5, x6, x7, x8⟩ := SIM_gasks hR2 (by omega) hns hjG k25 k11
          have tr1 : Tr N N P P σ1 (cset (cset (cset (cset σ1 25 0 (PG j) (-1)) 1 0 3 0) 27 0 (PG j) (h 78 0 j + 1)) 20 0 10 (σ1 20 0 10 + 1)) h (cset (cset (cset h 60 0 28 0) 78 0 j (h 78 0 j + 1)) 60 0 26 (h 60 0 26 + 1)) := by
            refine Tr.same ?_ ?_ ?_ ?_ ?_ (fun a ha => ?_) ?_ ?_
            · simp (disch := decide) only [cs_a]
            · simp (disch := decide) only [cs_a]
            · simp (disch := decide) only [cs_a]
            · simp (disch := decide) only [cs_a, cs_i]
            · simp (disch := decide) only [cs_a]
            · simp (disch := omega) only [cs_a]
            · simp (disch := decide) only [cs_a, cs_i]
            · simp (disch := decide) only [cs_a]
          have y79 : cset (cset (cset h 60 0 28 0) 78 0 j (h 78 0 j + 1)) 60 0 26 (h 60 0 26 + 1) 79 = h 79 := by simp (disch := decide) only [cs_a]
          have y77 : cset (cset (cset h 60 0 28 0) 78 0 j (h 78 0 j + 1)) 60 0 26 (h 60 0 26 + 1) 77 = h 77 := by simp (disch := decide) only [cs_a]
          have y60 : cset (cset (cset h 60 0 28 0) 78 0 j (h 78 0 j + 1)) 60 0 26 (h 60 0 26 + 1) 60 0 0 = h 60 0 0 := by simp (disch := decide) only [cs_a, cs_i]
          have t60 : h3 60 0 0 = h 60 0 0 := by rw [x7.2.2.1]; exact y60
          have x1' : CX 5 11 1 0 [.inl (nI (PG j))] (cset (cset (cset (cset σ1 25 0 (PG j) (-1)) 1 0 3 0) 27 0 (PG j) (σ1 27 0 (PG j) + 1)) 20 0 10 (σ1 20 0 10 + 1)) none σ2 := by rw [e27]; exact x1
          rcases x8 with ⟨z1, z2, z3, z4⟩ | ⟨z1, z2, z3⟩
          · subst z1; subst z2
            have mc : Mch (h3 79 0) (h3 77 0) (h3 60 0 0) c (j + 1) L' := by
              rw [t60]
              refine Mch.keep (by rw [z3, y79]) (fun k hk => ?_) c (j + 1) L' m2
              have := z4 k
              rw [y60, y77] at this
              exact this hk
            obtain ⟨σ', h', N', G', P', Q', PG', QG', nn', a1, a2, a3, a4, a5, a6⟩ := ih (j := j + 1) (i := i + 1) x4 hns (by omega) mc s3 hm (by omega) x6
            refine ⟨σ', h', N', G', P', Q', PG', QG', nn', fun x2' hx d μ r u3 => E8_ask hp (by omega) (due.mpr hd) b1 (by rw [e27, e6]; exact hle) x1' x2 ?_, fun d μ u3 => D109_at h22 hG100 hjG s1 hm s2 hu (D109_ask h22 hG100 hjG hd hle x3 (a2 d μ _)), a3, by omega, a5, tr0.trans (tr1.trans (x7.trans a6))⟩
            rw [nx]; exact a1 (x2' + 1) (by omega) d μ r _
          · subst z1; subst z2
            have mc : Mch (h3 79 0) (h3 77 0) (h3 60 0 0) c j L' := by
              rw [t60]
              refine Mch.shift c j L' (fun k k1 k2 => ?_) m2
              obtain ⟨w1, w2⟩ := z3 k (by omega)
              rw [w1, w2, y79, y77]
              unfold shk; rw [if_neg (by omega)]; exact ⟨rfl, rfl⟩
            obtain ⟨σ', h', N', G', P', Q', PG', QG', nn', a1, a2, a3, a4, a5, a6⟩ := ih (j := j) (i := i + 1) x4 hns (by omega) mc s3 hm (by omega) x6
            refine ⟨σ', h', N', G', P', Q', PG', QG', nn', fun x2' hx d μ r u3 => E8_ask hp (by omega) (due.mpr hd) b1 (by rw [e27, e6]; exact hle) x1' x2 ?_, fun d μ u3 => D109_at h22 hG100 hjG s1 hm s2 hu (D109_ask h22 hG100 hjG hd hle x3 (a2 d μ _)), a3, by omega, a5, tr0.trans (tr1.trans (x7.trans a6))⟩
            have := a1 (x2' + 1) (by omega) d μ r (some (.inl (σ 23 0 (PG j))))
            rw [nx] at this ⊢
            unfold shk at this
            rw [if_neg (Nat.lt_irrefl j)] at this
            by_cases e : j + 1 < G
            · rw [if_pos e] at this ⊢; rw [if_pos (by omega)] at this; exact this
            · rw [if_neg e] at this ⊢; rw [if_neg (by omega)] at this; exact this
      · obtain ⟨σ', h', N', G', P', Q', PG', QG', nn', a1, a2, a3, a4, a5, a6⟩ := ih (j := j + 1) (i := i + 1) hR hns (by omega) m2 s3 hm (by omega) h11
        refine ⟨σ', h', N', G', P', Q', PG', QG', nn', fun x2 hx d μ r u3 => E8_skip hp (by omega) (fun e => hd (due.mp e)) ?_, fun d μ u3 => D109_at h22 hG100 hjG s1 hm s2 hu (D109_skip h22 hG100 hjG hd (a2 d μ _)), a3, by omega, a5, a6⟩
        rw [nx]; exact a1 (x2 + 1) (by omega) d μ r _
theorem SIM_patience {σ m h : Rg} {ns N G nn gc : Nat} {P Q PG QG : Nat → Nat} (hR : R σ m h ns N G nn gc P Q PG QG 1000 1000) (hns : 0 < ns) (hnn : nn + 100 < 1073741824) (h11 : σ 1 0 11 = -1) :
    ∃ σ' m' h' N' G' P' Q' PG' QG' nn', CX 7 8 1 0 [] σ none σ' ∧ MX 9 109 [] m h none m' h' ∧ (∀ a, a ≠ 49 → m' a = m a) ∧ R σ' m' h' ns N' G' nn' gc P' Q' PG' QG' 1000 1000 ∧ nn' ≤ nn + 100 ∧ σ' 1 0 11 = -1 ∧ Tr N N' P P' σ σ' h h' := by
  have hG100 : G ≤ 100 := hR.2.1.1
  have h22 : h 60 0 22 = nI G := hR.2.2.2.2.2.2.2.2.2.1.2.2.1
  obtain ⟨m', many, L, a1, a2, a3, a4, a5, a6⟩ := D109_list h22 hG100 G 0 0 m (by omega) (by omega)
  have hR' := R_m hR (a1 41 (by decide)) (a1 42 (by decide)) (by rw [a1 40 (by decide)]) (by rw [a1 40 (by decide)]) (by rw [a1 40 (by decide)])
  obtain ⟨σ', h', N', G', P', Q', PG', QG', nn', b1, b2, b3, b4, b5, b6⟩ := SIM_pat G (j := 0) (i := 0) hR' hns (by omega) a5 a4 (by omega) (by omega) h11
  have e2 : σ 21 0 2 = if G = 0 then -1 else nI (PG 0) := hR.2.1.2.2.2.2.2.2.2.1
  refine ⟨σ', m', h', N', G', P', Q', PG', QG', nn', fun d μ r => M8 ?_, fun d μ => M109 (a6 _ μ _ _ (b2 d μ _)), a1, b3, by omega, b5, b6⟩
  have := b1 0 (by omega) d μ r none
  rw [va_up_self, e2]
  by_cases e : G = 0
  · rw [if_pos e]; rw [if_neg (by omega)] at this; exact this
  · rw [if_neg e]; rw [if_pos (by omega)] at this; exact this
