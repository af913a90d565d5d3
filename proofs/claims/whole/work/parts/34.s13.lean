/-! a job comes, both sides -/
def CmsR (σ m h : Rg) (ns N G nn gc s q : Nat) (P Q PG QG : Nat → Nat) (X raw x4 : Int32) : Prop :=
  ∃ σ1 v h', CX 4 13 1 0 [.inl (nI s), .inl (nI q), .inl X] σ none σ1 ∧ MX (9 * s + 6) 92 [.inl (nI s), .inl (nI q), .inl raw, .inl x4] m h (some v) m h' ∧
    ((((v = -1 ∧ σ1 1 0 12 = 1) ∨ (v = -2 ∧ σ1 1 0 12 = 0)) ∧ R σ1 m h' ns N G nn gc P Q PG QG 1000 1000 ∧ σ1 1 0 11 = X ∧ Tr N N P P σ σ1 h h' ∧ (∀ a, 8 ≤ a → σ1 a = σ a) ∧ (∀ a, 64 ≤ a → h' a = h a)) ∨
     (¬ v < 0 ∧ ∃ σ' N' G' P' Q' PG' QG', ST 3 0 σ1 σ' ∧ R σ' m h' ns N' G' (nn + 1) gc P' Q' PG' QG' 1000 1000 ∧ σ' 1 0 11 = -1 ∧ Tr N N' P P' σ σ' h h' ∧ (s = 0 → G' = G ∧ PG' = PG ∧ GK h h')))
theorem SIM_comes {σ m h : Rg} {ns N G nn gc s q : Nat} {P Q PG QG : Nat → Nat} {X raw x4 : Int32} (hR : R σ m h ns N G nn gc P Q PG QG 1000 1000) (hs : s < ns) (hq : q < 8) (h11 : σ 1 0 11 = -1)
    (hnew : N < 120 → ∃ σa σ2 h1, CX 2 24 8 0 [.inl (nI s), .inl (nI q), .inl X] σ (some (nI (Q 0))) σa ∧ CX 1 14 1 0 [.inl X, .inl (nI (Q 0))] σa none σ2 ∧
      (∀ {k d : Nat} {μ : Mem} {res : Res} {b1 b3 : Int32}, EvE (M (d + (k + 1))) 92 320 [some (.inr (3, 40, 0)), some (.inl (nI s)), some (.inl (nI q)), some (.inl raw), some (.inl x4), some (.inl b1), some (.inl b3), some (.inl (nI nn)), some (.inl (nI N)), none] [] (mm μ m h1) res → EvE (M (d + (k + 1))) 92 152 [some (.inr (3, 40, 0)), some (.inl (nI s)), some (.inl (nI q)), some (.inl raw), some (.inl x4), some (.inl b1), some (.inl b3), none, none, none] [] (mm μ m h) res) ∧
      R σ2 m h1 ns (N + 1) G (nn + 1) gc (snoc P N (Q 0)) (tail1 Q) PG QG 1000 1000 ∧ (h1 67 0 N = nI nn ∧ h1 68 0 N = nI s ∧ h1 70 0 N = 0 ∧ σ2 17 0 (Q 0) = -1) ∧ (σ2 1 = σ 1 ∧ σ2 3 = σ 3 ∧ σ2 4 = σ 4 ∧ σ2 7 = σ 7) ∧ Tr N (N + 1) P (snoc P N (Q 0)) σ σ2 h h1 ∧ GK h h1) : CmsR σ m h ns N G nn gc s q P Q PG QG X raw x4 := by
  obtain ⟨r1, r2, r3, r4, r5, r6, r7, r8, r9, r10, r11⟩ := id hR
  have hns : ns ≤ 6 := r10.1.1
  have hc1 : σ 1 0 1 = nI ns := r10.1.2.1
  have hN120 : N ≤ 120 := r1.1
  have hNN : h 60 0 15 = nI N := r10.2.1
  obtain ⟨tt, ht0, ht1, ht2⟩ := r10.2.2.2.2.2.1
  have ett : σ 1 0 2 = h 60 0 0 := ht1.trans ht2.symm
  have e6 : σ 6 s q = h 64 0 (8 * s + q) := (r8 s (by omega)).2.1 q hq
  by_cases hh : σ 6 s q < σ 1 0 2
  · obtain ⟨w, w1, w2, w3, w4, w5⟩ := r6 s hs
    obtain ⟨q1, q2, q3⟩ := r9 s hs
    obtain ⟨-, -, -, -, -, -, ho, ⟨hd, hd1, hd2, hd3⟩, -, ⟨rm, rm1, rm2⟩⟩ := q3
    obtain ⟨o, ho1, ho2⟩ : ∃ o, o ≤ 1 ∧ σ 4 s 6 = nI o := by
      rcases ho with e | e
      · exact ⟨0, by decide, e⟩
      · exact ⟨1, by decide, e⟩
    have h5 := r7 s hs
    have hu := cnt_le (hpr (h 68 0) (h 70 0) (nI s)) N
    have hh' : h 64 0 (8 * s + q) < h 60 0 0 := by rw [← e6, ← ett]; exact hh
    have m7 : m 41 0 (9 * s + 7) = nI hd := by rw [← q1 7 (by decide)]; exact hd3
    have m6 : m 41 0 (9 * s + 6) = nI o := by rw [← q1 6 (by decide)]; exact ho2
    have m9 : m 42 0 s = nI rm := by rw [← q2]; exact rm2
    have pre := fun (σ' : Rg) => C13_pre (X := X) (σ' := σ') (k := 1) hs hns hc1 hq hh w2 h5 hd3 rm2 ho2 w1 (by omega) hd2 rm1 ho1
    have mpre := fun (k : Nat) (v : Int32) (h' : Rg) => D92_pre (raw := raw) (x4 := x4) (k := k) (v := v) (h' := h') (u := cnt (hpr (h 68 0) (h 70 0) (nI s)) N) (by omega : s < 6) hq hh' hNN hN120 rfl w3 m7 m9 m6 w1 (by omega) hd2 rm1 ho1
    generalize cnt (hpr (h 68 0) (h 70 0) (nI s)) N = u at pre mpre
    have refused : CX 3 13 1 0 [.inl (nI s), .inl (nI q), .inl X] σ none (cRef σ s X) → MX 2 92 [.inl (nI s), .inl (nI q), .inl raw, .inl x4] m h (some (-2)) m (mRef h s) → CmsR σ m h ns N G nn gc s q P Q PG QG X raw x4 := by
      intro a b
      refine ⟨_, _, _, a.mono (by decide), b.mono (by omega), Or.inl ⟨Or.inr ⟨rfl, by unfold cRef; simp only [cs_s]⟩, R_one (R_one (R_still (R_tal (s := s) (t := 4) hR (by omega) (by decide)) (Or.inl rfl)) (by decide)) (by decide), by unfold cRef; simp (disch := decide) only [cs_i, cs_s], Tr.same ?_ ?_ ?_ ?_ ?_ (fun a ha => ?_) ?_ ?_, fun a ha => ?_, fun a ha => ?_⟩⟩
      · unfold mRef; simp (disch := decide) only [cs_a]
      · unfold mRef; simp (disch := decide) only [cs_a]
      · unfold mRef; simp (disch := decide) only [cs_a]
      · unfold mRef; simp (disch := decide) only [cs_a, cs_i]
      · unfold cRef; simp (disch := decide) only [cs_a]
      · unfold cRef; simp (disch := omega) only [cs_a]
      · unfold cRef; simp (disch := decide) only [cs_a, cs_i]
      · unfold cRef; simp (disch := decide) only [cs_a]
      · unfold cRef; simp (disch := omega) only [cs_a]
      · unfold mRef; simp (disch := omega) only [cs_a]
    by_cases hc : (u < hd ∧ w = 0) ∨ w < rm ∨ (0 < o ∧ 0 < rm)
    · by_cases hN : N = 120
      · refine refused (pre _ (E13_full ?_ (by subst hN; exact T_jfull _ _ _ r1))) (mpre 0 _ _ (D92_no (by omega) hNN hN120 w3 m9 w1 rm1 (Or.inl hN)))
        rcases hc with c | c | c
        · rw [if_pos c]; exact Or.inl (by decide)
        · rw [if_pos c]; exact Or.inr (Or.inl (by decide))
        · rw [if_pos c]; exact Or.inr (Or.inr (by decide))
      · obtain ⟨σa, σ2, h1, b1, b2, b3, b4, ⟨b5, b6, b7, b8⟩, ⟨b9, b10, b11, b12⟩, b13, b14⟩ := hnew (by omega)
        have hno : NoRow (fun s => σ2 3 s 4) (σ2 7) ns (Q 0) := by
          rw [b12]; simp only [b10]
          exact r6.noNew r1.2.1 (r1.2.2.1 0 (by omega)) (fun k hk => r1.2.2.2.2.2.1 k 0 hk (by omega))
        obtain ⟨σ1, σ', h', N', G', P', Q', PG', QG', c1, c2, c3, c4, c5, c6, c7⟩ := SIM_new (u := u) (hd := hd) (o := o) b4 hs (by unfold snoc; rw [if_pos rfl]) b1 b2 b3 b5 b6 b7 b8 hno (by rw [b9]; exact h11) (by rw [b10]; exact w2) w1 (by rw [b11]; exact rm2) rm1 hc
        refine ⟨σ1, nI nn, h', (pre _ c1).mono (by decide), mpre _ _ _ (fun d μ => D92_in (by omega) hNN (by omega) w3 m9 w1 rm1 ?_ (c2 d μ)), Or.inr ⟨nI_pos (by have := r10.2.2.2.1.1; omega), σ', N', G', P', Q', PG', QG', c3, c4, c5, b13.trans c6, fun e => ?_⟩⟩
        · rcases hc with c | c | c
          · rw [if_pos c]; exact Or.inl (by decide)
          · exact Or.inr (Or.inl c)
          · rw [if_pos c]; exact Or.inr (Or.inr (by decide))
        · obtain ⟨x1, x2, x3, x4⟩ := c7 e
          exact ⟨x1, x2, x3.trans b14.1, fun k hk => b14.2 k (by have := x4 k; rw [b13.2.2.1] at this; exact this hk)⟩
    · have n1 : ¬ (u < hd ∧ w = 0) := fun c => hc (Or.inl c)
      have n2 : ¬ w < rm := fun c => hc (Or.inr (Or.inl c))
      have n3 : ¬ (0 < o ∧ 0 < rm) := fun c => hc (Or.inr (Or.inr c))
      refine refused (pre _ (by rw [if_neg n1, if_neg n2, if_neg n3]; exact E13_no)) (mpre 0 _ _ (D92_no (by omega) hNN hN120 w3 m9 w1 rm1 (Or.inr ⟨if_neg n1, by omega, if_neg n3⟩)))
  · refine ⟨_, _, _, (C13_hit hs hns hc1 hq hh).mono (by decide), (D92_hit (by omega) hq (by rw [← e6, ← ett]; exact hh)).mono (by omega), Or.inl ⟨Or.inl ⟨rfl, by simp only [cs_s]⟩, R_one (R_one (R_tal (s := s) (t := 0) hR (by omega) (by decide)) (by decide)) (by decide), by simp (disch := decide) only [cs_i, cs_s], Tr.same ?_ ?_ ?_ ?_ ?_ (fun a ha => ?_) ?_ ?_, fun a ha => ?_, fun a ha => ?_⟩⟩
    · simp (disch := decide) only [cs_a]
    · simp (disch := decide) only [cs_a]
    · simp (disch := decide) only [cs_a]
    · simp (disch := decide) only [cs_a]
    · simp (disch := decide) only [cs_a]
    · simp (disch := omega) only [cs_a]
    · simp (disch := decide) only [cs_a, cs_i]
    · simp (disch := decide) only [cs_a]
    · simp (disch := omega) only [cs_a]
    · simp (disch := omega) only [cs_a]
theorem comes_J {σ m h : Rg} {ns N G nn gc kk s q : Nat} {P Q PG QG : Nat → Nat} {x4 : Int32} (hR : R σ m h ns N G nn gc P Q PG QG 1000 1000) (hnn : nn + 1 < 1073741824) (hs : s < ns) (hq : q < 8) (h11 : σ 1 0 11 = -1) (hk : kk < N) (h70 : h 70 0 kk = 2) (hc : σ 17 0 (P kk) = -1) (h68 : nI s = h 68 0 kk + 1) : CmsR σ m h ns N G nn gc s q P Q PG QG (nI (P kk)) (h 67 0 kk) x4 := by
  refine SIM_comes hR hs hq h11 (fun hN => ?_)
  obtain ⟨r1, r2, r3, r4, r5, r6, r7, r8, r9, r10, r11⟩ := id hR
  obtain ⟨tt, ht0, ht1, ht2⟩ := r10.2.2.2.2.2.1
  obtain ⟨σ1, a1, a2, a3⟩ := T_jadd (nI s) (nI q) (nI (P kk)) r1 hN
  have e9 : σ 8 0 9 = nI nn := r10.2.2.2.1.2.1
  have e16 : h 60 0 16 = nI nn := r10.2.2.2.1.2.2
  rw [e9] at a1
  have hp2 : Q 0 < 120 := r1.2.2.1 0 (by omega)
  have hpk : ¬ Q 0 = P kk := fun e => r1.2.2.2.2.2.1 kk 0 hk (by omega) e.symm
  have hR1 := R_addJ hR hN hnn hs hq (by omega) hk h70 hc h68 a2 a3
  obtain ⟨nr, hnr, hn1⟩ := (r4.1 kk hk).1
  refine ⟨_, _, _, a1, T_setJ (r1.2.1 kk hk), fun {k d μ res b1 b3} H => ?_, hR1, ⟨?_, ?_, ?_, ?_⟩, ⟨?_, ?_, ?_, ?_⟩, ?_, ?_⟩
  · rw [hn1]
    rw [hn1] at H
    exact D152_J r10.2.1 hN e16 (by omega) hk hn1 (fun i hi e => by have := r4.uniq (by omega) hk (e.trans hn1.symm); omega) H
  · unfold mAdd; simp (disch := decide) only [cs_a, cs_s]
  · unfold mAdd; simp (disch := decide) only [cs_a, cs_s]
  · unfold mAdd; simp (disch := decide) only [cs_a, cs_s]
  · unfold cJadd; simp (disch := first | decide | assumption) only [cs_a, cs_i, cs_s]
  · unfold cJadd; simp (disch := decide) only [cs_a, a3]
  · unfold cJadd; simp (disch := decide) only [cs_a, a3]
  · unfold cJadd; simp (disch := decide) only [cs_a, a3]
  · unfold cJadd; simp (disch := decide) only [cs_a, a3]
  · unfold cJadd mAdd
    refine Tr.add (x := nI nn) ?_ ?_ ?_ ?_ ?_ ?_ (fun a ha => ?_) ?_ ?_
    · simp (disch := decide) only [cs_a, cs_r, a3]
    · simp (disch := decide) only [cs_a, cs_r]
    · simp (disch := decide) only [cs_a, cs_r]
    · simp (disch := decide) only [cs_a, cs_r]
    · rw [ht2]; exact fun e => nI_neg (by omega) (by decide) e.symm
    · simp (disch := decide) only [cs_a, cs_i]
    · simp (disch := omega) only [cs_a, a3]
    · simp (disch := decide) only [cs_a, a3]
    · simp (disch := decide) only [cs_a, a3]
  · unfold mAdd
    exact ⟨by simp (disch := decide) only [cs_a], fun k hk => by simp (disch := decide) only [cs_a] at hk; exact hk⟩
theorem comes_G {σ m h : Rg} {ns N G nn gc jj q : Nat} {P Q PG QG : Nat → Nat} (hR : R σ m h ns N G nn gc P Q PG QG 1000 1000) (hnn : nn + 1 < 1073741824) (hs : 0 < ns) (hq : q < 8) (h11 : σ 1 0 11 = -1) (hj : jj < G) (hc : σ 25 0 (PG jj) = -1) : CmsR σ m h ns N G nn gc 0 q P Q PG QG (nI (1000 + PG jj)) (-4) (nI jj) := by
  refine SIM_comes hR hs hq h11 (fun hN => ?_)
  obtain ⟨r1, r2, r3, r4, r5, r6, r7, r8, r9, r10, r11⟩ := id hR
  obtain ⟨tt, ht0, ht1, ht2⟩ := r10.2.2.2.2.2.1
  obtain ⟨σ1, a1, a2, a3⟩ := T_jadd (nI 0) (nI q) (nI (1000 + PG jj)) r1 hN
  have e9 : σ 8 0 9 = nI nn := r10.2.2.2.1.2.1
  have e16 : h 60 0 16 = nI nn := r10.2.2.2.1.2.2
  rw [e9] at a1
  have hp2 : Q 0 < 120 := r1.2.2.1 0 (by omega)
  have hG100 : G ≤ 100 := r2.1
  have hR1 := R_addG hR hN hnn hs hq (by omega) (by omega) hj hc a2 a3
  refine ⟨_, _, _, a1, T_setG (r2.2.1 jj hj), fun {k d μ res b1 b3} H => ?_, hR1, ⟨?_, ?_, ?_, ?_⟩, ⟨?_, ?_, ?_, ?_⟩, ?_, ?_⟩
  · exact D152_G r10.2.1 hN e16 (by decide) (by omega) H
  · unfold mAdd; simp (disch := decide) only [cs_a, cs_s]
  · unfold mAdd; simp (disch := decide) only [cs_a, cs_s]
  · unfold mAdd; simp (disch := decide) only [cs_a, cs_s]
  · unfold cJadd; simp (disch := first | decide | assumption) only [cs_a, cs_i, cs_s]
  · unfold cJadd; simp (disch := decide) only [cs_a, a3]
  · unfold cJadd; simp (disch := decide) only [cs_a, a3]
  · unfold cJadd; simp (disch := decide) only [cs_a, a3]
  · unfold cJadd; simp (disch := decide) only [cs_a, a3]
  · unfold cJadd mAdd
    refine Tr.add (x := nI nn) ?_ ?_ ?_ ?_ ?_ ?_ (fun a ha => ?_) ?_ ?_
    · simp (disch := decide) only [cs_a, cs_r, a3]
    · simp (disch := decide) only [cs_a, cs_r]
    · simp (disch := decide) only [cs_a, cs_r]
    · simp (disch := decide) only [cs_a, cs_r]
    · rw [ht2]; exact fun e => nI_neg (by omega) (by decide) e.symm
    · simp (disch := decide) only [cs_a, cs_i]
    · simp (disch := omega) only [cs_a, a3]
    · simp (disch := decide) only [cs_a, a3]
    · simp (disch := decide) only [cs_a, a3]
  · unfold mAdd
    exact ⟨by simp (disch := decide) only [cs_a], fun k hk => by simp (disch := decide) only [cs_a] at hk; exact hk⟩
