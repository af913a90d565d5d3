/-! a job comes: the new one works, waits, or pushes the first of the row out -/
theorem Tr.add {σ σ' h h' : Rg} {N p : Nat} {P : Nat → Nat} {x : Int32} (e15 : σ' 15 0 = va_up (σ 15 0) p 0) (e67 : h' 67 0 = va_up (h 67 0) N x) (e70 : h' 70 0 = va_up (h 70 0) N 0) (e72 : h' 72 0 = va_up (h 72 0) N (-4)) (ht : ¬ (-4 : Int32) = h 60 0 0) (e60 : h' 60 0 0 = h 60 0 0) (e28 : ∀ a, 28 ≤ a → σ' a = σ a) (e10 : σ' 1 0 10 = σ 1 0 10) (e4 : σ' 4 = σ 4) : Tr N (N + 1) P (snoc P N p) σ σ' h h' := by
  refine ⟨fun k hk e => ?_, fun p' hp => ?_, e60, e28, e10, e4⟩
  · rw [e72] at e
    by_cases ek : k = N
    · rw [ek, va_up_self] at e; exact absurd e ht
    · rw [va_up_ne _ _ ek] at e
      rw [e67, e70, va_up_ne _ _ ek, va_up_ne _ _ ek]
      exact ⟨k, by omega, by unfold snoc; rw [if_neg ek], rfl, rfl, e⟩
  · rw [e15]
    rcases hp with ⟨k, k1, k2⟩ | hp
    · exact Or.inl ⟨k, by omega, by unfold snoc; rw [if_neg (by omega)]; exact k2⟩
    · by_cases ep : p' = p
      · exact Or.inl ⟨N, by omega, by unfold snoc; rw [if_pos rfl]; exact ep.symm⟩
      · rw [va_up_ne _ _ ep]; exact Or.inr hp
theorem add_ne (t : Int32) {v : Nat} (h1 : 1 ≤ v) (h2 : v ≤ 60) : ¬ t + nI v = t := by
  intro e
  have : t + nI v = t + 0 := by rw [e, Int32.add_zero]
  have := (Int32.add_right_inj t).mp this
  have := nI_inj (b := 0) (by omega) (by decide) this
  omega
theorem Tr.begin {σ m h : Rg} {N z s ns G nn gc pj pg : Nat} {P Q PG QG : Nat → Nat} (hR : R σ m h ns N G nn gc P Q PG QG pj pg) (hz : z < N) (hs : s < ns) : Tr N N P P σ (cBegin σ (P z) s) h (mBegin m h z s) := by
  obtain ⟨r1, r2, r3, r4, r5, r6, r7, r8, r9, r10, r11⟩ := hR
  obtain ⟨tt, ht0, ht1, ht2⟩ := r10.2.2.2.2.2.1
  obtain ⟨q1, q2, q3⟩ := r9 s hs
  obtain ⟨v, v1, v2, v3⟩ := q3.2.2.2.2.2.2.2.2.1
  have e8 : σ 1 0 2 + σ 4 s 8 = h 60 0 0 + m 41 0 (9 * s + 8) := by rw [ht1, ht2, q1 8 (by decide)]
  unfold cBegin mBegin
  rw [e8]
  have e9 : ¬ h 60 0 0 + m 41 0 (9 * s + 8) = h 60 0 0 := by
    rw [← q1 8 (by decide), v3]; exact add_ne _ v1 (by omega)
  have a1 : Tr N N P P σ (cset (cset σ 3 s 5 (σ 3 s 5 + 1)) 5 s 1 (σ 5 s 1 + 1)) h h := Tr.same rfl rfl rfl rfl (by simp (disch := decide) only [cs_a]) (fun a ha => by simp (disch := omega) only [cs_a]) (by simp (disch := decide) only [cs_a]) (by simp (disch := decide) only [cs_a])
  refine a1.trans ((Tr.st (u := 1) e9 (by decide) hz).trans ?_)
  refine Tr.same ?_ ?_ ?_ ?_ rfl (fun _ _ => rfl) rfl rfl <;> simp (disch := decide) only [cs_a]
theorem NoRow.deq {w4 : Nat → Int32} {n7 : Nat → Nat → Int32} {ns p s w : Nat} (h : NoRow w4 n7 ns p) (hs : s < ns) (hw : w4 s = nI w) (hw0 : 0 < w) (hw20 : w ≤ 20) : NoRow (va_up w4 s (nI (w - 1))) (va_up n7 s (va_cpy (n7 s) (n7 s) 1 0 (w - 1))) ns p := by
  intro s' hs' w' hw' hw20' i hi' eq
  by_cases e : s' = s
  · subst e
    rw [va_up_self] at hw' eq
    have : w - 1 = w' := nI_inj (by omega) (by omega) hw'
    subst this
    rw [pk_cpy_in (by omega) (by omega), show 1 + (i - 0) = i + 1 by omega] at eq
    exact h s' hs' w hw hw20 (i + 1) (by omega) eq
  · rw [va_up_ne _ _ e] at hw' eq
    exact h s' hs' w' hw' hw20' i hi' eq
theorem NoRow.enq {w4 : Nat → Int32} {n7 : Nat → Nat → Int32} {ns p p2 s w : Nat} (h : NoRow w4 n7 ns p) (hs : s < ns) (hw : w4 s = nI w) (hw20 : w < 20) (hp : p < 120) (hp2 : p2 < 120) (hne : ¬ p2 = p) : NoRow (va_up w4 s (nI (w + 1))) (va_up n7 s (va_up (n7 s) w (nI p2))) ns p := by
  intro s' hs' w' hw' hw20' i hi' eq
  by_cases e : s' = s
  · subst e
    rw [va_up_self] at hw' eq
    have : w + 1 = w' := nI_inj (by omega) (by omega) hw'
    subst this
    by_cases ei : i = w
    · rw [ei, va_up_self] at eq
      exact hne (nI_inj (by omega) (by omega) eq)
    · rw [va_up_ne _ _ ei] at eq
      exact h s' hs' w hw (by omega) i (by omega) eq
  · rw [va_up_ne _ _ e] at hw' eq
    exact h s' hs' w' hw' hw20' i hi' eq
theorem SIM_new {σ σa σ2 m h h1 : Rg} {ns N G nn gc s q p w u hd rm o : Nat} {P1 Q1 PG QG : Nat → Nat} {X raw x4 : Int32} (hR1 : R σ2 m h1 ns (N + 1) G (nn + 1) gc P1 Q1 PG QG 1000 1000) (hs : s < ns) (hP : P1 N = p)
    (hA : CX 2 24 8 0 [.inl (nI s), .inl (nI q), .inl X] σ (some (nI p)) σa) (hS : CX 1 14 1 0 [.inl X, .inl (nI p)] σa none σ2)
    (hM : ∀ {k d : Nat} {μ : Mem} {res : Res} {b1 b3 : Int32}, EvE (M (d + (k + 1))) 92 320 [some (.inr (3, 40, 0)), some (.inl (nI s)), some (.inl (nI q)), some (.inl raw), some (.inl x4), some (.inl b1), some (.inl b3), some (.inl (nI nn)), some (.inl (nI N)), none] [] (mm μ m h1) res → EvE (M (d + (k + 1))) 92 152 [some (.inr (3, 40, 0)), some (.inl (nI s)), some (.inl (nI q)), some (.inl raw), some (.inl x4), some (.inl b1), some (.inl b3), none, none, none] [] (mm μ m h) res)
    (e67 : h1 67 0 N = nI nn) (e68 : h1 68 0 N = nI s) (e70 : h1 70 0 N = 0) (e17 : σ2 17 0 p = -1) (hno : NoRow (fun s => σ2 3 s 4) (σ2 7) ns p) (h11 : σ2 1 0 11 = -1) (h4 : σ2 3 s 4 = nI w) (hw : w ≤ 20) (h9 : σ2 4 s 9 = nI rm) (hrm : rm ≤ 20) (hc : (u < hd ∧ w = 0) ∨ w < rm ∨ (0 < o ∧ 0 < rm)) :
    ∃ σ1 σ' h' N' G' P' Q' PG' QG', (∀ d μ r, EvE (M (d + (1 + 1))) 13 125 [some (.inr (r, 1, 0)), some (.inl (nI s)), some (.inl (nI q)), some (.inl X), some (.inr (r, 3, s)), some (.inl (if u < hd ∧ w = 0 then 1 else 0)), some (.inl (if w < rm then 1 else 0)), none, none, none] [.inl (if 0 < o ∧ 0 < rm then 1 else 0)] (va_up μ r σ) (none, va_up μ r σ1)) ∧
      (∀ d μ, EvE (M (d + (9 * s + 4 + 1))) 92 152 [some (.inr (3, 40, 0)), some (.inl (nI s)), some (.inl (nI q)), some (.inl raw), some (.inl x4), some (.inl (if u < hd ∧ w = 0 then 1 else 0)), some (.inl (if 0 < o ∧ 0 < rm then 1 else 0)), none, none, none] [] (mm μ m h) (some (nI nn), mm μ m h')) ∧
      ST 3 0 σ1 σ' ∧ R σ' m h' ns N' G' (nn + 1) gc P' Q' PG' QG' 1000 1000 ∧ σ' 1 0 11 = -1 ∧ Tr (N + 1) N' P1 P' σ2 σ' h1 h' ∧ (s = 0 → G' = G ∧ PG' = PG ∧ GK h1 h') := by
  obtain ⟨r1, r2, r3, r4, r5, r6, r7, r8, r9, r10, r11⟩ := id hR1
  have hns : ns ≤ 6 := r10.1.1
  have hb := r1.2.1
  have hinj := r1.2.2.2.1
  have hN120 : N + 1 ≤ 120 := r1.1
  have hp : p < 120 := by rw [← hP]; exact hb N (by omega)
  have hNN : h1 60 0 15 = nI (N + 1) := r10.2.1
  have hu : ∀ i, i < N → ¬ h1 67 0 i = nI nn := fun i hi e => by
    have := r4.uniq (i := i) (j := N) (by omega) (by omega) (e.trans e67.symm); omega
  have h13 : σ2 13 0 p = nI s := by rw [← hP, ← (r3 N (by omega)).2.1]; exact e68
  obtain ⟨w', w1, w2, w3, w4, w5⟩ := r6 s hs
  have : w = w' := nI_inj (by omega) (by omega) (h4.symm.trans w2)
  subst this
  have h42 : m 42 0 s = nI rm := by rw [← (r9 s hs).2.1]; exact h9
  by_cases cA : u < hd ∧ w = 0
  · rw [if_pos cA]
    have hno' : NoRow (fun s => σ2 3 s 4) (σ2 7) ns (P1 N) := by rw [hP]; exact hno
    have hR2 := R_begin hR1 (by omega : N < N + 1) e70 e68 hs hno' (by rw [hP]; exact e17)
    have tr := Tr.begin hR1 (by omega : N < N + 1) hs
    rw [hP] at hR2 tr
    refine ⟨_, _, _, _, _, _, _, _, _, E13_work (by decide) hp hA hS (T_begin hp (by omega) h13), fun d μ => hM (D320_work (by decide) (T_mbegin hNN hN120 (by omega) e67 hu (by omega) e68) (9 * s + 3) d μ), ST.mono (ST_stop ?_) (by decide), hR2, ?_, tr, fun _ => ⟨rfl, rfl, ?_, ?_⟩⟩
    · unfold cBegin; simp (disch := decide) only [cs_a]; exact h11
    · unfold cBegin; simp (disch := decide) only [cs_a]; exact h11
    · unfold mBegin; simp (disch := decide) only [cs_a]
    · unfold mBegin; simp (disch := decide) only [cs_a]; exact fun _ h => h
  · rw [if_neg cA]
    by_cases cB : w < rm
    · rw [if_pos cB]
      have hno' : NoRow (fun s => σ2 3 s 4) (σ2 7) ns (P1 N) := by rw [hP]; exact hno
      have hR2 := R_enq hR1 (by omega : N < N + 1) e70 e68 hs h4 (by omega) hno'
      rw [hP, e67] at hR2
      refine ⟨_, _, _, _, _, _, _, _, _, E13_wait rfl (by decide) hp hA hS (T_addLast h4 (by omega)), fun d μ => hM (D320_wait (by omega) rfl w3 h42 cB hrm μ), ST.mono (ST_stop ?_) (by decide), hR2, ?_, Tr.same ?_ ?_ ?_ ?_ ?_ (fun a ha => ?_) ?_ ?_, fun _ => ⟨rfl, rfl, ?_, ?_⟩⟩
      · simp (disch := decide) only [cs_a]; exact h11
      · simp (disch := decide) only [cs_a]; exact h11
      · simp (disch := decide) only [cs_a]
      · simp (disch := decide) only [cs_a]
      · simp (disch := decide) only [cs_a]
      · simp (disch := decide) only [cs_a]
      · simp (disch := decide) only [cs_a]
      · simp (disch := omega) only [cs_a]
      · simp (disch := decide) only [cs_a]
      · simp (disch := decide) only [cs_a]
      · simp (disch := decide) only [cs_a]
      · simp (disch := decide) only [cs_a]; exact fun _ h => h
    · rw [if_neg cB]
      have cC : 0 < o ∧ 0 < rm := by
        rcases hc with c | c | c
        · exact absurd c cA
        · exact absurd c cB
        · exact c
      rw [if_pos cC]
      have hw0 : 0 < w := by omega
      obtain ⟨k0, k1, k2, k3, k4, k5⟩ := w4 0 hw0
      have hk0 : ¬ k0 = N := by
        rintro rfl
        rw [hP] at k2
        exact hno s hs w h4 hw 0 hw0 k2
      obtain ⟨⟨n0, hn0, hn1⟩, -⟩ := r4.1 k0 k1
      have hnn : nn + 1 < 1073741824 := r10.2.2.2.1.1
      have hpk : ¬ p = P1 k0 := fun e => hk0 (hinj _ _ k1 (by omega) (by rw [hP]; exact e.symm))
      obtain ⟨hL, l1, l2, l3, l4⟩ := T_leaveRow (m := m) (h := h1) (by omega : s < 6) w3 hw0 hw
      have hR3 := R_deq hR1 hs h4 hw0 hw l2 l3 l4
      have no3 := hno.deq hs h4 hw0 hw
      have no0 := r6.deq_no hs h4 hw0 hw k1 hinj hb hns k2 k5
      have lL : ∀ a, a ≠ 65 → a ≠ 66 → hL a = h1 a := fun a a1 a2 => by rw [l4 a a1, cs_a _ _ a2]
      have hT : CX 1 41 3 s [] σ2 (some (nI (P1 k0))) (crow (cset σ2 3 s 4 (nI (w - 1))) 7 s (va_cpy (σ2 7 s) (σ2 7 s) 1 0 (w - 1))) := by rw [← k2]; exact T_takeFirst h4 hw0 hw
      have q4 : crow (cset σ2 3 s 4 (nI (w - 1))) 7 s (va_cpy (σ2 7 s) (σ2 7 s) 1 0 (w - 1)) 3 s 4 = nI (w - 1) := by simp (disch := decide) only [cr_a, cs_s]
      have c7 : (fun s_1 => crow (cset σ2 3 s 4 (nI (w - 1))) 7 s (va_cpy (σ2 7 s) (σ2 7 s) 1 0 (w - 1)) 3 s_1 4) = va_up (fun s => σ2 3 s 4) s (nI (w - 1)) := by simp (disch := decide) only [cr_a, cs_col]
      have c8 : crow (cset σ2 3 s 4 (nI (w - 1))) 7 s (va_cpy (σ2 7 s) (σ2 7 s) 1 0 (w - 1)) 7 = va_up (σ2 7) s (va_cpy (σ2 7 s) (σ2 7 s) 1 0 (w - 1)) := by simp (disch := decide) only [cr_f, cs_a]
      have f3 : ∀ a, a ≠ 3 → a ≠ 7 → crow (cset σ2 3 s 4 (nI (w - 1))) 7 s (va_cpy (σ2 7 s) (σ2 7 s) 1 0 (w - 1)) a = σ2 a := fun a a1 a2 => by rw [cr_a _ _ a2, cs_a _ _ a1]
      generalize crow (cset σ2 3 s 4 (nI (w - 1))) 7 s (va_cpy (σ2 7 s) (σ2 7 s) 1 0 (w - 1)) = σ3 at hR3 hT q4 c7 c8 f3
      have hR4 := R_enq (z := N) (s := s) hR3 (by omega) (by rw [lL 70 (by decide) (by decide)]; exact e70) (by rw [lL 68 (by decide) (by decide)]; exact e68) hs q4 (by omega) (by rw [c7, c8, hP]; exact no3)
      rw [hP, lL 67 (by decide) (by decide), e67] at hR4
      have no4 : NoRow (fun s_1 => cset (cset σ3 7 s (w - 1) (nI p)) 3 s 4 (nI (w - 1 + 1)) 3 s_1 4) (cset (cset σ3 7 s (w - 1) (nI p)) 3 s 4 (nI (w - 1 + 1)) 7) ns (P1 k0) := by
        rw [cs_col, cs_a _ _ (by decide : 7 ≠ 3), cs_a _ _ (by decide : 3 ≠ 7), cs_f]
        exact NoRow.enq (by rw [c7, c8]; exact no0) hs q4 (by omega) (hb _ k1) hp hpk
      have hB := T_addLast (v := nI p) q4 (by omega)
      have f4 : ∀ a, a ≠ 3 → a ≠ 7 → cset (cset σ3 7 s (w - 1) (nI p)) 3 s 4 (nI (w - 1 + 1)) a = σ2 a := fun a a1 a2 => by rw [cs_a _ _ a1, cs_a _ _ a2, f3 a a1 a2]
      generalize cset (cset σ3 7 s (w - 1) (nI p)) 3 s 4 (nI (w - 1 + 1)) = σ4 at hR4 no4 hB f4
      have h4d : ∀ a, a ≠ 65 → a ≠ 66 → cset (cset hL 65 0 (20 * s + (w - 1)) (nI nn)) 66 0 s (nI (w - 1 + 1)) a = h1 a := fun a a1 a2 => by rw [cs_a _ _ a2, cs_a _ _ a1, lL a a1 a2]
      have hLs : hL 66 0 s = nI (w - 1) := by rw [l4 66 (by decide), cs_s]
      have PS := fun (h2 : Rg) (H : MX (9 * s + 4 + 1) 93 [.inl (nI n0)] m (cset (cset hL 65 0 (20 * s + (w - 1)) (nI nn)) 66 0 s (nI (w - 1 + 1))) none m h2) (d : Nat) (μ : Mem) => D320_push (q := q) (raw := raw) (x4 := x4) (x8 := nI N) (b1 := 0) (b3 := 1) (by omega : s < 6) rfl w3 h42 (by omega) hw (by omega) (by rw [← hn1, ← k3]; rfl) l1 hLs hw0 H d μ
      generalize cset (cset hL 65 0 (20 * s + (w - 1)) (nI nn)) 66 0 s (nI (w - 1 + 1)) = h4' at hR4 h4d PS
      have hR5 : R (cRef σ4 s (σ4 16 0 (P1 k0))) m (mRef h4' s) ns (N + 1) G (nn + 1) gc P1 Q1 PG QG 1000 1000 := R_one (R_one (R_still (R_tal (s := s) (t := 4) hR4 (by omega) (by decide)) (Or.inl rfl)) (by decide)) (by decide)
      have cR : ∀ a, a ≠ 5 → a ≠ 1 → cRef σ4 s (σ4 16 0 (P1 k0)) a = σ4 a := fun a a1 a2 => by unfold cRef; simp (disch := assumption) only [cs_a]
      have mR : ∀ a, a ≠ 63 → a ≠ 60 → mRef h4' s a = h4' a := fun a a1 a2 => by unfold mRef; simp (disch := assumption) only [cs_a]
      obtain ⟨σ5, h3, v, σ', h', N', G', P', Q', PG', QG', g1, g2, g3, g4, g5, g6, g7, g8⟩ := SIM_ref (z := k0) (s := s) hR5 k1 (by rw [mR 68 (by decide) (by decide), h4d 68 (by decide) (by decide)]; exact k5) (by rw [mR 70 (by decide) (by decide), h4d 70 (by decide) (by decide)]; exact k4) (by rw [cR 7 (by decide) (by decide)]; simp only [cR 3 (by decide) (by decide)]; exact no4) (by rw [cR 16 (by decide) (by decide)]; unfold cRef; simp (disch := decide) only [cs_i, cs_s]) (by unfold cRef; simp (disch := decide) only [cs_s]) (by omega)
      rw [mR 67 (by decide) (by decide), h4d 67 (by decide) (by decide), hn1] at g3 g4
      rw [mR 71 (by decide) (by decide)] at g4
      have g9 := T_mref (N := N + 1) (z := k0) (k := 9 * s + 2) (h := h4') (by rw [h4d 60 (by decide) (by decide)]; exact hNN) hN120 k1 (by rw [h4d 67 (by decide) (by decide)]; exact hn1) (fun i hi e => by rw [h4d 67 (by decide) (by decide), ← hn1] at e; have := r4.uniq (by omega) k1 e; omega) (by omega : s < 6) (by rw [h4d 68 (by decide) (by decide)]; exact k5) g3 g4
      refine ⟨σ5, σ', h', N', G', P', Q', PG', QG', E13_push rfl rfl (by decide) hp (hb _ k1) hA hS hT hB g1, fun d μ => hM (PS h' g9 d μ), g2, g5, g6, Tr.trans (Tr.same ?_ ?_ ?_ ?_ ?_ (fun a ha => ?_) ?_ ?_) g7, fun e => ?_⟩
      · rw [mR 67 (by decide) (by decide), h4d 67 (by decide) (by decide)]
      · rw [mR 70 (by decide) (by decide), h4d 70 (by decide) (by decide)]
      · rw [mR 72 (by decide) (by decide), h4d 72 (by decide) (by decide)]
      · unfold mRef; simp (disch := decide) only [cs_a, cs_i]; rw [h4d 60 (by decide) (by decide)]
      · rw [cR 15 (by decide) (by decide), f4 15 (by decide) (by decide)]
      · rw [cR a (by omega) (by omega), f4 a (by omega) (by omega)]
      · unfold cRef; simp (disch := decide) only [cs_a, cs_i]; rw [f4 1 (by decide) (by decide)]
      · rw [cR 4 (by decide) (by decide), f4 4 (by decide) (by decide)]
      · obtain ⟨x1, x2, x3, x4⟩ := g8 e
        refine ⟨x1, x2, ?_, fun k hk => ?_⟩
        · rw [x3, mR 79 (by decide) (by decide), h4d 79 (by decide) (by decide)]
        · have e60 : mRef h4' s 60 0 0 = h1 60 0 0 := by unfold mRef; simp (disch := decide) only [cs_a, cs_i]; rw [h4d 60 (by decide) (by decide)]
          have := x4 k
          rw [e60, mR 77 (by decide) (by decide), h4d 77 (by decide) (by decide)] at this
          exact this hk
