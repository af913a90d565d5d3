/-! a pending job is answered, at every service -/
theorem and31 (x : Int32) : ∃ k, k < 32 ∧ x &&& 31 = nI k := by
  refine ⟨(x &&& 31).toBitVec.toNat, ?_, ?_⟩
  · rw [Int32.toBitVec_and, BitVec.toNat_and]
    exact Nat.lt_of_le_of_lt Nat.and_le_right (by decide)
  · apply Int32.toBitVec_inj.mp
    apply BitVec.eq_of_toNat_eq
    show _ = (BitVec.ofNat 32 _).toNat
    rw [BitVec.toNat_ofNat, Nat.mod_eq_of_lt (BitVec.isLt _)]
theorem pause_ne (t x : Int32) {v : Nat} (hv : v ≤ 9) : ¬ t + 1 + (nI v <<< (x &&& 31)) = t := by
  have h : ∀ v, v < 10 → ∀ a, a < 32 → ¬ (1 : Int32) + (nI v <<< nI a) = 0 := by decide +kernel
  obtain ⟨k, hk, ek⟩ := and31 x
  rw [ek]
  intro e
  refine h v (by omega) k hk ?_
  have : t + (1 + (nI v <<< nI k)) = t + 0 := by rw [← Int32.add_assoc, e, Int32.add_zero]
  exact (Int32.add_right_inj t).mp this
theorem cF_15 {σ : Rg} {p s : Nat} : cF σ p s 15 = σ 15 := by unfold cF; split <;> simp (disch := decide) only [cs_a]
theorem cF_4 {σ : Rg} {p s : Nat} : cF σ p s 4 = σ 4 := by unfold cF; split <;> simp (disch := decide) only [cs_a]
theorem cF_28 {σ : Rg} {p s a : Nat} (h : 28 ≤ a) : cF σ p s a = σ a := by unfold cF; split <;> simp (disch := omega) only [cs_a]
theorem cF_1 {σ : Rg} {p s i : Nat} (h : i ≠ 3) : cF σ p s 1 0 i = σ 1 0 i := by unfold cF; split <;> simp (disch := first | decide | assumption) only [cs_a, cs_i]
theorem cF_17 {σ : Rg} {p s : Nat} : cF σ p s 17 0 p = -1 := by unfold cF; split <;> simp (disch := decide) only [cs_s]
theorem mF_o {m h : Rg} {k s a : Nat} (h1 : 67 ≤ a) (h2 : a ≠ 74) : mF m h k s a = h a := by unfold mF; split <;> simp (disch := omega) only [cs_a]
theorem mF_60 {m h : Rg} {k s i : Nat} (hi : i ≠ 28) : mF m h k s 60 0 i = h 60 0 i := by unfold mF; split <;> simp (disch := first | decide | assumption) only [cs_a, cs_i]
theorem Tr_fail {σ m h : Rg} {N p k s : Nat} {P : Nat → Nat} : Tr N N P P σ (cF σ p s) h (mF m h k s) := Tr.same (mF_o (by decide) (by decide)) (mF_o (by decide) (by decide)) (mF_o (by decide) (by decide)) (mF_60 (by decide)) cF_15 (fun a ha => cF_28 ha) (cF_1 (by decide)) cF_4
theorem ans_step {s : Nat} (IH : ∀ s', s = s' + 1 → AnsAt s') : AnsAt s := by
  intro σ m h ns N G nn gc z pg i P Q PG QG g hR hpg hz h68 h70 hsn hg h11 h12 hi
  obtain ⟨r1, r2, r3, r4, r5, r6, r7, r8, r9, r10, r11⟩ := id hR
  have hb := r1.2.1
  have hN120 : N ≤ 120 := r1.1
  have hG100 : G ≤ 100 := r2.1
  have hns : ns ≤ 6 := r10.1.1
  have hNN : h 60 0 15 = nI N := r10.2.1
  obtain ⟨-, ⟨s1, hs1, hs2⟩, -⟩ := r4.1 z hz
  have hss : s1 = s := nI_inj (by omega) (by omega) (hs2.symm.trans h68)
  subst hss
  have hp := hb z hz
  have huz : ∀ i, i < z → ¬ h 67 0 i = h 67 0 z := fun i hi' e => absurd (r4.uniq (by omega) hz e) (by omega)
  have e13 : σ 13 0 (P z) = nI s1 := by rw [← (r3 z hz).2.1]; exact h68
  have e19 : σ 19 0 (P z) = h 73 0 z := ((r3 z hz).2.2.2.2.2).symm
  have hR1 : R (cset σ 1 0 11 (-1)) m h ns N G nn gc P Q PG QG z pg := R_one hR (by decide)
  rcases hg with rfl | rfl
  · -- BAD
    have hRf := R_fail (s := s1) (pj' := 1000) hR1 hz hs1 (by omega)
    obtain ⟨tf1, tf0⟩ := T_fail (σ := cset σ 1 0 11 (-1)) (p := P z) (s := s1) hp (by omega) (by rw [cs_a _ _ (by decide)]; exact e13)
    obtain ⟨mf1, mf0⟩ := T_mfail (m := m) hNN hN120 hz rfl huz (by omega) h68
    have ru := (r9 s1 hs1).1
    have e1 : σ 4 s1 1 = m 41 0 (9 * s1 + 1) := ru 1 (by decide)
    rw [cs_a _ _ (by decide), cs_a _ _ (by decide), e19, e1] at tf1 tf0
    have trf : Tr N N P P σ (cF (cset σ 1 0 11 (-1)) (P z) s1) h (mF m h z s1) := Tr.trans (Tr.same rfl rfl rfl rfl (cs_a _ _ (by decide)) (fun a ha => cs_a _ _ (by omega)) (cs_i _ _ (by decide)) (cs_a _ _ (by decide))) Tr_fail
    by_cases ha : h 73 0 z < m 41 0 (9 * s1 + 1)
    · have ha' : ¬ m 41 0 (9 * s1 + 1) ≤ h 73 0 z := Int32.not_le.mpr ha
      obtain ⟨tt, ht0, ht1, ht2⟩ := r10.2.2.2.2.2.1
      have ecp : cP (cset σ 1 0 11 (-1)) (P z) s1 = mPz m h z s1 := by
        unfold cP mPz
        rw [cs_i _ _ (by decide), cs_a _ _ (by decide), cs_a _ _ (by decide), e19, ru 2 (by decide), ht1, ht2]
      obtain ⟨-, ⟨v1, hv11, hv12⟩, ⟨v2, hv21, hv22⟩, -⟩ := (r9 s1 hs1).2.2
      have hRp := R_state (u := 3) (v := mPz m h z s1) hRf hz (by rw [mF_o (by decide) (by decide)]; exact h70) (Or.inr ⟨Or.inr rfl, s1, hsn, by rw [mF_o (by decide) (by decide)]; exact h68⟩) (Or.inr cF_17)
      have tf := tf1 ha
      rw [ecp] at tf
      refine ⟨_, _, N, G, P, Q, PG, QG, ST_bad1 (by omega) hp h11 h12 tf (ST.mono (ST_stop ?_) (by decide)), (T_ansd0 (mf1 ha')).mono (by omega), R_np hRp (by omega) (by omega) hpg (by omega), ?_, trf.trans (Tr.st ?_ (by decide) hz)⟩
      · simp (disch := decide) only [cs_a, cF_1, cs_s]
      · simp (disch := decide) only [cs_a, cF_1, cs_s]
      · rw [mF_60 (by decide)]
        unfold mPz
        rw [← ru 2 (by decide), hv22]
        exact pause_ne _ _ hv21
    · have ha' : m 41 0 (9 * s1 + 1) ≤ h 73 0 z := Int32.not_lt.mp ha
      obtain ⟨σ2, σ', h', N', G', P', Q', PG', QG', a1, a2, a3, a4, a5, a6⟩ := SIM_end IH (i := i + 1) (g := 0) hRf (Or.inr ⟨by omega, cF_17⟩) hpg hz (by rw [mF_o (by decide) (by decide)]; exact h68) (by rw [mF_o (by decide) (by decide)]; exact h70) (Or.inl rfl) (by omega)
      rw [mF_o (by decide) (by decide)] at a3
      exact ⟨σ', h', N', G', P', Q', PG', QG', ST_bad0 (by omega) hp h11 h12 (tf0 ha) a1 a2, (T_ansd0 (mf0 ha' _ _ a3)).mono (by omega), a4, a5, trf.trans a6⟩
  · -- GOOD
    have hRg : R (cset (cset σ 1 0 11 (-1)) 3 s1 7 0) m (cset h 62 0 s1 0) ns N G nn gc P Q PG QG z pg := R_fails hR1
    obtain ⟨σ2, σ', h', N', G', P', Q', PG', QG', a1, a2, a3, a4, a5, a6⟩ := SIM_end IH (i := i + 1) (g := 1) hRg (Or.inl rfl) hpg hz (by rw [cs_a _ _ (by decide)]; exact h68) (by rw [cs_a _ _ (by decide)]; exact h70) (Or.inr rfl) (by omega)
    rw [cs_a _ _ (by decide)] at a3
    refine ⟨σ', h', N', G', P', Q', PG', QG', ST_good (by omega) hp (by omega) h11 h12 e13 a1 a2, (T_ansd1 hNN hN120 hz rfl huz (by omega) h68 a3).mono (by omega), a4, a5, Tr.trans (Tr.same ?_ ?_ ?_ ?_ ?_ (fun a ha => ?_) ?_ ?_) a6⟩
    · exact cs_a _ _ (by decide)
    · exact cs_a _ _ (by decide)
    · exact cs_a _ _ (by decide)
    · rw [cs_a _ _ (by decide)]
    · rw [cs_a _ _ (by decide), cs_a _ _ (by decide)]
    · rw [cs_a _ _ (by omega), cs_a _ _ (by omega)]
    · rw [cs_a _ _ (by decide), cs_i _ _ (by decide)]
    · rw [cs_a _ _ (by decide), cs_a _ _ (by decide)]
theorem ans_at (s : Nat) : AnsAt s := by
  induction s with
  | zero => exact ans_step (fun s' h => absurd h (by omega))
  | succ s ih => exact ans_step (fun s' h => by rw [show s' = s by omega]; exact ih)
theorem end_at {σ m h : Rg} {ns N G nn gc z pj pg s i : Nat} {P Q PG QG : Nat → Nat} {g : Int32} (hR : R σ m h ns N G nn gc P Q PG QG pj pg) (hpj : pj = z ∨ (N ≤ pj ∧ σ 17 0 (P z) = -1)) (hpg : G ≤ pg) (hz : z < N) (h68 : h 68 0 z = nI s) (h70 : ¬ h 70 0 z = 0) (hg : g = 0 ∨ g = 1) (hi : i + s + 1 ≤ 7) :
    ∃ σ2 σ' h' N' G' P' Q' PG' QG', CX 3 18 1 0 [.inl (nI (P z)), .inl g] σ none σ2 ∧ ST 3 i σ2 σ' ∧ MX (9 * s + 7) 97 [.inl (h 67 0 z), .inl g] m h none m h' ∧ R σ' m h' ns N' G' nn gc P' Q' PG' QG' 1000 1000 ∧ σ' 1 0 11 = -1 ∧ Tr N N' P P' σ σ' h h' := SIM_end (fun s' _ => ans_at s') hR hpj hpg hz h68 h70 hg hi
