/-! guests come -/
theorem up_same {f : Nat → Int32} {i : Nat} {v : Int32} (h : f i = v) : va_up f i v = f := by
  funext j
  by_cases e : j = i
  · rw [e, va_up_self]; exact h.symm
  · rw [va_up_ne _ _ e]
theorem GF.add {a75 a77 a78 a79 n24 n26 n27 : Nat → Int32} {G gc p q : Nat} {PG : Nat → Nat} {v : Int32} (h : GF a75 a77 a78 a79 n24 n26 n27 G PG gc) (hp : ∀ k, k < G → ¬ PG k = p) (hgc : gc + 1 < 1073741824) (hq : q < 8) : GF (va_up a75 G (nI q)) (va_up a77 G v) (va_up a78 G 0) (va_up a79 G (nI (gc + 1))) (va_up n24 p (nI q)) (va_up n26 p v) (va_up n27 p 0) (G + 1) (snoc PG G p) (gc + 1) := by
  constructor
  · intro j hj
    unfold snoc
    by_cases e : j = G
    · subst e
      rw [if_pos rfl]
      simp only [va_up_self, true_and]
      exact ⟨⟨q, hq, rfl⟩, gc + 1, by omega, rfl⟩
    · have hj' : j < G := by omega
      obtain ⟨h1, h2, h3, h4, n, h5, h6⟩ := h.1 j hj'
      rw [if_neg e, va_up_ne _ _ e, va_up_ne _ _ e, va_up_ne _ _ e, va_up_ne _ _ e, va_up_ne _ _ (hp j hj'), va_up_ne _ _ (hp j hj'), va_up_ne _ _ (hp j hj')]
      exact ⟨h1, h2, h3, h4, n, by omega, h6⟩
  · intro i j hij hj
    rw [va_up_ne _ _ (show i ≠ G by omega)]
    by_cases e : j = G
    · subst e
      rw [va_up_self]
      obtain ⟨-, -, -, -, n, h5, h6⟩ := h.1 i hij
      rw [h6]
      exact nI_lt (by omega) (by omega)
    · rw [va_up_ne _ _ e]
      exact h.2 i j hij (by omega)
def cGadd (σ : Rg) (p : Nat) (q : Int32) : Rg := cset (cset (cset σ 24 0 p q) 25 0 p (-1)) 27 0 p 0
def mGadd (h : Rg) (G gc q : Nat) : Rg := cset (cset (cset (cset (cset h 60 0 23 (nI (gc + 1))) 75 0 G (nI q)) 78 0 G 0) 79 0 G (nI (gc + 1))) 60 0 22 (nI (G + 1))
theorem R_gadd {σ σt m h : Rg} {ns N G nn gc q : Nat} {P Q PG QG : Nat → Nat} {v : Int32} (hR : R σ m h ns N G nn gc P Q PG QG 1000 1000) (hG : G < 100) (hgc : gc + 1 < 1073741824) (hq : q < 8)
    (l21 : LN (σt 21 0) (σt 22 0) (σt 23 0) 100 (G + 1) (snoc PG G (QG 0)) (tail1 QG)) (f1 : ∀ b, b ≠ 21 → b ≠ 22 → b ≠ 23 → σt b = cset σ 20 0 7 (σ 20 0 7 + 1) b) : R (cset (cGadd σt (QG 0) (nI q)) 26 0 (QG 0) v) m (cset (cset (mGadd h G gc q) 76 0 G (-3)) 77 0 G v) ns N (G + 1) nn (gc + 1) P Q (snoc PG G (QG 0)) (tail1 QG) 1000 1000 := by
  obtain ⟨r1, r2, r3, r4, r5, r6, r7, r8, r9, ⟨c1, c2, c3, c4, c5, c6, c7⟩, r11⟩ := hR
  have hp : ∀ k, k < G → ¬ PG k = QG 0 := fun k hk => r2.2.2.2.2.2.1 k 0 hk (by omega)
  have hgi := l21.2.2.2.1
  have f2 : ∀ b, b ≠ 20 → b ≠ 21 → b ≠ 22 → b ≠ 23 → σt b = σ b := fun b b1 b2 b3 b4 => by rw [f1 b b2 b3 b4, cs_a _ _ b1]
  have f7 : σt 20 0 7 = nI (gc + 1) := by rw [f1 20 (by decide) (by decide) (by decide), cs_s, c5.2.1, nI_1]
  have f20 : ∀ i, i ≠ 7 → σt 20 0 i = σ 20 0 i := fun i hi => by rw [f1 20 (by decide) (by decide) (by decide), cs_i _ _ hi]
  have sn : snoc PG G (QG 0) G = QG 0 := by unfold snoc; rw [if_pos rfl]
  unfold cGadd mGadd
  refine ⟨?_, ?_, ?_, ?_, ?_, ?_, ?_, ?_, ?_, ?_, ?_⟩ <;> simp (disch := decide) only [cs_a, cs_r, cs_i, cs_s, f2, f7, f20]
  · exact r1
  · exact l21
  · exact r3
  · exact r4
  · have := (r5.gadd (p := QG 0) (by omega) hp).gset (pg := 1000) (Nat.lt_succ_self G) hgi (by omega)
    rw [sn, up_same (va_up_self _ _ _)] at this
    exact this
  · exact r6
  · exact r7
  · exact r8
  · exact r9
  · exact ⟨c1, c2, rfl, c4, ⟨hgc, rfl, rfl⟩, c6, c7⟩
  · exact r11.add hp hgc hq
theorem R_gfull {σ m h : Rg} {ns N G nn gc pj pg : Nat} {P Q PG QG : Nat → Nat} (hR : R σ m h ns N G nn gc P Q PG QG pj pg) (hgc : gc + 1 < 1073741824) : R (cset (cset (cset σ 20 0 7 (σ 20 0 7 + 1)) 20 0 9 (σ 20 0 9 + 1)) 1 0 3 0) m (cset (cset (cset h 60 0 23 (h 60 0 23 + 1)) 60 0 25 (h 60 0 25 + 1)) 60 0 28 0) ns N G nn (gc + 1) P Q PG QG pj pg := by
  obtain ⟨r1, r2, r3, r4, r5, r6, r7, r8, r9, ⟨c1, c2, c3, c4, c5, c6, c7, c8, c9, c10, c11⟩, r11⟩ := hR
  refine ⟨?_, ?_, ?_, ?_, ?_, ?_, ?_, ?_, ?_, ?_, ?_⟩ <;> simp (disch := decide) only [cs_a, cs_i, cs_s]
  · exact r1
  · exact r2
  · exact r3
  · exact r4
  · exact r5
  · exact r6
  · exact r7
  · exact r8
  · exact r9
  · refine ⟨c1, c2, c3, c4, ⟨hgc, ?_, ?_⟩, c6, ⟨rfl, Or.inl rfl⟩, c8, c9, ?_, c11⟩
    · rw [c5.2.1, nI_1]
    · rw [c5.2.2, nI_1]
    · rw [c10]
  · exact ⟨fun j hj => by
      obtain ⟨h1, h2, h3, h4, n, h5, h6⟩ := r11.1 j hj
      exact ⟨h1, h2, h3, h4, n, by omega, h6⟩, r11.2⟩
def CGn (n q : Nat) (σ σ' : Rg) : Prop := ∀ (i many : Nat), i + n = many → many ≤ 100 → ∀ (d : Nat) (μ : Mem) (r : Nat) (u4 : Option AV), EvE (M (d + 6)) 10 2 [some (.inr (r, 1, 0)), some (.inl (nI q)), some (.inl (nI many)), some (.inl (nI i)), u4] [] (va_up μ r σ) (none, va_up μ r σ')
def MGn (q : Nat) (m : Rg) : Nat → Rg → Rg → Prop
  | 0, h, h' => h' = h
  | n + 1, h, h' => ∃ h1, MX 8 103 [.inl (nI q)] m h none m h1 ∧ h1 60 0 0 = h 60 0 0 ∧ MGn q m n h1 h'
theorem T_settle0 {σ σ' : Rg} (h : ST 3 0 σ σ') : CX 4 20 1 0 [] σ none σ' := fun d μ r => M20 (h d μ r none)
theorem CGn_step {n q : Nat} {σ σ1 σ2 σ' : Rg} {p : Nat} (hp : p < 100) (hA : CX 2 0 20 0 [.inl (nI q)] (cset σ 20 0 7 (σ 20 0 7 + 1)) (some (nI p)) σ1) (hB : ∃ σ3, CX 5 11 1 0 [.inl (nI p)] σ1 none σ3 ∧ ST 3 0 σ3 σ2) (hC : CGn n q σ2 σ') : CGn (n + 1) q σ σ' := by
  intro i many hi hm d μ r u4
  obtain ⟨σ3, b1, b2⟩ := hB
  rw [B10_2]
  simp (disch := omega) only [nI_le', B10_67, va_up_self, ms_up, nI_1]
  refine ⟨fun e => absurd e (by omega), fun _ => ⟨_, _, hA.mono (by decide) d μ r, fun _ => ⟨_, b1.mono (by decide) d μ r, _, (T_settle0 b2).mono (by decide) d μ r, ?_⟩, fun e => absurd (nI_m1 (by omega)) e⟩⟩
  exact hC (i + 1) many (by omega) hm d μ r _
theorem CGn_full {n q : Nat} {σ σ' : Rg} (hA : CX 2 0 20 0 [.inl (nI q)] (cset σ 20 0 7 (σ 20 0 7 + 1)) (some (-1)) (cset σ 20 0 7 (σ 20 0 7 + 1))) (hC : CGn n q (cset (cset (cset σ 20 0 7 (σ 20 0 7 + 1)) 20 0 9 (σ 20 0 9 + 1)) 1 0 3 0) σ') : CGn (n + 1) q σ σ' := by
  intro i many hi hm d μ r u4
  rw [B10_2]
  simp (disch := omega) only [nI_le', B10_67, va_up_self, ms_up, nI_1]
  refine ⟨fun e => absurd e (by omega), fun _ => ⟨_, _, hA.mono (by decide) d μ r, fun e => absurd rfl e, fun _ => ?_⟩⟩
  simp (disch := decide) only [va_up_self, ms_up, cs_i]
  exact hC (i + 1) many (by omega) hm d μ r _
theorem T_gadd {σ : Rg} {G : Nat} {PG QG : Nat → Nat} {q : Int32} (h : LN (σ 21 0) (σ 22 0) (σ 23 0) 100 G PG QG) (hG : G < 100) : ∃ σt, CX 2 0 20 0 [.inl q] σ (some (nI (QG 0))) (cGadd σt (QG 0) q) ∧ LN (σt 21 0) (σt 22 0) (σt 23 0) 100 (G + 1) (snoc PG G (QG 0)) (tail1 QG) ∧ ∀ b, b ≠ 21 → b ≠ 22 → b ≠ 23 → σt b = σ b := by
  obtain ⟨σt, t1, t2, t3⟩ := T_take21 h hG
  have hp : QG 0 < 100 := h.2.2.1 0 (by omega)
  have v0 : vp_in (nI (QG 0)) 100 := vp_in_nI hp (by decide)
  have k0 : (nI (QG 0)).toNatClampNeg = QG 0 := nI_cl (by omega)
  refine ⟨σt, fun d μ r => M0 ⟨_, _, t1 d μ r, fun _ => ?_, fun e => absurd (nI_m1 (by omega)) e⟩, t2, t3⟩
  simp only [va_up_self, ms_up, k0, v0, true_and]
  rfl
theorem T_gfull {σ : Rg} {PG QG : Nat → Nat} {q : Int32} (h : LN (σ 21 0) (σ 22 0) (σ 23 0) 100 100 PG QG) : CX 2 0 20 0 [.inl q] σ (some (-1)) σ := fun d μ r => M0 ⟨_, _, T_full21 h d μ r, fun e => absurd rfl e, fun _ => rfl⟩
theorem T_mgc {m h h' : Rg} {G gc q : Nat} (h22 : h 60 0 22 = nI G) (hG : G < 100) (h23 : h 60 0 23 = nI gc) (hE : MX 7 102 [.inl (nI G)] m (mGadd h G gc q) none m h') : MX 8 103 [.inl (nI q)] m h none m h' := fun d μ => M103 (by
  have v0 : vp_in (nI G) 100 := vp_in_nI hG (by decide)
  have k0 : (nI G).toNatClampNeg = G := nI_cl (by omega)
  have c0 : ¬ nI G = 100 := fun e => absurd (nI_inj (b := 100) (by omega) (by decide) e) (by omega)
  have c1 : nI (G + 1) - 1 = nI G := nI_dn rfl
  simp only [Nat.reduceAdd, mm4, ms4, h22, h23, k0, v0, c0, nI_1, c1, not_false_eq_true, true_and, true_implies, not_true_eq_false, false_implies, and_true]
  exact ⟨_, hE d μ, rfl⟩)
theorem T_mgcFull {m h : Rg} {q : Int32} (h22 : h 60 0 22 = nI 100) : MX 8 103 [.inl q] m h none m (cset (cset (cset h 60 0 23 (h 60 0 23 + 1)) 60 0 25 (h 60 0 25 + 1)) 60 0 28 0) := fun d μ => M103 (by
  simp (disch := decide) only [Nat.reduceAdd, mm4, ms4, h22, cs_i, show nI 100 = 100 from rfl, not_false_eq_true, true_and, true_implies, not_true_eq_false, false_implies, and_true])
theorem SIM_gn {q : Nat} (hq : q < 8) : ∀ (n : Nat) {σ m h : Rg} {ns N G nn gc : Nat} {P Q PG QG : Nat → Nat}, R σ m h ns N G nn gc P Q PG QG 1000 1000 → 0 < ns → nn + n < 1073741824 → gc + n < 1073741824 → σ 1 0 11 = -1 →
    ∃ σ' h' N' G' P' Q' PG' QG' nn', CGn n q σ σ' ∧ MGn q m n h h' ∧ R σ' m h' ns N' G' nn' (gc + n) P' Q' PG' QG' 1000 1000 ∧ nn' ≤ nn + n ∧ σ' 1 0 11 = -1 ∧ Tr N N' P P' σ σ' h h' := by
  intro n
  induction n with
  | zero =>
    intro σ m h ns N G nn gc P Q PG QG hR hns hnn hgc h11
    refine ⟨σ, h, N, G, P, Q, PG, QG, nn, fun i many hi hm d μ r u4 => ?_, rfl, hR, by omega, h11, Tr.refl⟩
    rw [B10_2]
    simp (disch := omega) only [nI_le']
    exact ⟨fun _ => True.intro, fun e => absurd (by omega) e⟩
  | succ n ih =>
    intro σ m h ns N G nn gc P Q PG QG hR hns hnn hgc h11
    obtain ⟨r1, r2, r3, r4, r5, r6, r7, r8, r9, r10, r11⟩ := id hR
    have hG100 : G ≤ 100 := r2.1
    have h22 : h 60 0 22 = nI G := r10.2.2.1
    have h23 : h 60 0 23 = nI gc := r10.2.2.2.2.1.2.2
    by_cases hG : G < 100
    · obtain ⟨tt, ht0, ht1, ht2⟩ := r10.2.2.2.2.2.1
      obtain ⟨e5, vp, vp1, vp2, vp3⟩ := r10.2.2.2.2.2.2.2.2.2.2.2.1
      have hp : QG 0 < 100 := r2.2.2.1 0 (by omega)
      obtain ⟨σt, t1, t2, t3⟩ := T_gadd (σ := cset σ 20 0 7 (σ 20 0 7 + 1)) (q := nI q) (by simpa (disch := decide) only [cs_a] using r2) hG
      have hR1 := R_gadd (v := h 60 0 0 + m 40 0 3) hR hG (by omega) hq t2 t3
      have sn : snoc PG G (QG 0) G = QG 0 := by unfold snoc; rw [if_pos rfl]
      have e0 : mGadd h G gc q 60 0 0 = h 60 0 0 := by unfold mGadd; simp (disch := decide) only [cs_a, cs_i]
      have k1 : cGadd σt (QG 0) (nI q) 1 = σ 1 := by unfold cGadd; simp (disch := decide) only [cs_a, t3]
      have k20 : cGadd σt (QG 0) (nI q) 20 0 5 = σ 20 0 5 := by unfold cGadd; simp (disch := decide) only [cs_a, cs_i, t3]
      have k25 : cGadd σt (QG 0) (nI q) 25 0 (QG 0) = -1 := by unfold cGadd; simp (disch := decide) only [cs_a, cs_s]
      have k24 : cGadd σt (QG 0) (nI q) 24 0 (QG 0) = nI q := by unfold cGadd; simp (disch := decide) only [cs_a, cs_s]
      have k75 : mGadd h G gc q 75 0 G = nI q := by unfold mGadd; simp (disch := decide) only [cs_a, cs_s]
      have tr0 : Tr N N P P σ (cGadd σt (QG 0) (nI q)) h (mGadd h G gc q) := by
        refine Tr.same ?_ ?_ ?_ e0 ?_ (fun a ha => ?_) ?_ ?_
        · unfold mGadd; simp (disch := decide) only [cs_a]
        · unfold mGadd; simp (disch := decide) only [cs_a]
        · unfold mGadd; simp (disch := decide) only [cs_a]
        · unfold cGadd; simp (disch := decide) only [cs_a, t3]
        · unfold cGadd; simp (disch := omega) only [cs_a, t3]
        · rw [k1]
        · unfold cGadd; simp (disch := decide) only [cs_a, t3]
      rw [← e0] at hR1
      obtain ⟨σ1, σ', h', N', G', P', Q', PG', QG', nn', a1, a2, a3, a4, a5, a6, a7, -⟩ := SIM_gasks0 (jj := G) (q := q) (vp := vp) (PG := snoc PG G (QG 0)) (by rw [sn]; exact hR1) (by omega) hns (by omega) (by rw [sn]; exact k25) (by rw [k1]; exact h11) hq (by rw [sn]; exact k24) k75 (by rw [k1, k20, e0, ht1, ht2, e5]) vp1 vp2 vp3
      rw [sn] at a1
      obtain ⟨σ2, h2, N2, G2, P2, Q2, PG2, QG2, nn2, b1, b2, b3, b4, b5, b6⟩ := ih a4 hns (by omega) (by omega) a6
      refine ⟨σ2, h2, N2, G2, P2, Q2, PG2, QG2, nn2, CGn_step hp t1 ⟨σ1, a1, a2⟩ b1, ⟨h', T_mgc h22 hG h23 a3, a7.2.2.1.trans e0, b2⟩, ?_, by omega, b5, tr0.trans (a7.trans b6)⟩
      rw [show gc + (n + 1) = gc + 1 + n by omega]; exact b3
    · have hG' : G = 100 := by omega
      subst hG'
      have hR1 := R_gfull hR (by omega)
      obtain ⟨σ2, h2, N2, G2, P2, Q2, PG2, QG2, nn2, b1, b2, b3, b4, b5, b6⟩ := ih hR1 hns (by omega) (by omega) (by simp (disch := decide) only [cs_a, cs_i]; exact h11)
      refine ⟨σ2, h2, N2, G2, P2, Q2, PG2, QG2, nn2, CGn_full (T_gfull (by simpa (disch := decide) only [cs_a] using r2)) b1, ⟨_, T_mgcFull h22, by simp (disch := decide) only [cs_i], b2⟩, ?_, by omega, b5, Tr.trans (Tr.same ?_ ?_ ?_ ?_ ?_ (fun a ha => ?_) ?_ ?_) b6⟩
      · rw [show gc + (n + 1) = gc + 1 + n by omega]; exact b3
      · simp (disch := decide) only [cs_a]
      · simp (disch := decide) only [cs_a]
      · simp (disch := decide) only [cs_a]
      · simp (disch := decide) only [cs_i]
      · simp (disch := decide) only [cs_a]
      · simp (disch := omega) only [cs_a]
      · simp (disch := decide) only [cs_a, cs_i]
      · simp (disch := decide) only [cs_a]
