/-! best: one pair of rules -/
def MqR (s : Nat) (m m' : Rg) : Prop := (∀ x, x ≠ 40 → x ≠ 41 → x ≠ 48 → x ≠ 49 → m' x = m x) ∧ (∀ i, i ≠ 14 → i ≠ 15 → i ≠ 16 → i ≠ 19 → i ≠ 21 → m' 40 0 i = m 40 0 i) ∧ m' 40 0 14 = 0 ∧ ∀ o i, o ≠ 0 ∨ (i ≠ 9 * s + 1 ∧ i ≠ 9 * s + 2) → m' 41 o i = m 41 o i
def m2r (m : Rg) (s a p : Nat) : Rg := cset (cset m 41 0 (9 * s + 1) (nI a)) 41 0 (9 * s + 2) (nI p)
theorem m2r_o (m : Rg) (s a p x : Nat) (hx : x ≠ 41) : m2r m s a p x = m x := by
  unfold m2r; rw [cs_a _ _ hx, cs_a _ _ hx]
theorem m2r_41 {m m' : Rg} {s : Nat} (h : ∀ o i, o ≠ 0 ∨ (i ≠ 9 * s + 1 ∧ i ≠ 9 * s + 2) → m' 41 o i = m 41 o i) (a p : Nat) : m2r m' s a p 41 = m2r m s a p 41 := by
  unfold m2r
  funext o i
  by_cases e : o = 0
  · subst e
    simp only [cs_r, up_app]
    by_cases e2 : i = 9 * s + 2
    · rw [if_pos e2, if_pos e2]
    · rw [if_neg e2, if_neg e2]
      by_cases e1 : i = 9 * s + 1
      · rw [if_pos e1, if_pos e1]
      · rw [if_neg e1, if_neg e1]; exact h 0 i (Or.inr ⟨e1, e2⟩)
  · rw [cs_o _ _ e, cs_o _ _ e, cs_o _ _ e, cs_o _ _ e]; exact congrFun (by funext j; exact h o j (Or.inl e)) i
theorem m2r_ne (m : Rg) (s a p o i : Nat) (h : o ≠ 0 ∨ (i ≠ 9 * s + 1 ∧ i ≠ 9 * s + 2)) : m2r m s a p 41 o i = m 41 o i := by
  unfold m2r
  rcases h with e | ⟨e1, e2⟩
  · rw [cs_o _ _ e, cs_o _ _ e]
  · rw [cs_i _ _ e2, cs_i _ _ e1]
theorem MqR.next {s a p : Nat} {m0 m m' : Rg} (h : MqR s m0 m) (q : MqT (m2r m s a p) m') : MqR s m0 m' := by
  obtain ⟨q1, q2, q3, q4⟩ := h
  obtain ⟨p1, p2, p3⟩ := q
  refine ⟨fun x z1 z2 z3 z4 => by rw [p1 x z1 z3 z4, m2r_o _ _ _ _ _ z2]; exact q1 x z1 z2 z3 z4, fun i z1 z2 z3 z4 z5 => by rw [p2 i z1 z2 z3 z4 z5, m2r_o _ _ _ _ _ (by decide)]; exact q2 i z1 z2 z3 z4 z5, p3, fun o i ho => by rw [p1 41 (by decide) (by decide) (by decide), m2r_ne _ _ _ _ _ _ ho]; exact q4 o i ho⟩
abbrev L62 (s q c n : Nat) (f L a p : Int32) (u9 u10 : Option AV) : Lc := [some (.inr (0, 0, 0)), some (.inl (nI s)), some (.inl (nI q)), some (.inl (nI c)), some (.inl (nI n)), some (.inl f), some (.inl L), some (.inl a), some (.inl p), u9, u10]
abbrev L125 (s q c n : Nat) (x5 x6 f L a p : Int32) (u11 : Option AV) : Lc := [some (.inr (3, 40, 0)), some (.inl (nI s)), some (.inl (nI q)), some (.inl (nI c)), some (.inl (nI n)), some (.inl x5), some (.inl x6), some (.inl f), some (.inl L), some (.inl a), some (.inl p), u11]
def FO (f : Int32) : Prop := f = -4 ∨ ∃ r, r ≤ 33 ∧ f = nI r
theorem best_step {τ m0 h0 : Rg} {ns N G nn gc t pd q n s c : Nat} {P Q PG QG : Nat → Nat} {x5 x6 : Int32} (hR : R τ m0 h0 ns N G nn gc P Q PG QG 1000 1000) (hs : s < ns) (ht0 : h0 60 0 0 = nI t) (ht : t ≤ 100000) (hnn : nn ≤ 1700 * t) (hgc : gc ≤ 1700 * t) (hU : US τ m0 pd) (hq : q < 8) (hc : c ≤ 30) (hn : n ≤ 400) {a p : Nat} (ha : a ≤ 3) (hp : p ≤ 3) {σ m h k5 : Rg} {f L : Int32} (s11 : σ 1 0 11 = -1) (hE : HE h0 h N G) (hM : MqR s m0 m) (hf : FO f) :
    ∃ σ' m' h' k' f' L' w9 w10 w11, σ' 1 0 11 = -1 ∧ HE h0 h' N G ∧ MqR s m0 m' ∧ FO f' ∧
      (∀ (d : Nat) (μ : Mem) (u9 u10 : Option AV) (res : Res), μ 1 = τ → EvE (M (d + 10)) 62 54 (L62 s q c n f' L' (nI a) (nI (p + 1)) (some (.inl w9)) (some (.inl w10))) [] (va_up μ 2 σ') res → EvE (M (d + 10)) 62 54 (L62 s q c n f L (nI a) (nI p) u9 u10) [] (va_up μ 2 σ) res) ∧
      (∀ (d : Nat) (μ : Mem) (u11 : Option AV) (res : Res), EvE (M (d + 64)) 125 75 (L125 s q c n x5 x6 f' L' (nI a) (nI (p + 1)) (some (.inl w11))) [] (mm (va_up μ 5 k') m' h') res → EvE (M (d + 64)) 125 75 (L125 s q c n x5 x6 f L (nI a) (nI p) u11) [] (mm (va_up μ 5 k5) m h) res) := by
  obtain ⟨⟨hns, -, -⟩, h15, h22, c4, c5, c6, ⟨c7, h28⟩, c8, c9, c10, c11, c12, c13⟩ := hR.2.2.2.2.2.2.2.2.2.1
  have ht1 : τ 1 0 2 = nI t := by
    obtain ⟨tt, _, t1, t2⟩ := c6
    rw [t1, ← t2]; exact ht0
  obtain ⟨σ1, y1, y2, y3, y4⟩ := T_beginT (τ := τ) (σ := σ) (t := t) (q := q) (c := c) (by rw [c7]; exact h28) ht1 hq hc
  obtain ⟨σ2, e2⟩ : ∃ σ2, σ2 = cset (cset σ1 4 s 1 (nI a)) 4 s 2 (nI p) := ⟨_, rfl⟩
  have so : ∀ x, x ≠ 4 → σ2 x = σ1 x := fun x hx => by rw [e2, cs_a _ _ hx, cs_a _ _ hx]
  have hR1 : R σ2 (m2r m0 s a p) h ns N G nn gc P Q PG QG 1000 1000 := by
    rw [e2]
    exact R_rule (R_rule (R_cp (R_he hR hE) y2) hs (j := 1) (by decide) (Nat.zero_le _) (show a ≤ 4 by omega)) hs (j := 2) (by decide) (Nat.zero_le _) (show p ≤ 9 by omega)
  have mo : ∀ x, x ≠ 40 → x ≠ 41 → x ≠ 48 → x ≠ 49 → m2r m s a p x = m2r m0 s a p x := fun x z1 z2 z3 z4 => by rw [m2r_o _ _ _ _ _ z2, m2r_o _ _ _ _ _ z2]; exact hM.1 x z1 z2 z3 z4
  have mi : ∀ i, i ≠ 14 → i ≠ 15 → i ≠ 16 → i ≠ 19 → i ≠ 21 → m2r m s a p 40 0 i = m0 40 0 i := fun i z1 z2 z3 z4 z5 => by rw [m2r_o _ _ _ _ _ (by decide)]; exact hM.2.1 i z1 z2 z3 z4 z5
  have mj : ∀ i, m2r m0 s a p 40 0 i = m0 40 0 i := fun i => by rw [m2r_o _ _ _ _ _ (by decide)]
  have hR2 : R σ2 (m2r m s a p) h ns N G nn gc P Q PG QG 1000 1000 := R_m hR1 (m2r_41 hM.2.2.2 a p) (mo 42 (by decide) (by decide) (by decide) (by decide)) (by rw [mi 2 (by decide) (by decide) (by decide) (by decide) (by decide), mj]) (by rw [mi 3 (by decide) (by decide) (by decide) (by decide) (by decide), mj]) (by rw [mi 4 (by decide) (by decide) (by decide) (by decide) (by decide), mj])
  have hU2 : US σ2 (m2r m s a p) pd := (US_cp hU y2).keep (so 32 (by decide)) (so 33 (by decide)) (so 34 (by decide)) (mi 9 (by decide) (by decide) (by decide) (by decide) (by decide)) (by rw [m2r_o _ _ _ _ _ (by decide)]; exact hM.1 46 (by decide) (by decide) (by decide) (by decide)) (by rw [m2r_o _ _ _ _ _ (by decide)]; exact hM.1 47 (by decide) (by decide) (by decide) (by decide))
  obtain ⟨v, σ', m', h', k', z1, z2, z3, z4, z5, z6, z7⟩ := TRY1 (k5 := k5) (q := q) (c := c) (n := n) (te := 1) hR2 (by omega) (by rw [so 1 (by decide), y3]; exact s11) (by rw [hE.1 0 (by omega)]; exact ht0) ht hnn hgc hU2 (by rw [so 28 (by decide), so 29 (by decide), so 30 (by decide), so 31 (by decide)]; exact y4) hq hc hn (Or.inr rfl)
  obtain ⟨pr, epr⟩ : ∃ pr, pr = σ' 20 0 9 - τ 20 0 9 + σ' 1 0 4 - τ 1 0 4 := ⟨_, rfl⟩
  have vs : vp_in (nI s) 6 := vp_in_nI (by omega) (by decide)
  have ks : (nI s).toNatClampNeg = s := nI_cl (by omega)
  have ew1 : 9 * nI s + 1 = nI (9 * s + 1) := ix_lin 9 rfl rfl
  have ew2 : 9 * nI s + 2 = nI (9 * s + 2) := ix_lin 9 rfl rfl
  have vw1 : vp_in (nI (9 * s + 1)) 54 := vp_in_nI (by omega) (by decide)
  have vw2 : vp_in (nI (9 * s + 2)) 54 := vp_in_nI (by omega) (by decide)
  have kw1 : (nI (9 * s + 1)).toNatClampNeg = 9 * s + 1 := nI_cl (by omega)
  have kw2 : (nI (9 * s + 2)).toNatClampNeg = 9 * s + 2 := nI_cl (by omega)
  have l3 : ¬ (3 : Int32) < nI p := fun e => absurd ((nI_ltI (a := 3) (by decide) (by omega)).mp e) (by omega)
  have l4 : ¬ (4 : Int32) ≤ nI p := fun e => absurd ((nI_leI (a := 4) (by decide) (by omega)).mp e) (by omega)
  have eap : 10 * nI a + nI p = nI (10 * a + p) := ix_lin 10 rfl rfl
  have P66 : ∀ (d : Nat) (μ : Mem), μ 1 = τ → M (d + 1) 66 [.inr (0, 0, 0)] (va_up μ 2 σ') (some pr, va_up μ 2 σ') := fun d μ e => M66 (by
    show _ = (some (va_up μ 2 σ' 2 20 0 9 - va_up μ 2 σ' 1 20 0 9 + va_up μ 2 σ' 2 1 0 4 - va_up μ 2 σ' 1 1 0 4), _)
    rw [va_up_self, va_up_ne _ _ (by decide), e, epr])
  -- the class up to 115
  have C1 : ∀ (d : Nat) (μ : Mem) (u9 u10 : Option AV) (res : Res), μ 1 = τ → ((v = -4 → EvE (M (d + 10)) 62 115 (L62 s q c n f L (nI a) (nI p) u9 u10) [.inl 0] (va_up μ 2 σ') res) ∧ (¬ v = -4 → EvE (M (d + 10)) 62 115 (L62 s q c n f L (nI a) (nI p) u9 u10) [.inl 1] (va_up μ 2 σ') res)) → EvE (M (d + 10)) 62 54 (L62 s q c n f L (nI a) (nI p) u9 u10) [] (va_up μ 2 σ) res := by
    intro d μ u9 u10 res e H
    refine B62_54.mpr ⟨fun e3 => absurd e3 l3, fun _ => ⟨_, y1 (d + 5) μ e, vs, vs, v, va_up μ 2 σ', ?_, H⟩⟩
    rw [ks]
    simp only [Nat.reduceAdd, ms_up, ← e2]
    exact z1 d μ
  have D1 : ∀ (d : Nat) (μ : Mem) (u11 : Option AV) (res : Res), ((v < 0 → EvE (M (d + 64)) 125 124 (L125 s q c n x5 x6 f L (nI a) (nI p) u11) [.inl 0] (mm (va_up μ 5 k') m' h') res) ∧ (¬ v < 0 → EvE (M (d + 64)) 125 124 (L125 s q c n x5 x6 f L (nI a) (nI p) u11) [.inl 1] (mm (va_up μ 5 k') m' h') res)) → EvE (M (d + 64)) 125 75 (L125 s q c n x5 x6 f L (nI a) (nI p) u11) [] (mm (va_up μ 5 k5) m h) res := by
    intro d μ u11 res H
    refine B125_75.mpr ⟨fun e3 => absurd e3 l4, fun _ => ⟨by rw [ew1]; exact vw1, by rw [ew2]; exact vw2, v, mm (va_up μ 5 k') m' h', ?_, H⟩⟩
    rw [ew1, ew2, kw1, kw2, ms3, ms3]
    exact z2 d μ
  have hE2 : HE h0 h' N G := hE.trans z3
  have hM2 : MqR s m0 m' := hM.next z4
  rcases z6 with rfl | ⟨f0, r1, r2, rfl⟩
  · refine ⟨σ', m', h', k', f, L, 0, pr, 0, z5, hE2, hM2, hf, fun d μ u9 u10 res e H => C1 d μ u9 u10 res e ⟨fun _ => B62_115.mpr ⟨_, _, P66 (d + 9) μ e, fun _ => B62_156.mpr (by rw [nI_1]; exact H), fun e3 => absurd rfl e3⟩, fun e3 => absurd rfl e3⟩, fun d μ u11 res H => D1 d μ u11 res ⟨fun _ => B125_124.mpr ⟨fun _ => B125_161.mpr (by rw [nI_1]; exact H), fun e3 => absurd rfl e3⟩, fun e3 => absurd (by decide) e3⟩⟩
  · have nv : ¬ nI f0 = -4 := nI_neg (by omega) (by decide)
    have pv : ¬ nI f0 < 0 := nI_pos (by omega)
    have epm : m' 40 0 21 = pr := by
      rw [z7 rfl nv, epr, c10, c8, hE.1 25 (by omega), hE.1 27 (by omega)]
    have take : ∀ (X : ¬ f = -4 → ¬ L ≤ pr), ∃ σ' m' h' k' f' L' w9 w10 w11, σ' 1 0 11 = -1 ∧ HE h0 h' N G ∧ MqR s m0 m' ∧ FO f' ∧
      (∀ (d : Nat) (μ : Mem) (u9 u10 : Option AV) (res : Res), μ 1 = τ → EvE (M (d + 10)) 62 54 (L62 s q c n f' L' (nI a) (nI (p + 1)) (some (.inl w9)) (some (.inl w10))) [] (va_up μ 2 σ') res → EvE (M (d + 10)) 62 54 (L62 s q c n f L (nI a) (nI p) u9 u10) [] (va_up μ 2 σ) res) ∧
      (∀ (d : Nat) (μ : Mem) (u11 : Option AV) (res : Res), EvE (M (d + 64)) 125 75 (L125 s q c n x5 x6 f' L' (nI a) (nI (p + 1)) (some (.inl w11))) [] (mm (va_up μ 5 k') m' h') res → EvE (M (d + 64)) 125 75 (L125 s q c n x5 x6 f L (nI a) (nI p) u11) [] (mm (va_up μ 5 k5) m h) res) := by
      intro X
      refine ⟨σ', m', h', k', nI (10 * a + p), pr, 1, pr, 1, z5, hE2, hM2, Or.inr ⟨10 * a + p, by omega, rfl⟩, fun d μ u9 u10 res e H => C1 d μ u9 u10 res e ⟨fun e3 => absurd e3 nv, fun _ => B62_115.mpr ⟨_, _, P66 (d + 9) μ e, fun e3 => absurd e3 (by decide), fun _ => ⟨fun _ => ?_, fun e3 => ⟨fun e4 => absurd e4 (X e3), fun _ => ?_⟩⟩⟩⟩, fun d μ u11 res H => D1 d μ u11 res ⟨fun e3 => absurd e3 pv, fun _ => B125_124.mpr ⟨fun e3 => absurd e3 (by decide), fun _ => ⟨fun _ => ?_, fun e3 => ⟨fun e4 => absurd e4 ?_, fun _ => ?_⟩⟩⟩⟩⟩
      · rw [B62_142, B62_156, eap, nI_1]; exact H
      · rw [B62_142, B62_156, eap, nI_1]; exact H
      · rw [B125_145, B125_161, mm3, epm, eap, nI_1]; exact H
      · rw [mm3, epm]; exact X (fun e5 => e3 (by rw [e5]; decide))
      · rw [B125_145, B125_161, mm3, epm, eap, nI_1]; exact H
    rcases hf with rfl | ⟨r, rr, rfl⟩
    · exact take (fun e => absurd rfl e)
    · by_cases le : L ≤ pr
      · have nr : ¬ nI r = -4 := nI_neg (by omega) (by decide)
        have qr : ¬ nI r < 0 := nI_pos (by omega)
        refine ⟨σ', m', h', k', nI r, L, 1, pr, 1, z5, hE2, hM2, Or.inr ⟨r, rr, rfl⟩, fun d μ u9 u10 res e H => C1 d μ u9 u10 res e ⟨fun e3 => absurd e3 nv, fun _ => B62_115.mpr ⟨_, _, P66 (d + 9) μ e, fun e3 => absurd e3 (by decide), fun _ => ⟨fun e3 => absurd e3 nr, fun _ => ⟨fun _ => B62_156.mpr (by rw [nI_1]; exact H), fun e3 => absurd le e3⟩⟩⟩⟩, fun d μ u11 res H => D1 d μ u11 res ⟨fun e3 => absurd e3 pv, fun _ => B125_124.mpr ⟨fun e3 => absurd e3 (by decide), fun _ => ⟨fun e3 => absurd e3 qr, fun _ => ⟨fun _ => B125_161.mpr (by rw [nI_1]; exact H), fun e3 => absurd ?_ e3⟩⟩⟩⟩⟩
        rw [mm3, epm]; exact le
      · exact take (fun _ => le)
