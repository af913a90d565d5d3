/-! best: the loops, the call -/
theorem best_in {τ m0 h0 : Rg} {ns N G nn gc t pd q n s c : Nat} {P Q PG QG : Nat → Nat} {x5 x6 : Int32} (hR : R τ m0 h0 ns N G nn gc P Q PG QG 1000 1000) (hs : s < ns) (ht0 : h0 60 0 0 = nI t) (ht : t ≤ 100000) (hnn : nn ≤ 1700 * t) (hgc : gc ≤ 1700 * t) (hU : US τ m0 pd) (hq : q < 8) (hc : c ≤ 30) (hn : n ≤ 400) {a : Nat} (ha : a ≤ 3) :
    ∀ (z p : Nat), p + z = 4 → ∀ (σ m h k5 : Rg) (f L : Int32), σ 1 0 11 = -1 → HE h0 h N G → MqR s m0 m → FO f →
    ∃ σ' m' h' k' f' L', σ' 1 0 11 = -1 ∧ HE h0 h' N G ∧ MqR s m0 m' ∧ FO f' ∧
      (∀ (d : Nat) (μ : Mem) (u9 u10 : Option AV) (res : Res), μ 1 = τ → (∀ v9 v10, EvE (M (d + 10)) 62 54 (L62 s q c n f' L' (nI a) (nI 4) v9 v10) [] (va_up μ 2 σ') res) → EvE (M (d + 10)) 62 54 (L62 s q c n f L (nI a) (nI p) u9 u10) [] (va_up μ 2 σ) res) ∧
      (∀ (d : Nat) (μ : Mem) (u11 : Option AV) (res : Res), (∀ v11, EvE (M (d + 64)) 125 75 (L125 s q c n x5 x6 f' L' (nI a) (nI 4) v11) [] (mm (va_up μ 5 k') m' h') res) → EvE (M (d + 64)) 125 75 (L125 s q c n x5 x6 f L (nI a) (nI p) u11) [] (mm (va_up μ 5 k5) m h) res) := by
  intro z
  induction z with
  | zero =>
    intro p hp σ m h k5 f L s11 hE hM hf
    have hp' : p = 4 := by omega
    subst hp'
    exact ⟨σ, m, h, k5, f, L, s11, hE, hM, hf, fun d μ u9 u10 res _ H => H u9 u10, fun d μ u11 res H => H u11⟩
  | succ z ih =>
    intro p hp σ m h k5 f L s11 hE hM hf
    obtain ⟨σ1, m1, h1, k1, f1, L1, w9, w10, w11, y1, y2, y3, y4, y5, y6⟩ := best_step (x5 := x5) (x6 := x6) (p := p) (k5 := k5) (L := L) hR hs ht0 ht hnn hgc hU hq hc hn ha (by omega) s11 hE hM hf
    obtain ⟨σ', m', h', k', f', L', g1, g2, g3, g4, g5, g6⟩ := ih (p + 1) (by omega) σ1 m1 h1 k1 f1 L1 y1 y2 y3 y4
    exact ⟨σ', m', h', k', f', L', g1, g2, g3, g4, fun d μ u9 u10 res e H => y5 d μ u9 u10 res e (g5 d μ _ _ res e H), fun d μ u11 res H => y6 d μ u11 res (g6 d μ _ res H)⟩
abbrev K62 (s q c n : Nat) (f L a : Int32) (u8 u9 u10 : Option AV) : Lc := [some (.inr (0, 0, 0)), some (.inl (nI s)), some (.inl (nI q)), some (.inl (nI c)), some (.inl (nI n)), some (.inl f), some (.inl L), some (.inl a), u8, u9, u10]
abbrev K125 (s q c n : Nat) (x5 x6 f L a : Int32) (u10 u11 : Option AV) : Lc := [some (.inr (3, 40, 0)), some (.inl (nI s)), some (.inl (nI q)), some (.inl (nI c)), some (.inl (nI n)), some (.inl x5), some (.inl x6), some (.inl f), some (.inl L), some (.inl a), u10, u11]
theorem best_out {τ m0 h0 : Rg} {ns N G nn gc t pd q n s c : Nat} {P Q PG QG : Nat → Nat} {x5 x6 : Int32} (hR : R τ m0 h0 ns N G nn gc P Q PG QG 1000 1000) (hs : s < ns) (ht0 : h0 60 0 0 = nI t) (ht : t ≤ 100000) (hnn : nn ≤ 1700 * t) (hgc : gc ≤ 1700 * t) (hU : US τ m0 pd) (hq : q < 8) (hc : c ≤ 30) (hn : n ≤ 400) :
    ∀ (z a : Nat), a + z = 4 → ∀ (σ m h k5 : Rg) (f L : Int32), σ 1 0 11 = -1 → HE h0 h N G → MqR s m0 m → FO f →
    ∃ σ' m' h' k' f' L', σ' 1 0 11 = -1 ∧ HE h0 h' N G ∧ MqR s m0 m' ∧ FO f' ∧
      (∀ (d : Nat) (μ : Mem) (u8 u9 u10 : Option AV) (res : Res), μ 1 = τ → (∀ v8 v9 v10, EvE (M (d + 10)) 62 45 (K62 s q c n f' L' (nI 4) v8 v9 v10) [] (va_up μ 2 σ') res) → EvE (M (d + 10)) 62 45 (K62 s q c n f L (nI a) u8 u9 u10) [] (va_up μ 2 σ) res) ∧
      (∀ (d : Nat) (μ : Mem) (u10 u11 : Option AV) (res : Res), (∀ v10 v11, EvE (M (d + 64)) 125 66 (K125 s q c n x5 x6 f' L' (nI 4) v10 v11) [] (mm (va_up μ 5 k') m' h') res) → EvE (M (d + 64)) 125 66 (K125 s q c n x5 x6 f L (nI a) u10 u11) [] (mm (va_up μ 5 k5) m h) res) := by
  intro z
  induction z with
  | zero =>
    intro a hp σ m h k5 f L s11 hE hM hf
    have hp' : a = 4 := by omega
    subst hp'
    exact ⟨σ, m, h, k5, f, L, s11, hE, hM, hf, fun d μ u8 u9 u10 res _ H => H u8 u9 u10, fun d μ u10 u11 res H => H u10 u11⟩
  | succ z ih =>
    intro a hp σ m h k5 f L s11 hE hM hf
    have l3 : ¬ (3 : Int32) < nI a := fun e => absurd ((nI_ltI (a := 3) (by decide) (by omega)).mp e) (by omega)
    have l4 : ¬ (4 : Int32) ≤ nI a := fun e => absurd ((nI_leI (a := 4) (by decide) (by omega)).mp e) (by omega)
    obtain ⟨σ1, m1, h1, k1, f1, L1, y1, y2, y3, y4, y5, y6⟩ := best_in (x5 := x5) (x6 := x6) hR hs ht0 ht hnn hgc hU hq hc hn (a := a) (by omega) 4 0 (by omega) σ m h k5 f L s11 hE hM hf
    obtain ⟨σ', m', h', k', f', L', g1, g2, g3, g4, g5, g6⟩ := ih (a + 1) (by omega) σ1 m1 h1 k1 f1 L1 y1 y2 y3 y4
    refine ⟨σ', m', h', k', f', L', g1, g2, g3, g4, fun d μ u8 u9 u10 res e H => B62_45.mpr ⟨fun e3 => absurd e3 l3, fun _ => y5 d μ _ _ res e (fun v9 v10 => B62_54.mpr ⟨fun _ => ?_, fun e3 => absurd (by decide) e3⟩)⟩, fun d μ u10 u11 res H => B125_66.mpr ⟨fun e3 => absurd e3 l4, fun _ => y6 d μ _ res (fun v11 => B125_75.mpr ⟨fun _ => ?_, fun e3 => absurd (by decide) e3⟩)⟩⟩
    · rw [nI_1]; exact g5 d μ _ _ _ res e H
    · rw [nI_1]; exact g6 d μ _ _ res H
theorem BR_best {μ : Mem} {ρ σ' m' h' k' : Rg} {ns N G nn gc t pd tn : Nat} {P Q PG QG : Nat → Nat} (hR : R (μ 1) (μ 3) (μ 4) ns N G nn gc P Q PG QG 1000 1000) (h11 : μ 1 1 0 11 = -1) (h12 : σ' 1 0 11 = -1) (h0 : μ 4 60 0 0 = nI t) (ht : t ≤ 100000) (hnn : nn ≤ 1700 * t) (hgc : gc ≤ 1700 * t) (hT : TL (μ 1) (μ 3) tn) (hU : US (μ 1) (μ 3) pd) (hpr : ρ 0 0 2 = m' 40 0 17) (hfr : t = 0 → N = 0 ∧ ∀ s, ns ≤ s → s < 6 → FR (μ 1) (μ 3) (μ 4) s) (hE : HE (μ 4) h' N G) (q1 : ∀ x, x ≠ 40 → x ≠ 48 → x ≠ 49 → m' x = μ 3 x) (q2 : ∀ i, i ≠ 14 → i ≠ 15 → i ≠ 16 → i ≠ 17 → i ≠ 19 → i ≠ 21 → m' 40 0 i = μ 3 40 0 i) (q3 : m' 40 0 14 = 0) : BR (mm (va_up (va_up (va_up μ 2 σ') 0 ρ) 5 k') m' h') := by
  refine ⟨ns, N, G, nn, gc, t, pd, P, Q, PG, QG, ?_⟩
  simp (disch := decide) only [mm3, mm4, mm_o, va_up_self, va_up_ne]
  refine ⟨R_he (R_m hR (q1 41 (by decide) (by decide) (by decide)) (q1 42 (by decide) (by decide) (by decide)) (q2 2 (by decide) (by decide) (by decide) (by decide) (by decide) (by decide)) (q2 3 (by decide) (by decide) (by decide) (by decide) (by decide) (by decide)) (q2 4 (by decide) (by decide) (by decide) (by decide) (by decide) (by decide))) hE, ⟨h11, h12⟩, by rw [hE.1 0 (by omega)]; exact h0, ht, hnn, hgc, q3, ⟨tn, hT.keep rfl rfl rfl rfl (q2 8 (by decide) (by decide) (by decide) (by decide) (by decide) (by decide)) (q1 43 (by decide) (by decide) (by decide)) (q1 44 (by decide) (by decide) (by decide)) (q1 45 (by decide) (by decide) (by decide))⟩, hU.keep rfl rfl rfl (q2 9 (by decide) (by decide) (by decide) (by decide) (by decide) (by decide)) (q1 46 (by decide) (by decide) (by decide)) (q1 47 (by decide) (by decide) (by decide)), hpr, fun e => ⟨(hfr e).1, fun s y1 y2 => FR_he ((hfr e).2 s y1 y2) y2 hE (q1 41 (by decide) (by decide) (by decide))⟩⟩
theorem CALL_best (x y z w : Int32) : CALL 62 125 [.inl x, .inl y, .inl z, .inl w] := by
  intro μ hB
  obtain ⟨ns, N, G, nn, gc, t, pd, P, Q, PG, QG, hR, ⟨h11, h12⟩, h0, ht, hnn, hgc, h14, ⟨tn, hT⟩, hU, hpr, hfr⟩ := id hB
  have hns : ns ≤ 6 := hR.2.2.2.2.2.2.2.2.2.1.1.1
  have hc1 : μ 1 1 0 1 = nI ns := hR.2.2.2.2.2.2.2.2.2.1.1.2.1
  have hm2 : μ 3 40 0 2 = nI ns := hR.2.2.2.2.2.2.2.2.2.1.1.2.2
  have u := fun d μ' => T_within (d := d) (μ := μ') (x := z) (a := 0) (b := 30)
  have u' := fun d μ' => T_mwithin (d := d) (μ := μ') (x := z) (a := 0) (b := 30)
  rcases isS hns hc1 hm2 x with ⟨s, hs, rfl, a1, a2⟩ | ⟨a1, a2⟩
  · rcases isK μ μ y with ⟨q, hq, rfl, b1, b2⟩ | ⟨b1, b2⟩
    · by_cases hz : z < 0 ∨ 30 < z
      · simp only [if_pos hz] at u u'
        exact ⟨-1, μ, μ, M_up (k := 3) (fun d => M62 ⟨_, _, a1 d, fun e => absurd e (by decide), fun _ => ⟨_, _, b1 d, fun e => absurd e (by decide), fun _ => ⟨_, _, u (d + 1) μ, fun _ => B62_33.mpr rfl, fun e => absurd rfl e⟩⟩⟩) (by decide), M_up (k := 3) (fun d => M125 ⟨_, _, a2 d, fun e => absurd e (by decide), fun _ => ⟨_, _, b2 d, fun e => absurd e (by decide), fun _ => ⟨_, _, u' (d + 1) μ, fun _ => B125_38.mpr rfl, fun e => absurd rfl e⟩⟩⟩) (by decide), hB⟩
      · simp only [if_neg hz] at u u'
        obtain ⟨c, -, c2, rfl⟩ := nI_btw (x := z) (a := 0) (b := 30) (by decide) (by decide) (fun e => hz (Or.inl e)) (fun e => hz (Or.inr e))
        rcases T_triable w with ⟨n, n1, n2, rfl, w1, w2⟩ | ⟨w1, w2⟩
        · obtain ⟨σ', m', h', k', f', L', g1, g2, g3, g4, g5, g6⟩ := best_out (x5 := μ 3 41 0 (9 * s + 1)) (x6 := μ 3 41 0 (9 * s + 2)) hR hs h0 ht hnn hgc hU hq c2 n2 4 0 (by omega) (μ 2) (μ 3) (μ 4) (μ 5) (-4) 0 h12 ⟨fun _ _ => rfl, fun _ _ => ⟨rfl, rfl, rfl⟩, fun _ _ => rfl, fun _ _ => rfl, fun _ _ => rfl, fun _ _ _ _ _ => rfl, fun _ _ _ _ _ => rfl⟩ ⟨fun _ _ _ _ _ => rfl, fun _ _ _ _ _ _ => rfl, h14, fun _ _ _ => rfl⟩ (Or.inl rfl)
          obtain ⟨r1, r2, r3, r4⟩ := g3
          -- what the class leaves in the bench, what the model leaves as its price
          obtain ⟨ρ, hρ⟩ : ∃ ρ, ρ = if f' = -4 then μ 0 else cset (μ 0) 0 0 2 L' := ⟨_, rfl⟩
          obtain ⟨W, hW⟩ : ∃ W, W = if f' = -4 then m' 40 0 17 else L' := ⟨_, rfl⟩
          obtain ⟨m3, hm3⟩ : ∃ m3, m3 = cset (cset (cset m' 41 0 (9 * s + 1) (μ 3 41 0 (9 * s + 1))) 41 0 (9 * s + 2) (μ 3 41 0 (9 * s + 2))) 40 0 17 W := ⟨_, rfl⟩
          have ew1 : 9 * nI s + 1 = nI (9 * s + 1) := ix_lin 9 rfl rfl
          have ew2 : 9 * nI s + 2 = nI (9 * s + 2) := ix_lin 9 rfl rfl
          have vw1 : vp_in (nI (9 * s + 1)) 54 := vp_in_nI (by omega) (by decide)
          have vw2 : vp_in (nI (9 * s + 2)) 54 := vp_in_nI (by omega) (by decide)
          have kw1 : (nI (9 * s + 1)).toNatClampNeg = 9 * s + 1 := nI_cl (by omega)
          have kw2 : (nI (9 * s + 2)).toNatClampNeg = 9 * s + 2 := nI_cl (by omega)
          have C : ∀ d, EvE (M (d + 10)) 62 45 (K62 s q c n (-4) 0 (nI 0) none none none) [] μ (some f', va_up (va_up μ 2 σ') 0 ρ) := fun d => by
            have := g5 d μ none none none (some f', va_up (va_up μ 2 σ') 0 ρ) rfl (fun v8 v9 v10 => B62_45.mpr ⟨fun _ => ⟨fun e => B62_181.mpr ?_, fun e => B62_181.mpr ?_⟩, fun e => absurd (by decide) e⟩)
            · rw [up_eta] at this; exact this
            · rw [hρ, if_pos e]
              have : va_up (va_up μ 2 σ') 0 (va_up μ 2 σ' 0) = va_up μ 2 σ' := up_eta _ 0
              rw [va_up_ne _ _ (by decide)] at this
              rw [this]
            · rw [hρ, if_neg e, mset_e, va_up_ne _ _ (by decide)]
          have D : ∀ d, EvE (M (d + 64)) 125 66 (K125 s q c n (μ 3 41 0 (9 * s + 1)) (μ 3 41 0 (9 * s + 2)) (-4) 0 (nI 0) none none) [] (va_up (va_up μ 2 σ') 0 ρ) (some f', mm (va_up (va_up (va_up μ 2 σ') 0 ρ) 5 k') m3 h') := fun d => by
            have := g6 d (va_up (va_up μ 2 σ') 0 ρ) none none (some f', mm (va_up (va_up (va_up μ 2 σ') 0 ρ) 5 k') m3 h') (fun v10 v11 => B125_66.mpr ⟨fun _ => ⟨by rw [ew1]; exact vw1, by rw [ew2]; exact vw2, fun e => B125_214.mpr ?_, fun e => B125_214.mpr ?_⟩, fun e => absurd (by decide) e⟩)
            · have e5 : mm (va_up (va_up (va_up μ 2 σ') 0 ρ) 5 (μ 5)) (μ 3) (μ 4) = va_up (va_up μ 2 σ') 0 ρ := mm_eta5 (va_up (va_up μ 2 σ') 0 ρ)
              rw [e5] at this; exact this
            · have nf : ¬ f' = -4 := fun e9 => by rw [e9] at e; exact absurd e (by decide)
              rw [if_neg nf] at hW
              rw [ew1, ew2, kw1, kw2, ms3, ms3, ms3, hm3, hW]
            · have nf : f' = -4 := by
                rcases g4 with e9 | ⟨r, hr33, e9⟩
                · exact e9
                · exact absurd (by rw [e9]; exact Int32.not_lt.mp (nI_pos (by omega))) e
              rw [if_pos nf] at hW
              rw [ew1, ew2, kw1, kw2, ms3, ms3, ms3, hm3, hW, mm3]
          have a3 : ∀ d, M (d + 2) 75 [.inr (3, 40, 0), .inl (nI s)] (va_up (va_up μ 2 σ') 0 ρ) (some 1, va_up (va_up μ 2 σ') 0 ρ) := fun d => T_misS (d := d + 1) (ns := ns) (by rw [va_up_ne _ _ (by decide), va_up_ne _ _ (by decide)]; exact hm2) hs (by omega)
          have b3 : ∀ d, M (d + 2) 76 [.inl (nI q)] (va_up (va_up μ 2 σ') 0 ρ) (some 1, va_up (va_up μ 2 σ') 0 ρ) := fun d => by
            have c' := T_mwithin (d := d) (μ := va_up (va_up μ 2 σ') 0 ρ) (x := nI q) (a := 0) (b := 7)
            rw [if_neg (fun w => w.elim (fun e => nI_pos (by omega) e) (fun e => absurd ((nI_ltI (a := 7) (by decide) (by omega)).mp e) (by omega)))] at c'
            exact M76 ⟨1, _, c', Or.inr rfl, rfl⟩
          have t1 : ∀ d, M (d + 1) 77 [.inr (3, 40, 0), .inl (nI s), .inl 1] (va_up (va_up μ 2 σ') 0 ρ) (some (μ 3 41 0 (9 * s + 1)), va_up (va_up μ 2 σ') 0 ρ) := fun d => by
            have := T_ruled (m := μ 3) (h := μ 4) (s := s) (j := 1) (x := 1) (by omega) (by decide) rfl d (va_up (va_up μ 2 σ') 0 ρ)
            have e : mm (va_up (va_up μ 2 σ') 0 ρ) (μ 3) (μ 4) = va_up (va_up μ 2 σ') 0 ρ := mm_eta (va_up (va_up μ 2 σ') 0 ρ)
            rw [e] at this; exact this
          have t2 : ∀ d, M (d + 1) 77 [.inr (3, 40, 0), .inl (nI s), .inl 2] (va_up (va_up μ 2 σ') 0 ρ) (some (μ 3 41 0 (9 * s + 2)), va_up (va_up μ 2 σ') 0 ρ) := fun d => by
            have := T_ruled (m := μ 3) (h := μ 4) (s := s) (j := 2) (x := 2) (by omega) (by decide) rfl d (va_up (va_up μ 2 σ') 0 ρ)
            have e : mm (va_up (va_up μ 2 σ') 0 ρ) (μ 3) (μ 4) = va_up (va_up μ 2 σ') 0 ρ := mm_eta (va_up (va_up μ 2 σ') 0 ρ)
            rw [e] at this; exact this
          refine ⟨f', va_up (va_up μ 2 σ') 0 ρ, mm (va_up (va_up (va_up μ 2 σ') 0 ρ) 5 k') m3 h', M_up (k := 11) (fun d => M62 ⟨_, _, a1 (d + 8), fun e => absurd e (by decide), fun _ => ⟨_, _, b1 (d + 8), fun e => absurd e (by decide), fun _ => ⟨_, _, u (d + 9) μ, fun e => absurd e (by decide), fun _ => ⟨_, _, w1 (d + 8) μ, fun _ => C d, fun e => absurd (by decide) e⟩⟩⟩⟩) (by decide), M_up (k := 65) (fun d => M125 ⟨_, _, a3 (d + 62), fun e => absurd e (by decide), fun _ => ⟨_, _, b3 (d + 62), fun e => absurd e (by decide), fun _ => ⟨_, _, u' (d + 63) _, fun e => absurd e (by decide), fun _ => ⟨_, _, w2 (d + 63) _, fun _ => ⟨_, _, t1 (d + 63), _, _, t2 (d + 63), D d⟩, fun e => absurd (by decide) e⟩⟩⟩⟩) (by decide), BR_best hR h11 g1 h0 ht hnn hgc hT hU ?_ hfr g2 (fun x z1 z2 z3 => ?_) (fun i z1 z2 z3 z4 z5 z6 => ?_) ?_⟩
          · rw [hρ, hm3, cs_s, hW]
            by_cases e : f' = -4
            · rw [if_pos e, if_pos e, hpr, r2 17 (by decide) (by decide) (by decide) (by decide) (by decide)]
            · rw [if_neg e, if_neg e, cs_s]
          · rw [hm3, cs_a _ _ z1]
            by_cases e : x = 41
            · subst e
              funext o i
              by_cases e0 : o = 0
              · subst e0
                simp only [cs_r, up_app]
                by_cases e2 : i = 9 * s + 2
                · rw [if_pos e2, e2]
                · rw [if_neg e2]
                  by_cases e1 : i = 9 * s + 1
                  · rw [if_pos e1, e1]
                  · rw [if_neg e1]; exact r4 0 i (Or.inr ⟨e1, e2⟩)
              · rw [cs_o _ _ e0, cs_o _ _ e0]; exact r4 o i (Or.inl e0)
            · rw [cs_a _ _ e, cs_a _ _ e]; exact r1 x z1 e z2 z3
          · rw [hm3, cs_i _ _ z4, cs_a _ _ (by decide), cs_a _ _ (by decide)]; exact r2 i z1 z2 z3 z5 z6
          · rw [hm3, cs_i _ _ (by decide), cs_a _ _ (by decide), cs_a _ _ (by decide)]; exact r3
        · exact ⟨-1, μ, μ, M_up (k := 3) (fun d => M62 ⟨_, _, a1 d, fun e => absurd e (by decide), fun _ => ⟨_, _, b1 d, fun e => absurd e (by decide), fun _ => ⟨_, _, u (d + 1) μ, fun e => absurd e (by decide), fun _ => ⟨_, _, w1 d μ, fun e => absurd rfl e, fun _ => B62_33.mpr rfl⟩⟩⟩⟩) (by decide), M_up (k := 3) (fun d => M125 ⟨_, _, a2 d, fun e => absurd e (by decide), fun _ => ⟨_, _, b2 d, fun e => absurd e (by decide), fun _ => ⟨_, _, u' (d + 1) μ, fun e => absurd e (by decide), fun _ => ⟨_, _, w2 (d + 1) μ, fun e => absurd rfl e, fun _ => B125_38.mpr rfl⟩⟩⟩⟩) (by decide), hB⟩
    · exact ⟨-1, μ, μ, M_up (k := 3) (fun d => M62 ⟨_, _, a1 d, fun e => absurd e (by decide), fun _ => ⟨_, _, b1 d, fun _ => B62_33.mpr rfl, fun e => absurd rfl e⟩⟩) (by decide), M_up (k := 3) (fun d => M125 ⟨_, _, a2 d, fun e => absurd e (by decide), fun _ => ⟨_, _, b2 d, fun _ => B125_38.mpr rfl, fun e => absurd rfl e⟩⟩) (by decide), hB⟩
  · exact ⟨-1, μ, μ, M_up (k := 3) (fun d => M62 ⟨_, _, a1 d, fun _ => B62_33.mpr rfl, fun e => absurd rfl e⟩) (by decide), M_up (k := 3) (fun d => M125 ⟨_, _, a2 d, fun _ => B125_38.mpr rfl, fun e => absurd rfl e⟩) (by decide), hB⟩
