/-! answers: tell, answered, settle, executed -/
theorem T_tellJ {m h : Rg} {N k' k nr : Nat} {n g : Int32} {h' : Rg} (hN : h 60 0 15 = nI N) (hb : N ≤ 120) (hk : k' < N) (hraw : h 67 0 k' = nI nr) (hnr : nr < 1073741824) (hu : ∀ i, i < k' → ¬ h 67 0 i = nI nr) (h70 : h 70 0 k' = 2) (h74 : h 74 0 k' = n) (hA : MX k 98 [.inl (nI nr), .inl g] m h none m h') : MX (k + 2) 94 [.inl n, .inl (nI nr), .inl g] m h (some 1) m h' := fun d μ => M94 (by
  have v0 : vp_in (nI k') 120 := vp_in_nI (by omega) (by decide)
  have k0 : (nI k').toNatClampNeg = k' := nI_cl (by omega)
  refine ⟨fun e => absurd e (nI_pos (by omega)), fun _ => ⟨nI k', _, T_placeOf hN hb hk hraw hu (d + k) μ, fun e => absurd e (nI_pos (by omega)), fun _ => ⟨v0, ?_⟩⟩⟩
  simp only [Nat.reduceAdd, mm4, k0, h70, h74]
  exact ⟨fun e => absurd True.intro e, fun _ => ⟨v0, fun _ => ⟨_, (hA.mono (Nat.le_add_right k 1)) d μ, rfl⟩, fun e => absurd True.intro e⟩⟩)
theorem T_tellG {m h : Rg} {G j k : Nat} {n g raw : Int32} {h' : Rg} (hG : h 60 0 22 = nI G) (hb : G ≤ 100) (hj : j < G) (h76 : h 76 0 j = n) (hu : ∀ i, i < j → ¬ h 76 0 i = n) (hraw : raw < 0) (hA : MX k 95 [.inl (nI j), .inl g] m h none m h') : MX (k + 2) 94 [.inl n, .inl raw, .inl g] m h (some 1) m h' := fun d μ => M94 (by
  refine ⟨fun _ => ⟨nI j, _, T_guestOf hG hb hj h76 hu (d + k) μ, fun _ => ⟨_, (hA.mono (Nat.le_add_right k 1)) d μ, rfl⟩, fun e => absurd (nI_pos' (by omega)) e⟩, fun e => absurd hraw e⟩)
theorem T_tellNoG {m h : Rg} {G : Nat} {n g raw : Int32} (hG : h 60 0 22 = nI G) (hb : G ≤ 100) (hu : ∀ i, i < G → ¬ h 76 0 i = n) (hraw : raw < 0) : MX 2 94 [.inl n, .inl raw, .inl g] m h (some 0) m h := fun d μ => M94 (by
  refine ⟨fun _ => ⟨-1, _, T_guestNo hG hb hu d μ, fun e => absurd e (by decide), fun _ => rfl⟩, fun e => absurd hraw e⟩)
theorem T_tellNoJ {m h : Rg} {N nr : Nat} {n g : Int32} (hN : h 60 0 15 = nI N) (hb : N ≤ 120) (hnr : nr < 1073741824) (hu : ∀ i j, i < N → j < N → h 67 0 i = h 67 0 j → i = j) (hno : ∀ k, k < N → h 67 0 k = nI nr → h 70 0 k = 2 → ¬ h 74 0 k = n) : MX 2 94 [.inl n, .inl (nI nr), .inl g] m h (some 0) m h := fun d μ => M94 (by
  refine ⟨fun e => absurd e (nI_pos (by omega)), fun _ => ?_⟩
  by_cases ex : ∃ k, k < N ∧ h 67 0 k = nI nr
  · obtain ⟨k, hk, hn⟩ := ex
    have v0 : vp_in (nI k) 120 := vp_in_nI (by omega) (by decide)
    have k0 : (nI k).toNatClampNeg = k := nI_cl (by omega)
    refine ⟨nI k, _, T_placeOf hN hb hk hn (fun i hi e => absurd (hu i k (by omega) hk (e.trans hn.symm)) (by omega)) d μ, fun e => absurd e (nI_pos (by omega)), fun _ => ⟨v0, ?_⟩⟩
    simp only [B94_44, Nat.reduceAdd, mm4, k0]
    refine ⟨fun _ => True.intro, fun e => ⟨v0, fun e2 => absurd e2 (hno k hk hn (Classical.not_not.mp e)), fun _ => True.intro⟩⟩
  · refine ⟨-1, _, T_placeNo hN hb (fun i hi e => ex ⟨i, hi, e⟩) d μ, ?_, fun e => absurd (by decide) e⟩
    simp only [B94_44, implies_true])
theorem T_ansd1 {m h : Rg} {N z s k : Nat} {n : Int32} {h' : Rg} (hN : h 60 0 15 = nI N) (hb : N ≤ 120) (hz : z < N) (hn : h 67 0 z = n) (hu : ∀ i, i < z → ¬ h 67 0 i = n) (hs : s < 6) (h68 : h 68 0 z = nI s) (hA : MX k 97 [.inl n, .inl 1] m (cset h 62 0 s 0) none m h') : MX (k + 2) 98 [.inl n, .inl 1] m h none m h' := fun d μ => M98 (by
  have v0 : vp_in (nI z) 120 := vp_in_nI (by omega) (by decide)
  have k0 : (nI z).toNatClampNeg = z := nI_cl (by omega)
  have v1 : vp_in (nI s) 6 := vp_in_nI hs (by decide)
  have k1 : (nI s).toNatClampNeg = s := nI_cl (by omega)
  refine ⟨fun e => absurd e (by decide), fun _ => ⟨nI z, _, T_placeOf hN hb hz hn hu (d + k) μ, v0, ?_⟩⟩
  simp only [B98_40, Nat.reduceAdd, mm4, ms4, k0, h68, v1, k1, true_and]
  exact ⟨_, (hA.mono (Nat.le_add_right k 1)) d μ, rfl⟩)
theorem T_ansd0 {m h : Rg} {k : Nat} {n : Int32} {h' : Rg} (hA : MX k 99 [.inl n] m h none m h') : MX (k + 2) 98 [.inl n, .inl 0] m h none m h' := fun d μ => M98 (by
  refine ⟨fun _ => ⟨_, (hA.mono (Nat.le_add_right k 1)) d μ, ?_⟩, fun e => absurd rfl e⟩
  simp only [B98_40])
/-- settle, from its loop's head with i answers given -/
def ST (k i : Nat) (σ σ' : Rg) : Prop := ∀ (d : Nat) (μ : Mem) (r : Nat) (u2 : Option AV), EvE (M (d + k)) 20 2 [some (.inr (r, 1, 0)), some (.inl (nI i)), u2] [] (va_up μ r σ) (none, va_up μ r σ')
theorem ST.mono {k k' i : Nat} {σ σ' : Rg} (h : ST k i σ σ') (hk : k ≤ k') : ST k' i σ σ' := fun d μ r u2 => by
  have := h (d + (k' - k)) μ r u2
  rw [show d + (k' - k) + k = d + k' by omega] at this
  exact this
theorem ST_stop {i : Nat} {σ : Rg} (h : σ 1 0 11 = -1) : ST 0 i σ σ := fun d μ r u2 => B20_2.mpr (by
  simp only [B20_99, va_up_self, h, not_true_eq_false, false_implies, and_true, implies_true])
theorem ST_good {i p s : Nat} {σ σ2 σ' : Rg} (hi : i ≤ 6) (hp : p < 120) (hs : s < 6) (h11 : σ 1 0 11 = nI p) (h12 : σ 1 0 12 = 1) (h13 : σ 13 0 p = nI s) (hE : CX 3 18 1 0 [.inl (nI p), .inl 1] (cset (cset σ 1 0 11 (-1)) 3 s 7 0) none σ2) (hS : ST 3 (i + 1) σ2 σ') : ST 3 i σ σ' := fun d μ r u2 => B20_2.mpr (by
  have v0 : vp_in (nI p) 120 := vp_in_nI hp (by decide)
  have k0 : (nI p).toNatClampNeg = p := nI_cl (by omega)
  have v1 : vp_in (nI s) 6 := vp_in_nI hs (by decide)
  have k1 : (nI s).toNatClampNeg = s := nI_cl (by omega)
  have c0 : ¬ (6 : Int32) < nI i := nI_nlt (a := 6) hi (by decide)
  have c1 : ¬ nI p = -1 := nI_m1 (by omega)
  have c2 : nI p < 1000 := nI_lt (b := 1000) (by omega) (by decide)
  have c3 : ¬ (1 : Int32) = 0 := by decide
  simp only [B20_93, va_up_self, ms_up, h11, h12, h13, k0, v0, k1, v1, c0, c1, c2, c3, nI_1, not_true_eq_false, not_false_eq_true, true_and, and_true, false_implies, true_implies]
  exact ⟨_, hE d μ r, hS d μ r _⟩)
theorem ST_bad1 {i p : Nat} {σ σ2 σ' : Rg} (hi : i ≤ 6) (hp : p < 120) (h11 : σ 1 0 11 = nI p) (h12 : σ 1 0 12 = 0) (hE : CX 2 22 1 0 [.inl (nI p)] (cset σ 1 0 11 (-1)) (some 1) σ2) (hS : ST 3 (i + 1) σ2 σ') : ST 3 i σ σ' := fun d μ r u2 => B20_2.mpr (by
  have c0 : ¬ (6 : Int32) < nI i := nI_nlt (a := 6) hi (by decide)
  have c1 : ¬ nI p = -1 := nI_m1 (by omega)
  have c2 : nI p < 1000 := nI_lt (b := 1000) (by omega) (by decide)
  simp only [B20_93, va_up_self, ms_up, h11, h12, c0, c1, c2, nI_1, not_true_eq_false, not_false_eq_true, true_and, and_true, false_implies, true_implies]
  exact ⟨1, _, hE.mono (by decide) d μ r, fun _ => hS d μ r _, fun e => absurd (by decide : ¬ (1 : Int32) = 0) e⟩)
theorem ST_bad0 {i p : Nat} {σ σ1 σ2 σ' : Rg} (hi : i ≤ 6) (hp : p < 120) (h11 : σ 1 0 11 = nI p) (h12 : σ 1 0 12 = 0) (hE : CX 2 22 1 0 [.inl (nI p)] (cset σ 1 0 11 (-1)) (some 0) σ1) (hE2 : CX 3 18 1 0 [.inl (nI p), .inl 0] σ1 none σ2) (hS : ST 3 (i + 1) σ2 σ') : ST 3 i σ σ' := fun d μ r u2 => B20_2.mpr (by
  have c0 : ¬ (6 : Int32) < nI i := nI_nlt (a := 6) hi (by decide)
  have c1 : ¬ nI p = -1 := nI_m1 (by omega)
  have c2 : nI p < 1000 := nI_lt (b := 1000) (by omega) (by decide)
  simp only [B20_93, va_up_self, ms_up, h11, h12, c0, c1, c2, nI_1, not_true_eq_false, not_false_eq_true, true_and, and_true, false_implies, true_implies]
  exact ⟨0, _, hE.mono (by decide) d μ r, fun e => absurd rfl e, fun _ => ⟨_, hE2 d μ r, hS d μ r _⟩⟩)
theorem ST_guest {i g : Nat} {σ σ2 σ' : Rg} (hi : i ≤ 6) (hg : g < 100) (h11 : σ 1 0 11 = nI (1000 + g)) (hE : CX 2 21 1 0 [.inl (nI g)] (cset σ 1 0 11 (-1)) none σ2) (hS : ST 3 (i + 1) σ2 σ') : ST 3 i σ σ' := fun d μ r u2 => B20_2.mpr (by
  have c0 : ¬ (6 : Int32) < nI i := nI_nlt (a := 6) hi (by decide)
  have c1 : ¬ nI (1000 + g) = -1 := nI_m1 (by omega)
  have c2 : ¬ nI (1000 + g) < 1000 := nI_nlt (b := 1000) (by omega) (by omega)
  simp only [B20_93, va_up_self, ms_up, h11, c0, c1, c2, nI_sub1000, nI_1, not_true_eq_false, not_false_eq_true, true_and, and_true, false_implies, true_implies]
  exact ⟨_, hE.mono (by decide) d μ r, hS d μ r _⟩)
theorem T_settle {σ σ' : Rg} {k : Nat} (h : ST k 0 σ σ') : CX (k + 1) 20 1 0 [] σ none σ' := fun d μ r => M20 (h d μ r none)
/-- answerGuest of the class -/
theorem T_aG0 {σ : Rg} {g : Nat} (hg : g < 100) (h12 : σ 1 0 12 = 0) : CX 2 21 1 0 [.inl (nI g)] σ none (cset (cset σ 25 0 g (-1)) 26 0 g (σ 1 0 2 + 1)) := fun d μ r => M21 (by
  have v0 : vp_in (nI g) 100 := vp_in_nI hg (by decide)
  have k0 : (nI g).toNatClampNeg = g := nI_cl (by omega)
  simp (disch := decide) only [B21_59, va_up_self, ms_up, cs_a, h12, k0, v0, not_true_eq_false, not_false_eq_true, true_and, and_true, false_implies, true_implies])
theorem T_aG1 {σ : Rg} {G z : Nat} {PG QG : Nat → Nat} (h : LN (σ 21 0) (σ 22 0) (σ 23 0) 100 G PG QG) (hz : z < G) (h12 : σ 1 0 12 = 1) : ∃ σ', CX 2 21 1 0 [.inl (nI (PG z))] σ none σ' ∧ LN (σ' 21 0) (σ' 22 0) (σ' 23 0) 100 (G - 1) (fun k => PG (shk z k)) (cons1 (PG z) QG) ∧ ∀ a, a ≠ 21 → a ≠ 22 → a ≠ 23 → σ' a = cset (cset σ 25 0 (PG z) (-1)) 20 0 8 (σ 20 0 8 + 1) a := by
  have hg : PG z < 100 := h.2.1 z hz
  have v0 : vp_in (nI (PG z)) 100 := vp_in_nI hg (by decide)
  have k0 : (nI (PG z)).toNatClampNeg = PG z := nI_cl (by omega)
  have c3 : ¬ (1 : Int32) = 0 := by decide
  obtain ⟨σ', h1, h2, h3⟩ := T_give21 (σ := cset (cset σ 25 0 (PG z) (-1)) 20 0 8 (σ 20 0 8 + 1)) (N := G) (z := z) (P := PG) (Q := QG) (by simpa (disch := decide) only [cs_a] using h) hz
  refine ⟨σ', fun d μ r => M21 ?_, h2, h3⟩
  simp (disch := decide) only [B21_59, va_up_self, ms_up, cs_a, h12, k0, v0, c3, not_true_eq_false, not_false_eq_true, true_and, and_true, false_implies, true_implies]
  exact ⟨_, h1 d μ r, rfl⟩
