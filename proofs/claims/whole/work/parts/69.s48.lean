/-! the model copies its house -/
def wj8 (hs hd : Rg) (k : Nat) : Rg := cset (cset (cset (cset (cset (cset (cset (cset hd 67 0 k (hs 67 0 k)) 68 0 k (hs 68 0 k)) 69 0 k (hs 69 0 k)) 70 0 k (hs 70 0 k)) 71 0 k (hs 71 0 k)) 72 0 k (hs 72 0 k)) 73 0 k (hs 73 0 k)) 74 0 k (hs 74 0 k)
theorem wj8_in (hs hd : Rg) (k a i : Nat) (h1 : 67 ≤ a) (h2 : a ≤ 74) : wj8 hs hd k a 0 i = if i = k then hs a 0 k else hd a 0 i := by
  unfold wj8
  rcases (show a = 67 ∨ a = 68 ∨ a = 69 ∨ a = 70 ∨ a = 71 ∨ a = 72 ∨ a = 73 ∨ a = 74 by omega) with e | e | e | e | e | e | e | e <;> subst e <;> simp (disch := decide) only [cs_a, cs_r, up_app]
theorem wj8_out (hs hd : Rg) (k a : Nat) (h1 : ¬ (67 ≤ a ∧ a ≤ 74)) : wj8 hs hd k a = hd a := by
  unfold wj8
  simp (disch := omega) only [cs_a]
def wg5 (hs hd : Rg) (k : Nat) : Rg := cset (cset (cset (cset (cset hd 75 0 k (hs 75 0 k)) 76 0 k (hs 76 0 k)) 77 0 k (hs 77 0 k)) 78 0 k (hs 78 0 k)) 79 0 k (hs 79 0 k)
theorem wg5_in (hs hd : Rg) (k a i : Nat) (h1 : 75 ≤ a) (h2 : a ≤ 79) : wg5 hs hd k a 0 i = if i = k then hs a 0 k else hd a 0 i := by
  unfold wg5
  rcases (show a = 75 ∨ a = 76 ∨ a = 77 ∨ a = 78 ∨ a = 79 by omega) with e | e | e | e | e <;> subst e <;> simp (disch := decide) only [cs_a, cs_r, up_app]
theorem wg5_out (hs hd : Rg) (k a : Nat) (h1 : ¬ (75 ≤ a ∧ a ≤ 79)) : wg5 hs hd k a = hd a := by
  unfold wg5
  simp (disch := omega) only [cs_a]
theorem mc322 {hs : Rg} {G r0 r1 : Nat} (hr : r1 ≠ r0) (hG : hs 60 0 22 = nI G) (hb : G ≤ 100) : ∀ (q k : Nat) (hd : Rg), q + k = G → ∃ h', (∀ (d : Nat) (μ : Mem), μ r1 = hs → EvE (M d) 73 322 [some (.inr (r0, 60, 0)), some (.inr (r1, 60, 0)), some (.inl (nI k))] [] (va_up μ r0 hd) (none, va_up μ r0 h')) ∧ (∀ a, 75 ≤ a → a ≤ 79 → ∀ j, k ≤ j → j < G → h' a 0 j = hs a 0 j) ∧ (∀ a, 75 ≤ a → a ≤ 79 → ∀ j, j < k → h' a 0 j = hd a 0 j) ∧ ∀ a, ¬ (75 ≤ a ∧ a ≤ 79) → h' a = hd a := by
  intro q
  induction q with
  | zero =>
    intro k hd hk
    refine ⟨hd, fun d μ e => B73_322.mpr ⟨fun _ => rfl, fun e2 => absurd ?_ e2⟩, fun a _ _ j h1 h2 => absurd h2 (by omega), fun _ _ _ _ _ => rfl, fun _ _ => rfl⟩
    rw [va_up_ne _ _ hr, e, hG, nI_le' (by omega) (by omega)]; omega
  | succ q ih =>
    intro k hd hk
    have v0 : vp_in (nI k) 100 := vp_in_nI (by omega) (by decide)
    have k0 : (nI k).toNatClampNeg = k := nI_cl (by omega)
    obtain ⟨h', b1, b2, b3, b4⟩ := ih (k + 1) (wg5 hs hd k) (by omega)
    refine ⟨h', fun d μ e => B73_322.mpr ⟨fun e2 => absurd e2 ?_, fun _ => ⟨v0, v0, v0, v0, v0, v0, v0, v0, v0, v0, ?_⟩⟩, fun a x1 x2 j h1 h2 => ?_, fun a x1 x2 j hj => ?_, fun a ha => ?_⟩
    · rw [va_up_ne _ _ hr, e, hG, nI_le' (by omega) (by omega)]; omega
    · have e1 : va_up μ r0 hd r1 = hs := by rw [va_up_ne _ _ hr]; exact e
      simp only [k0, nI_1, e1, ms_up]
      exact b1 d μ e
    · by_cases w : j = k
      · rw [b3 a x1 x2 j (by omega), wg5_in _ _ _ _ _ x1 x2, if_pos w, w]
      · exact b2 a x1 x2 j (by omega) h2
    · rw [b3 a x1 x2 j (by omega), wg5_in _ _ _ _ _ x1 x2, if_neg (by omega)]
    · rw [b4 a ha, wg5_out _ _ _ _ ha]
theorem mc210 {hs : Rg} {N G r0 r1 : Nat} (hr : r1 ≠ r0) (hN : hs 60 0 15 = nI N) (hbN : N ≤ 120) (hG : hs 60 0 22 = nI G) (hb : G ≤ 100) : ∀ (q k : Nat) (hd : Rg), q + k = N → ∃ h', (∀ (d : Nat) (μ : Mem), μ r1 = hs → EvE (M d) 73 210 [some (.inr (r0, 60, 0)), some (.inr (r1, 60, 0)), some (.inl (nI k))] [] (va_up μ r0 hd) (none, va_up μ r0 h')) ∧ (∀ a, 67 ≤ a → a ≤ 74 → ∀ j, k ≤ j → j < N → h' a 0 j = hs a 0 j) ∧ (∀ a, 67 ≤ a → a ≤ 74 → ∀ j, j < k → h' a 0 j = hd a 0 j) ∧ (∀ a, 75 ≤ a → a ≤ 79 → ∀ j, j < G → h' a 0 j = hs a 0 j) ∧ ∀ a, ¬ (67 ≤ a ∧ a ≤ 79) → h' a = hd a := by
  intro q
  induction q with
  | zero =>
    intro k hd hk
    obtain ⟨h', b1, b2, b3, b4⟩ := mc322 hr hG hb G 0 hd (by omega)
    refine ⟨h', fun d μ e => B73_210.mpr ⟨fun _ => b1 d μ e, fun e2 => absurd ?_ e2⟩, fun a _ _ j h1 h2 => absurd h2 (by omega), fun a x1 x2 j hj => by rw [b4 a (by omega)], fun a x1 x2 j hj => b2 a x1 x2 j (by omega) hj, fun a ha => b4 a (by omega)⟩
    rw [va_up_ne _ _ hr, e, hN, nI_le' (by omega) (by omega)]; omega
  | succ q ih =>
    intro k hd hk
    have v0 : vp_in (nI k) 120 := vp_in_nI (by omega) (by decide)
    have k0 : (nI k).toNatClampNeg = k := nI_cl (by omega)
    obtain ⟨h', b1, b2, b3, b5, b4⟩ := ih (k + 1) (wj8 hs hd k) (by omega)
    refine ⟨h', fun d μ e => B73_210.mpr ⟨fun e2 => absurd e2 ?_, fun _ => ⟨v0, v0, v0, v0, v0, v0, v0, v0, v0, v0, v0, v0, v0, v0, v0, v0, ?_⟩⟩, fun a x1 x2 j h1 h2 => ?_, fun a x1 x2 j hj => ?_, b5, fun a ha => ?_⟩
    · rw [va_up_ne _ _ hr, e, hN, nI_le' (by omega) (by omega)]; omega
    · have e1 : va_up μ r0 hd r1 = hs := by rw [va_up_ne _ _ hr]; exact e
      simp only [k0, nI_1, e1, ms_up]
      exact b1 d μ e
    · by_cases w : j = k
      · rw [b3 a x1 x2 j (by omega), wj8_in _ _ _ _ _ x1 x2, if_pos w, w]
      · exact b2 a x1 x2 j (by omega) h2
    · rw [b3 a x1 x2 j (by omega), wj8_in _ _ _ _ _ x1 x2, if_neg (by omega)]
    · rw [b4 a ha, wj8_out _ _ _ _ (by omega)]
theorem mc184 {hs : Rg} {N G r0 r1 : Nat} (hr : r1 ≠ r0) (hN : hs 60 0 15 = nI N) (hbN : N ≤ 120) (hG : hs 60 0 22 = nI G) (hb : G ≤ 100) : ∀ (q k : Nat) (hd : Rg), q + k = 120 → ∃ h', (∀ (d : Nat) (μ : Mem), μ r1 = hs → EvE (M d) 73 184 [some (.inr (r0, 60, 0)), some (.inr (r1, 60, 0)), some (.inl (nI k))] [] (va_up μ r0 hd) (none, va_up μ r0 h')) ∧ (∀ j, k ≤ j → j < 120 → h' 65 0 j = hs 65 0 j) ∧ (∀ j, j < k → h' 65 0 j = hd 65 0 j) ∧ (∀ a, 67 ≤ a → a ≤ 74 → ∀ j, j < N → h' a 0 j = hs a 0 j) ∧ (∀ a, 75 ≤ a → a ≤ 79 → ∀ j, j < G → h' a 0 j = hs a 0 j) ∧ ∀ a, a ≠ 65 → ¬ (67 ≤ a ∧ a ≤ 79) → h' a = hd a := by
  intro q
  induction q with
  | zero =>
    intro k hd hk
    obtain ⟨h', b1, b2, -, b3, b4⟩ := mc210 hr hN hbN hG hb N 0 hd (by omega)
    refine ⟨h', fun d μ e => B73_184.mpr ⟨fun _ => b1 d μ e, fun e2 => absurd ?_ e2⟩, fun j h1 h2 => absurd h2 (by omega), fun j hj => by rw [b4 65 (by decide)], fun a x1 x2 j hj => b2 a x1 x2 j (by omega) hj, b3, fun a z1 zz => b4 a zz⟩
    exact (nI_leI (a := 120) (by decide) (by omega)).mpr (by omega)
  | succ q ih =>
    intro k hd hk
    have v0 : vp_in (nI k) 120 := vp_in_nI (by omega) (by decide)
    have k0 : (nI k).toNatClampNeg = k := nI_cl (by omega)
    obtain ⟨h', b1, b2, b3, b5, b6, b4⟩ := ih (k + 1) (cset hd 65 0 k (hs 65 0 k)) (by omega)
    refine ⟨h', fun d μ e => B73_184.mpr ⟨fun e2 => absurd ((nI_leI (a := 120) (by decide) (by omega)).mp e2) (by omega), fun _ => ⟨v0, v0, ?_⟩⟩, fun j h1 h2 => ?_, fun j hj => ?_, b5, b6, fun a z1  zz => ?_⟩
    · have e1 : va_up μ r0 hd r1 = hs := by rw [va_up_ne _ _ hr]; exact e
      simp only [k0, nI_1, e1, ms_up]
      exact b1 d μ e
    · by_cases w : j = k
      · rw [b3 j (by omega), w, cs_s]
      · exact b2 j (by omega) h2
    · rw [b3 j (by omega), cs_i _ _ (by omega)]
    · rw [b4 a z1  zz, cs_a _ _ z1]
theorem mc158 {hs : Rg} {N G r0 r1 : Nat} (hr : r1 ≠ r0) (hN : hs 60 0 15 = nI N) (hbN : N ≤ 120) (hG : hs 60 0 22 = nI G) (hb : G ≤ 100) : ∀ (q k : Nat) (hd : Rg), q + k = 48 → ∃ h', (∀ (d : Nat) (μ : Mem), μ r1 = hs → EvE (M d) 73 158 [some (.inr (r0, 60, 0)), some (.inr (r1, 60, 0)), some (.inl (nI k))] [] (va_up μ r0 hd) (none, va_up μ r0 h')) ∧ (∀ j, k ≤ j → j < 48 → h' 64 0 j = hs 64 0 j) ∧ (∀ j, j < k → h' 64 0 j = hd 64 0 j) ∧ (∀ j, j < 120 → h' 65 0 j = hs 65 0 j) ∧ (∀ a, 67 ≤ a → a ≤ 74 → ∀ j, j < N → h' a 0 j = hs a 0 j) ∧ (∀ a, 75 ≤ a → a ≤ 79 → ∀ j, j < G → h' a 0 j = hs a 0 j) ∧ ∀ a, a ≠ 64 → a ≠ 65 → ¬ (67 ≤ a ∧ a ≤ 79) → h' a = hd a := by
  intro q
  induction q with
  | zero =>
    intro k hd hk
    obtain ⟨h', b1, b0, -, b2, b3, b4⟩ := mc184 hr hN hbN hG hb 120 0 hd (by omega)
    refine ⟨h', fun d μ e => B73_158.mpr ⟨fun _ => b1 d μ e, fun e2 => absurd ?_ e2⟩, fun j h1 h2 => absurd h2 (by omega), fun j hj => by rw [b4 64 (by decide) (by decide)], fun j hj => b0 j (by omega) hj, b2, b3, fun a z1 y0 zz => b4 a y0 zz⟩
    exact (nI_leI (a := 48) (by decide) (by omega)).mpr (by omega)
  | succ q ih =>
    intro k hd hk
    have v0 : vp_in (nI k) 48 := vp_in_nI (by omega) (by decide)
    have k0 : (nI k).toNatClampNeg = k := nI_cl (by omega)
    obtain ⟨h', b1, b2, b3, c0, b5, b6, b4⟩ := ih (k + 1) (cset hd 64 0 k (hs 64 0 k)) (by omega)
    refine ⟨h', fun d μ e => B73_158.mpr ⟨fun e2 => absurd ((nI_leI (a := 48) (by decide) (by omega)).mp e2) (by omega), fun _ => ⟨v0, v0, ?_⟩⟩, fun j h1 h2 => ?_, fun j hj => ?_, c0, b5, b6, fun a z1 y0 zz => ?_⟩
    · have e1 : va_up μ r0 hd r1 = hs := by rw [va_up_ne _ _ hr]; exact e
      simp only [k0, nI_1, e1, ms_up]
      exact b1 d μ e
    · by_cases w : j = k
      · rw [b3 j (by omega), w, cs_s]
      · exact b2 j (by omega) h2
    · rw [b3 j (by omega), cs_i _ _ (by omega)]
    · rw [b4 a z1 y0 zz, cs_a _ _ z1]
theorem mc132 {hs : Rg} {N G r0 r1 : Nat} (hr : r1 ≠ r0) (hN : hs 60 0 15 = nI N) (hbN : N ≤ 120) (hG : hs 60 0 22 = nI G) (hb : G ≤ 100) : ∀ (q k : Nat) (hd : Rg), q + k = 78 → ∃ h', (∀ (d : Nat) (μ : Mem), μ r1 = hs → EvE (M d) 73 132 [some (.inr (r0, 60, 0)), some (.inr (r1, 60, 0)), some (.inl (nI k))] [] (va_up μ r0 hd) (none, va_up μ r0 h')) ∧ (∀ j, k ≤ j → j < 78 → h' 63 0 j = hs 63 0 j) ∧ (∀ j, j < k → h' 63 0 j = hd 63 0 j) ∧ (∀ j, j < 120 → h' 65 0 j = hs 65 0 j) ∧ (∀ j, j < 48 → h' 64 0 j = hs 64 0 j) ∧ (∀ a, 67 ≤ a → a ≤ 74 → ∀ j, j < N → h' a 0 j = hs a 0 j) ∧ (∀ a, 75 ≤ a → a ≤ 79 → ∀ j, j < G → h' a 0 j = hs a 0 j) ∧ ∀ a, a ≠ 63 → a ≠ 65 → a ≠ 64 → ¬ (67 ≤ a ∧ a ≤ 79) → h' a = hd a := by
  intro q
  induction q with
  | zero =>
    intro k hd hk
    obtain ⟨h', b1, b0, -, e0, b2, b3, b4⟩ := mc158 hr hN hbN hG hb 48 0 hd (by omega)
    refine ⟨h', fun d μ e => B73_132.mpr ⟨fun _ => b1 d μ e, fun e2 => absurd ?_ e2⟩, fun j h1 h2 => absurd h2 (by omega), fun j hj => by rw [b4 63 (by decide) (by decide) (by decide)], e0, fun j hj => b0 j (by omega) hj, b2, b3, fun a z1 y0 y1 zz => b4 a y1 y0 zz⟩
    exact (nI_leI (a := 78) (by decide) (by omega)).mpr (by omega)
  | succ q ih =>
    intro k hd hk
    have v0 : vp_in (nI k) 78 := vp_in_nI (by omega) (by decide)
    have k0 : (nI k).toNatClampNeg = k := nI_cl (by omega)
    obtain ⟨h', b1, b2, b3, c0, c1, b5, b6, b4⟩ := ih (k + 1) (cset hd 63 0 k (hs 63 0 k)) (by omega)
    refine ⟨h', fun d μ e => B73_132.mpr ⟨fun e2 => absurd ((nI_leI (a := 78) (by decide) (by omega)).mp e2) (by omega), fun _ => ⟨v0, v0, ?_⟩⟩, fun j h1 h2 => ?_, fun j hj => ?_, c0, c1, b5, b6, fun a z1 y0 y1 zz => ?_⟩
    · have e1 : va_up μ r0 hd r1 = hs := by rw [va_up_ne _ _ hr]; exact e
      simp only [k0, nI_1, e1, ms_up]
      exact b1 d μ e
    · by_cases w : j = k
      · rw [b3 j (by omega), w, cs_s]
      · exact b2 j (by omega) h2
    · rw [b3 j (by omega), cs_i _ _ (by omega)]
    · rw [b4 a z1 y0 y1 zz, cs_a _ _ z1]
theorem mc82 {hs : Rg} {N G r0 r1 : Nat} (hr : r1 ≠ r0) (hN : hs 60 0 15 = nI N) (hbN : N ≤ 120) (hG : hs 60 0 22 = nI G) (hb : G ≤ 100) : ∀ (q k : Nat) (hd : Rg), q + k = 6 → (∀ s, s < k → hd 61 0 s = hs 61 0 s ∧ hd 62 0 s = hs 62 0 s ∧ hd 66 0 s = hs 66 0 s) → ∃ h', (∀ (d : Nat) (μ : Mem), μ r1 = hs → EvE (M d) 73 82 [some (.inr (r0, 60, 0)), some (.inr (r1, 60, 0)), some (.inl (nI k))] [] (va_up μ r0 hd) (none, va_up μ r0 h')) ∧ (∀ s, s < 6 → h' 61 0 s = hs 61 0 s ∧ h' 62 0 s = hs 62 0 s ∧ h' 66 0 s = hs 66 0 s) ∧ (∀ i, i < 78 → h' 63 0 i = hs 63 0 i) ∧ (∀ i, i < 48 → h' 64 0 i = hs 64 0 i) ∧ (∀ i, i < 120 → h' 65 0 i = hs 65 0 i) ∧ (∀ a, 67 ≤ a → a ≤ 74 → ∀ j, j < N → h' a 0 j = hs a 0 j) ∧ (∀ a, 75 ≤ a → a ≤ 79 → ∀ j, j < G → h' a 0 j = hs a 0 j) ∧ h' 60 = hd 60 := by
  intro q
  induction q with
  | zero =>
    intro k hd hk hS
    obtain ⟨h', b1, b2, -, c0, c1, b5, b6, b4⟩ := mc132 hr hN hbN hG hb 78 0 hd (by omega)
    refine ⟨h', fun d μ e => B73_82.mpr ⟨fun _ => b1 d μ e, fun e2 => absurd ?_ e2⟩, fun s hs' => ?_, fun i hi => b2 i (by omega) hi, c1, c0, b5, b6, b4 60 (by decide) (by decide) (by decide) (by decide)⟩
    · exact (nI_leI (a := 6) (by decide) (by omega)).mpr (by omega)
    · rw [b4 61 (by decide) (by decide) (by decide) (by decide), b4 62 (by decide) (by decide) (by decide) (by decide), b4 66 (by decide) (by decide) (by decide) (by decide)]
      exact hS s (by omega)
  | succ q ih =>
    intro k hd hk hS
    have v0 : vp_in (nI k) 6 := vp_in_nI (by omega) (by decide)
    have k0 : (nI k).toNatClampNeg = k := nI_cl (by omega)
    obtain ⟨h', b1, b2, b3, b4, b5, b6, b7, b8⟩ := ih (k + 1) (cset (cset (cset hd 61 0 k (hs 61 0 k)) 62 0 k (hs 62 0 k)) 66 0 k (hs 66 0 k)) (by omega) (fun s hs' => by
      simp (disch := decide) only [cs_a, cs_r]
      by_cases w : s = k
      · subst w; simp only [va_up_self, and_self]
      · simp (disch := assumption) only [va_up_ne]; exact hS s (by omega))
    refine ⟨h', fun d μ e => B73_82.mpr ⟨fun e2 => absurd ((nI_leI (a := 6) (by decide) (by omega)).mp e2) (by omega), fun _ => ⟨v0, v0, v0, v0, v0, v0, ?_⟩⟩, b2, b3, b4, b5, b6, b7, by rw [b8, cs_a _ _ (by decide), cs_a _ _ (by decide), cs_a _ _ (by decide)]⟩
    have e1 : va_up μ r0 hd r1 = hs := by rw [va_up_ne _ _ hr]; exact e
    simp only [k0, nI_1, e1, ms_up]
    exact b1 d μ e
theorem T_mcopy {hs hd : Rg} {N G r0 r1 : Nat} (hr : r1 ≠ r0) (hN : hs 60 0 15 = nI N) (hbN : N ≤ 120) (hG : hs 60 0 22 = nI G) (hb : G ≤ 100) (h28 : hs 60 0 28 = 0 ∨ hs 60 0 28 = 1) : ∃ h', (∀ (d : Nat) (μ : Mem), μ r1 = hs → M (d + 1) 73 [.inr (r0, 60, 0), .inr (r1, 60, 0)] (va_up μ r0 hd) (none, va_up μ r0 h')) ∧ HE hs h' N G := by
  obtain ⟨h', b1, b2, b3, b4, b5, b6, b7, b8⟩ := mc82 hr hN hbN hG hb 6 0 (cset (cset (cset (cset (cset (cset (cset (cset (cset (cset hd 60 0 0 (hs 60 0 0)) 60 0 15 (hs 60 0 15)) 60 0 16 (hs 60 0 16)) 60 0 22 (hs 60 0 22)) 60 0 23 (hs 60 0 23)) 60 0 24 (hs 60 0 24)) 60 0 25 (hs 60 0 25)) 60 0 26 (hs 60 0 26)) 60 0 27 (hs 60 0 27)) 60 0 28 (hs 60 0 28)) (by omega) (fun s hs' => absurd hs' (by omega))
  refine ⟨h', fun d μ e => M73 ?_, ⟨fun i hi => ?_, b2, b3, b4, b5, b6, b7⟩⟩
  · have e1 : va_up μ r0 hd r1 = hs := by rw [va_up_ne _ _ hr]; exact e
    simp only [e1, ms_up]
    exact ⟨h28, b1 d μ e⟩
  · rw [b8]
    rcases (show i = 0 ∨ i = 15 ∨ i = 16 ∨ i = 22 ∨ i = 23 ∨ i = 24 ∨ i = 25 ∨ i = 26 ∨ i = 27 ∨ i = 28 by omega) with e | e | e | e | e | e | e | e | e | e <;> subst e <;> simp (disch := decide) only [cs_i, cs_s]
