/-! the ticks of a trial -/
def JS (ns pd T : Nat) (σ m h : Rg) : Prop := ∃ N G nn gc P Q PG QG, R σ m h ns N G nn gc P Q PG QG 1000 1000 ∧ σ 1 0 11 = -1 ∧ h 60 0 0 = nI T ∧ TM σ m (T + 1) ∧ ¬ m 40 0 14 = 0 ∧ US σ m pd ∧ nn ≤ 1700 * T ∧ gc ≤ 1700 * T
theorem JS.step {ns pd T : Nat} {σ m h : Rg} (hJ : JS ns pd T σ m h) (hns : 0 < ns) (hT : T ≤ 150000) : ∃ σ' m' h', CX 9 3 1 0 [] σ none σ' ∧ MX 63 112 [] m h none m' h' ∧ StepM m m' ∧ JS ns pd (T + 1) σ' m' h' := by
  obtain ⟨N, G, nn, gc, P, Q, PG, QG, hR, h11, h0, hTM, h14, hU, hnn, hgc⟩ := hJ
  obtain ⟨σ1, m1, h1, N1, G1, P1, Q1, PG1, QG1, nn1, gc1, a1, a2, a3, a4, a5, a6, a7, a8, a9, a10⟩ := SIM_step hR hns h11 h0 (by omega) hTM hU (by omega) (by omega)
  exact ⟨σ1, m1, h1, a1, a2, a3, N1, G1, nn1, gc1, P1, Q1, PG1, QG1, a6, a9, a10, a4 _, by rw [a3.2.1 14 (by decide) (by decide) (by decide)]; exact h14, a5, by omega, by omega⟩
theorem JS.fl {ns pd T : Nat} {σ m h : Rg} (hJ : JS ns pd T σ m h) : σ 1 0 3 = h 60 0 28 ∧ σ 20 0 9 = h 60 0 25 ∧ σ 1 0 4 = h 60 0 27 := by
  obtain ⟨N, G, nn, gc, P, Q, PG, QG, hR, h11, h0, hTM, h14, hU, hnn, hgc⟩ := hJ
  obtain ⟨c1, c2, c3, c4, c5, c6, c7, c8, c9, c10, c11, c12, c13⟩ := hR.2.2.2.2.2.2.2.2.2.1
  exact ⟨c7.1, c10, c8⟩
theorem JS.k11 {ns pd T : Nat} {σ m h : Rg} (hJ : JS ns pd T σ m h) : σ 1 0 11 = -1 := by
  obtain ⟨N, G, nn, gc, P, Q, PG, QG, hR, h11, -⟩ := hJ
  exact h11
abbrev L122 (x1 x2 : Int32) (n : Nat) (te st f k : Int32) : Lc := [some (.inr (3, 40, 0)), some (.inl x1), some (.inl x2), some (.inl (nI n)), some (.inl te), some (.inl st), some (.inl f), some (.inl k)]
theorem g122 {m h m1 h1 : Rg} {n k : Nat} {te f f1 w x1 x2 st : Int32} (hx : MX 63 112 [] m h none m1 h1) (hk : k ≤ n) (hn : n ≤ 400) (hgo : ¬ te = 0 ∨ ¬ 0 ≤ f) (hw : w = if h1 60 0 28 = 0 then 0 else st + 1) (hf : (0 ≤ f ∧ f1 = f) ∨ (¬ 0 ≤ f ∧ ¬ w = 24 ∧ f1 = f) ∨ (¬ 0 ≤ f ∧ w = 24 ∧ f1 = nI k - 24 + 1)) (d : Nat) (μ : Mem) (res : Res) (H : EvE (M (d + 63)) 122 36 (L122 x1 x2 n te w f1 (nI (k + 1))) [] (mm μ m1 h1) res) : EvE (M (d + 63)) 122 36 (L122 x1 x2 n te st f (nI k)) [] (mm μ m h) res := by
  have Y : EvE (M (d + 63)) 122 74 (L122 x1 x2 n te st f (nI k)) [.inl w] (mm μ m1 h1) res := by
    refine B122_74.mpr ?_
    rcases hf with ⟨e1, rfl⟩ | ⟨e1, e2, rfl⟩ | ⟨e1, e2, rfl⟩
    · exact ⟨fun _ => B122_98.mpr (B122_100.mpr (by rw [nI_1]; exact H)), fun e => absurd e1 e⟩
    · exact ⟨fun e => absurd e e1, fun _ => ⟨fun _ => B122_98.mpr (B122_100.mpr (by rw [nI_1]; exact H)), fun e => absurd e2 e⟩⟩
    · exact ⟨fun e => absurd e e1, fun _ => ⟨fun e => absurd e2 e, fun _ => B122_100.mpr (by rw [nI_1]; exact H)⟩⟩
  have X : EvE (M (d + 63)) 122 52 (L122 x1 x2 n te st f (nI k)) [] (mm μ m h) res := by
    refine B122_52.mpr ⟨_, hx d μ, ?_⟩
    simp only [Nat.reduceAdd, mm4]
    by_cases e : h1 60 0 28 = 0
    · rw [if_pos e] at hw
      rw [hw] at Y
      exact ⟨fun _ => Y, fun e2 => absurd e e2⟩
    · rw [if_neg e] at hw
      rw [hw] at Y
      exact ⟨fun e2 => absurd e2 e, fun _ => Y⟩
  refine B122_36.mpr ⟨fun e => absurd ((nI_ltI (by omega) (by omega)).mp e) (by omega), fun _ => ⟨fun _ => X, fun e => ⟨fun e2 => ?_, fun _ => X⟩⟩⟩
  rcases hgo with q | q
  · exact absurd q e
  · exact absurd e2 q
abbrev L65 (n : Nat) (te f st k : Int32) (u : Option AV) : Lc := [some (.inr (0, 0, 0)), some (.inl (nI n)), some (.inl te), some (.inl f), some (.inl st), some (.inl k), u]
theorem g65 {σ σ1 : Rg} {n k : Nat} {te f w st : Int32} (hx : CX 9 3 1 0 [] σ none σ1) (hk : k ≤ n) (hn : n ≤ 400) (hw : w = if σ1 1 0 3 = 0 then 0 else st + 1) (d : Nat) (μ : Mem) (u : Option AV) (res : Res) (H : EvE (M (d + 9)) 65 40 (L65 n te f st (nI k) u) [.inl w] (va_up μ 2 σ1) res) : EvE (M (d + 9)) 65 9 (L65 n te f st (nI k) u) [] (va_up μ 2 σ) res := by
  refine B65_9.mpr ⟨fun e => absurd ((nI_ltI (by omega) (by omega)).mp e) (by omega), fun _ => ⟨_, hx d μ 2, ?_⟩⟩
  simp only [Nat.reduceAdd, va_up_self]
  by_cases e : σ1 1 0 3 = 0
  · rw [if_pos e] at hw
    rw [hw] at H
    exact ⟨fun _ => H, fun e2 => absurd e e2⟩
  · rw [if_neg e] at hw
    rw [hw] at H
    exact ⟨fun e2 => absurd e2 e, fun _ => H⟩
theorem mgo {ns pd n : Nat} {te x1 x2 : Int32} (hns : 0 < ns) (hn : n ≤ 400) : ∀ (q k st T : Nat) (σ m h : Rg), k + q = n + 1 → st + q < 24 → T + q ≤ 150000 → JS ns pd T σ m h → ∃ m' h' st' k', StepM m m' ∧ ∀ (d : Nat) (μ : Mem) (res : Res), EvE (M (d + 63)) 122 108 (L122 x1 x2 n te st' (-4) k') [] (mm μ m' h') res → EvE (M (d + 63)) 122 36 (L122 x1 x2 n te (nI st) (-4) (nI k)) [] (mm μ m h) res := by
  intro q
  induction q with
  | zero =>
    intro k st T σ m h hk hs hT hJ
    refine ⟨m, h, nI st, nI k, StepM.refl, fun d μ res H => B122_36.mpr ⟨fun _ => H, fun e => absurd ?_ e⟩⟩
    exact nI_lt (by omega) (by omega)
  | succ q ih =>
    intro k st T σ m h hk hs hT hJ
    obtain ⟨σ1, m1, h1, a1, a2, a3, a4⟩ := hJ.step hns (by omega)
    by_cases e : h1 60 0 28 = 0
    · obtain ⟨m', h', st', k', b1, b2⟩ := ih (k + 1) 0 (T + 1) σ1 m1 h1 (by omega) (by omega) (by omega) a4
      exact ⟨m', h', st', k', a3.trans b1, fun d μ res H => g122 a2 (by omega) hn (Or.inr (by decide)) (w := nI 0) (by rw [if_pos e]; rfl) (Or.inr (Or.inl ⟨by decide, by decide, rfl⟩)) d μ res (b2 d μ res H)⟩
    · obtain ⟨m', h', st', k', b1, b2⟩ := ih (k + 1) (st + 1) (T + 1) σ1 m1 h1 (by omega) (by omega) (by omega) a4
      exact ⟨m', h', st', k', a3.trans b1, fun d μ res H => g122 a2 (by omega) hn (Or.inr (by decide)) (w := nI (st + 1)) (by rw [if_neg e, nI_1]) (Or.inr (Or.inl ⟨by decide, fun e2 => absurd (nI_inj (b := 24) (by omega) (by decide) e2) (by omega), rfl⟩)) d μ res (b2 d μ res H)⟩
theorem nI_plus (a b : Nat) : nI a + nI b = nI (a + b) := by
  have := ix_lin (c := 1) (s := a) (t := b) (x := nI b) 1 rfl rfl
  rw [Nat.one_mul, Int32.one_mul] at this; exact this
theorem trial {ns pd n : Nat} {te x1 x2 : Int32} (hns : 0 < ns) (hn : n ≤ 400) (hte : te = 0 ∨ te = 1) : ∀ (q k st T : Nat) (f : Int32) (σ m h : Rg), k + q = n + 1 → T + q ≤ 150000 → JS ns pd T σ m h → ((f = -4 ∧ st < 24 ∧ st + 1 ≤ k) ∨ (te = 1 ∧ ∃ f0, 1 ≤ f0 ∧ f0 ≤ 400 ∧ f = nI f0)) →
    ∃ v σ' m' h' st' k', (∀ (d : Nat) (μ : Mem) (u : Option AV), EvE (M (d + 9)) 65 9 (L65 n te f (nI st) (nI k) u) [] (va_up μ 2 σ) (some v, va_up μ 2 σ')) ∧ (∀ (d : Nat) (μ : Mem) (res : Res), EvE (M (d + 63)) 122 108 (L122 x1 x2 n te st' v k') [] (mm μ m' h') res → EvE (M (d + 63)) 122 36 (L122 x1 x2 n te (nI st) f (nI k)) [] (mm μ m h) res) ∧ StepM m m' ∧ σ' 1 0 11 = -1 ∧ (v = -4 ∨ ∃ f0, 1 ≤ f0 ∧ f0 ≤ 400 ∧ v = nI f0) ∧ (te = 1 → ¬ v = -4 → σ' 20 0 9 = h' 60 0 25 ∧ σ' 1 0 4 = h' 60 0 27) := by
  intro q
  induction q with
  | zero =>
    intro k st T f σ m h hk hT hJ hf
    have lt : nI n < nI k := nI_lt (by omega) (by omega)
    refine ⟨f, σ, m, h, nI st, nI k, fun d μ u => B65_9.mpr ⟨fun _ => rfl, fun e => absurd lt e⟩, fun d μ res H => B122_36.mpr ⟨fun _ => H, fun e => absurd lt e⟩, StepM.refl, hJ.k11, ?_, fun _ _ => hJ.fl.2⟩
    rcases hf with ⟨e, -, -⟩ | ⟨-, f0, e1, e2, e3⟩
    · exact Or.inl e
    · exact Or.inr ⟨f0, e1, e2, e3⟩
  | succ q ih =>
    intro k st T f σ m h hk hT hJ hf
    obtain ⟨σ1, m1, h1, a1, a2, a3, a4⟩ := hJ.step hns (by omega)
    have fl := a4.fl.1
    -- the new count
    obtain ⟨s1, w1, w2, w3⟩ : ∃ s1, (nI s1 = if h1 60 0 28 = 0 then 0 else nI st + 1) ∧ (nI s1 = if σ1 1 0 3 = 0 then 0 else nI st + 1) ∧ s1 ≤ st + 1 := by
      by_cases e : h1 60 0 28 = 0
      · exact ⟨0, by rw [if_pos e]; rfl, by rw [fl, if_pos e]; rfl, by omega⟩
      · exact ⟨st + 1, by rw [if_neg e, nI_1], by rw [fl, if_neg e, nI_1], by omega⟩
    rcases hf with ⟨rfl, f1, f2⟩ | ⟨rfl, f0, f1, f2, rfl⟩
    · by_cases e24 : s1 = 24
      · -- found in this tick
        have ef : nI k - 24 + 1 = nI (k - 23) := by
          have := nI_subc (k - 24) 24
          rw [show k - 24 + 24 = k by omega] at this
          have h2 : nI k - 24 = nI (k - 24) := this
          rw [h2, nI_1]; congr 1; omega
        have nf : ¬ nI (k - 23) = -4 := nI_neg (by omega) (by decide)
        have pf : 0 ≤ nI (k - 23) := Int32.not_lt.mp (nI_pos (by omega))
        have w24 : nI s1 = 24 := by rw [e24]; rfl
        rcases hte with rfl | rfl
        · refine ⟨nI (k - 23), σ1, m1, h1, nI s1, nI (k + 1), fun d μ u => g65 a1 (by omega) hn w2 d μ u _ (B65_40.mpr ⟨fun e => absurd rfl e, fun _ => ⟨fun e => absurd e (by rw [w24]; decide), fun _ => ?_⟩⟩), fun d μ res H => g122 a2 (by omega) hn (Or.inr (by decide)) w1 (Or.inr (Or.inr ⟨by decide, w24, ef.symm⟩)) d μ res (B122_36.mpr ⟨fun _ => H, fun _ => ⟨fun e => absurd rfl e, fun _ => ⟨fun _ => H, fun e => absurd pf e⟩⟩⟩), a3, a4.k11, Or.inr ⟨k - 23, by omega, by omega, rfl⟩, fun e => absurd e (by decide)⟩
          rw [ef]
          exact B65_63.mpr ⟨fun _ => B65_85.mpr (B65_86.mpr ⟨fun e => absurd rfl e, fun _ => ⟨fun e => absurd e nf, fun _ => ⟨fun e => absurd rfl e, fun _ => B65_103.mpr rfl⟩⟩⟩), fun e => absurd nf e⟩
        · obtain ⟨v, σ', m', h', st', k', b1, b2, b3, b4, b5, b6⟩ := ih (k + 1) s1 (T + 1) (nI (k - 23)) σ1 m1 h1 (by omega) (by omega) a4 (Or.inr ⟨rfl, k - 23, by omega, by omega, rfl⟩)
          refine ⟨v, σ', m', h', st', k', fun d μ u => g65 a1 (by omega) hn w2 d μ u _ (B65_40.mpr ⟨fun e => absurd rfl e, fun _ => ⟨fun e => absurd e (by rw [w24]; decide), fun _ => ?_⟩⟩), fun d μ res H => g122 a2 (by omega) hn (Or.inr (by decide)) w1 (Or.inr (Or.inr ⟨by decide, w24, ef.symm⟩)) d μ res (b2 d μ res H), a3.trans b3, b4, b5, b6⟩
          rw [ef]
          exact B65_63.mpr ⟨fun _ => B65_85.mpr (B65_86.mpr ⟨fun e => absurd rfl e, fun _ => ⟨fun e => absurd e nf, fun _ => ⟨fun _ => B65_105.mpr (by rw [nI_1]; exact b1 d μ _), fun e => absurd (by decide) e⟩⟩⟩), fun e => absurd nf e⟩
      · have l24 : nI s1 < 24 := nI_lt (b := 24) (by omega) (by decide)
        have n24 : ¬ nI s1 = 24 := fun e => absurd (nI_inj (b := 24) (by omega) (by decide) e) e24
        have es : nI s1 + nI n - nI k = nI (s1 + q) := by
          rw [nI_plus, show s1 + n = s1 + q + k by omega, nI_subc]
        by_cases el : 24 ≤ s1 + q
        · have el' : (24 : Int32) ≤ nI (s1 + q) := (nI_leI (a := 24) (by decide) (by omega)).mpr el
          obtain ⟨v, σ', m', h', st', k', b1, b2, b3, b4, b5, b6⟩ := ih (k + 1) s1 (T + 1) (-4) σ1 m1 h1 (by omega) (by omega) a4 (Or.inl ⟨rfl, by omega, by omega⟩)
          refine ⟨v, σ', m', h', st', k', fun d μ u => g65 a1 (by omega) hn w2 d μ u _ (B65_40.mpr ⟨fun e => absurd rfl e, fun _ => ⟨fun _ => B65_63.mpr ⟨fun e => absurd rfl e, fun _ => ⟨fun _ => B65_85.mpr (B65_86.mpr ⟨fun e => absurd rfl e, fun _ => ⟨fun _ => B65_105.mpr (by rw [nI_1]; exact b1 d μ _), fun e => absurd rfl e⟩⟩), fun e => absurd (by rw [es]; exact el') e⟩⟩, fun e => absurd l24 e⟩⟩), fun d μ res H => g122 a2 (by omega) hn (Or.inr (by decide)) w1 (Or.inr (Or.inl ⟨by decide, n24, rfl⟩)) d μ res (b2 d μ res H), a3.trans b3, b4, b5, b6⟩
        · have el' : ¬ (24 : Int32) ≤ nI (s1 + q) := fun e => el ((nI_leI (a := 24) (by decide) (by omega)).mp e)
          obtain ⟨m', h', st', k', b1, b2⟩ := mgo (te := te) (x1 := x1) (x2 := x2) hns hn q (k + 1) s1 (T + 1) σ1 m1 h1 (by omega) (by omega) (by omega) a4
          refine ⟨-4, σ1, m', h', st', k', fun d μ u => g65 a1 (by omega) hn w2 d μ u _ (B65_40.mpr ⟨fun e => absurd rfl e, fun _ => ⟨fun _ => B65_63.mpr ⟨fun e => absurd rfl e, fun _ => ⟨fun e => absurd (by rw [es] at e; exact e) el', fun _ => B65_86.mpr ⟨fun _ => B65_103.mpr rfl, fun e => absurd (by decide) e⟩⟩⟩, fun e => absurd l24 e⟩⟩), fun d μ res H => g122 a2 (by omega) hn (Or.inr (by decide)) w1 (Or.inr (Or.inl ⟨by decide, n24, rfl⟩)) d μ res (b2 d μ res H), a3.trans b1, a4.k11, Or.inl rfl, fun _ e => absurd rfl e⟩
    · have nf : ¬ nI f0 = -4 := nI_neg (by omega) (by decide)
      have pf : 0 ≤ nI f0 := Int32.not_lt.mp (nI_pos (by omega))
      obtain ⟨v, σ', m', h', st', k', b1, b2, b3, b4, b5, b6⟩ := ih (k + 1) s1 (T + 1) (nI f0) σ1 m1 h1 (by omega) (by omega) a4 (Or.inr ⟨rfl, f0, f1, f2, rfl⟩)
      exact ⟨v, σ', m', h', st', k', fun d μ u => g65 a1 (by omega) hn w2 d μ u _ (B65_40.mpr ⟨fun _ => B65_63.mpr ⟨fun _ => B65_85.mpr (B65_86.mpr ⟨fun e => absurd rfl e, fun _ => ⟨fun e => absurd e nf, fun _ => ⟨fun _ => B65_105.mpr (by rw [nI_1]; exact b1 d μ _), fun e => absurd (by decide) e⟩⟩⟩), fun e => absurd nf e⟩, fun e => absurd nf e⟩), fun d μ res H => g122 a2 (by omega) hn (Or.inl (by decide)) w1 (Or.inl ⟨pf, rfl⟩) d μ res (b2 d μ res H), a3.trans b3, b4, b5, b6⟩
