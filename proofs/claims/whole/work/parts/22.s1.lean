/-! a job is over: both sides up to the answer -/
def mKp (m h : Rg) (s q : Nat) (g : Int32) : Rg :=
  let h1 := cset h 63 0 (13 * s + (6 + (if g = 0 then 3 else 2))) (h 63 0 (13 * s + (6 + (if g = 0 then 3 else 2))) + 1)
  if g = 0 ∨ m 41 0 (9 * s + 3) ≤ 0 then h1 else cset h1 64 0 (8 * s + q) (h 60 0 0 + m 41 0 (9 * s + 3))
def mNo (h : Rg) (s : Nat) : Rg := cset (cset h 63 0 (13 * s + (6 + 5)) (h 63 0 (13 * s + (6 + 5)) + 1)) 60 0 27 (h 60 0 27 + 1)
theorem T_over {m h : Rg} {N z s q : Nat} {n g : Int32} (hN : h 60 0 15 = nI N) (hb : N ≤ 120) (hz : z < N) (hn : h 67 0 z = n) (hu : ∀ i, i < z → ¬ h 67 0 i = n) (hs : s < 6) (hq : q < 8) (h68 : h 68 0 z = nI s) (h69 : h 69 0 z = nI q) (hg : g = 0 ∨ g = 1) :
    ∃ h3, (∀ a, 67 ≤ a → a ≤ 74 → ∀ k, k < N - 1 → h3 a 0 k = h a 0 (shk z k)) ∧ (∀ a, ¬ (67 ≤ a ∧ a ≤ 74) → h3 a = cset (mKp m h s q g) 60 0 15 (nI (N - 1)) a) ∧
      ∀ (k : Nat) (v2 : Int32) (h4 : Rg), MX k 94 [.inl n, .inl (h 71 0 z), .inl g] m h3 (some v2) m h4 → (¬ v2 = 0 → MX (k + 3) 97 [.inl n, .inl g] m h none m h4) ∧ (v2 = 0 → MX (k + 3) 97 [.inl n, .inl g] m h none m (mNo h4 s)) := by
  have v0 : vp_in (nI z) 120 := vp_in_nI (by omega) (by decide)
  have k0 : (nI z).toNatClampNeg = z := nI_cl (by omega)
  have e8 : (8 : Int32) * nI s + nI q = nI (8 * s + q) := ix_lin 8 rfl rfl
  have v8 : vp_in (nI (8 * s + q)) 48 := vp_in_nI (by omega) (by decide)
  have k8 : (nI (8 * s + q)).toNatClampNeg = 8 * s + q := nI_cl (by omega)
  have kf : ∀ a, a ≠ 63 → a ≠ 64 → mKp m h s q g a = h a := by
    intro a a1 a2
    unfold mKp
    split <;> simp (disch := assumption) only [cs_a]
  obtain ⟨h3, t1, t2, t3⟩ := T_takeOut (m := m) (h := mKp m h s q g) (N := N) (z := z) (n := n) (by rw [kf _ (by decide) (by decide)]; exact hN) hb hz (by rw [kf _ (by decide) (by decide)]; exact hn) (by rw [kf _ (by decide) (by decide)]; exact hu)
  refine ⟨h3, fun a a1 a2 k hk => by rw [t2 a a1 a2 k hk, kf a (by omega) (by omega)], t3, ?_⟩
  intro k v2 h4 htell
  have tail : ∀ (d : Nat) (μ : Mem) (res : Res), ((¬ v2 = 0 → res = (none, mm μ m h4)) ∧ (v2 = 0 → res = (none, mm μ m (mNo h4 s)))) → EvE (M (d + (k + 2))) 97 97 [some (.inr (3, 40, 0)), some (.inl n), some (.inl g), some (.inl (nI z)), some (.inl (nI s)), some (.inl (h 71 0 z))] [] (mm μ m (mKp m h s q g)) res := by
    intro d μ res hres
    refine B97_97.mpr ⟨_, t1 (d + k) μ, v2, _, (htell.mono (Nat.le_add_right k 2)) d μ, ?_, ?_⟩
    · intro e
      exact B97_134.mpr (hres.1 e)
    · intro e
      have e' : v2 = 0 := Classical.not_not.mp e
      refine ⟨_, T_madd (s := s) (t := 11) hs (by decide) rfl (d + (k + 1)) μ, B97_134.mpr ?_⟩
      rw [hres.2 e']
      simp (disch := decide) only [Nat.reduceAdd, mm4, ms4, cs_a]
      rfl
  have main : ∀ (d : Nat) (μ : Mem) (res : Res), ((¬ v2 = 0 → res = (none, mm μ m h4)) ∧ (v2 = 0 → res = (none, mm μ m (mNo h4 s)))) → M (d + (k + 3)) 97 (.inr (3, 40, 0) :: [.inl n, .inl g]) (mm μ m h) res := by
    intro d μ res hres
    have tl := tail d μ res hres
    refine M97 ⟨nI z, _, T_placeOf hN hb hz hn hu (d + (k + 1)) μ, v0, v0, ?_⟩
    simp only [Nat.reduceAdd, mm4, k0, h68]
    rcases hg with rfl | rfl
    · refine ⟨fun _ => B97_42.mpr ⟨_, T_madd (s := s) (t := 9) hs (by decide) rfl (d + (k + 1)) μ, fun _ => tl, fun e => absurd rfl e⟩, fun e => absurd rfl e⟩
    · have g1 : ¬ (1 : Int32) = 0 := by decide
      refine ⟨fun e => absurd e g1, fun _ => B97_42.mpr ⟨_, T_madd (s := s) (t := 8) hs (by decide) rfl (d + (k + 1)) μ, fun e => absurd e g1, fun _ => ⟨_, _, T_ruled (j := 3) hs (by decide) rfl (d + (k + 1)) μ, ?_, ?_⟩⟩⟩
      · intro e
        unfold mKp at tl
        simp only [g1, e, false_or, if_true, if_false] at tl
        exact tl
      · intro e
        unfold mKp at tl
        simp only [g1, e, false_or, if_false, or_self] at tl
        refine ⟨v0, _, _, T_ruled (j := 3) hs (by decide) rfl (d + (k + 1)) μ, ?_⟩
        simp (disch := decide) only [Nat.reduceAdd, mm4, ms4, k0, cs_a, h69, e8, v8, k8, true_and]
        exact tl
  exact ⟨fun e d μ => main d μ _ ⟨fun _ => rfl, fun e' => absurd e' e⟩, fun e d μ => main d μ _ ⟨fun e' => absurd e e', fun _ => rfl⟩⟩
