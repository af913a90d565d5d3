/-! the usual crowd's place; the model's loops over guests -/
theorem nI_tn {n : Nat} (h : n < 4294967296) : (nI n).toBitVec.toNat = n := by
  show (BitVec.ofNat 32 n).toNat = n
  rw [BitVec.toNat_ofNat]; exact Nat.mod_eq_of_lt h
theorem nI_ext {x : Int32} {n : Nat} (hn : n < 4294967296) (h : x.toBitVec.toNat = n) : x = nI n := by
  apply Int32.toBitVec_inj.mp
  apply BitVec.eq_of_toNat_eq
  rw [h, nI_tn hn]
theorem nI_xor {t p : Nat} (ht : t < 2147483648) (hp : p < 2147483648) : nI t ^^^ nI p = nI (t ^^^ p) := by
  have hx : t ^^^ p < 2 ^ 31 := Nat.xor_lt_two_pow ht hp
  refine nI_ext (by omega) ?_
  rw [Int32.toBitVec_xor, BitVec.toNat_xor, nI_tn (by omega), nI_tn (by omega)]
theorem nI_msb {n : Nat} (h : n < 2147483648) : (nI n).toBitVec.msb = false := by
  rw [BitVec.msb_eq_decide, nI_tn (by omega)]
  exact decide_eq_false (by omega)
theorem nI_div {t p : Nat} (ht : t < 2147483648) (hp : p < 2147483648) : nI t / nI p = nI (t / p) := by
  have hd : t / p ≤ t := Nat.div_le_self t p
  refine nI_ext (by omega) ?_
  rw [Int32.toBitVec_div, BitVec.sdiv_eq, nI_msb ht, nI_msb hp]
  show ((nI t).toBitVec / (nI p).toBitVec).toNat = t / p
  rw [BitVec.toNat_udiv, nI_tn (by omega), nI_tn (by omega)]
theorem nI_mod {t p : Nat} (ht : t < 2147483648) (hp : p < 2147483648) : nI t - nI t / nI p * nI p = nI (t % p) := by
  rw [nI_div ht hp]
  have hm : t % p ≤ t := Nat.mod_le t p
  have e1 : nI (t / p) * nI p = nI (t / p * p) := by
    have := ix_lin (c := t / p) (s := p) (t := 0) (x := 0) (nI (t / p)) rfl rfl
    rw [Int32.add_zero] at this
    exact this
  rw [e1]
  have e2 : nI t = nI (t / p * p) + nI (t % p) := by
    have := ix_lin (c := 1) (s := t / p * p) (t := t % p) (x := nI (t % p)) 1 rfl rfl
    rw [Nat.one_mul, Nat.div_add_mod' t p] at this
    rw [← this]
    have : (1 : Int32) * nI (t / p * p) = nI (t / p * p) := Int32.one_mul _
    rw [this]
  rw [e2, Int32.add_comm, Int32.add_sub_cancel]
theorem T_usual {σ : Rg} {t p : Nat} (ht : t ≤ 200000) (hp : p ≤ 12) (h2 : σ 32 0 2 = nI p) : CX 2 35 32 0 [.inl (nI t)] σ (some (nI (if p = 0 then 0 else t % p))) σ := fun d μ r => M35 (by
  simp only [va_up_self, h2, B35_19]
  by_cases e : p = 0
  · subst e
    exact ⟨fun _ => rfl, fun e => absurd (by decide) e⟩
  · have c0 : ¬ nI p ≤ 0 := nI_ge (a := 0) (by omega) (by omega)
    have c1 : ¬ nI p = 0 := fun q => e (nI_inj (b := 0) (by omega) (by decide) q)
    have hx : t ^^^ p < 2 ^ 31 := Nat.xor_lt_two_pow (by omega) (by omega)
    have c2 : 0 ≤ nI t ^^^ nI p := by rw [nI_xor (by omega) (by omega)]; exact nI_pos' (by omega)
    refine ⟨fun q => absurd q c0, fun _ => ⟨_, _, M127 ⟨c1, fun _ => B127_18.mpr rfl, fun q => absurd c2 q⟩, ?_⟩⟩
    rw [nI_mod (by omega) (by omega), if_neg e])
theorem G69 {m : Rg} {q i l many : Nat} (hi : i < 40) (hm : many ≤ 100) (h45 : m 45 0 i = nI many) (h44 : m 44 0 i = nI q) : ∀ (n x3 : Nat) (h h' : Rg), x3 + n = many → MGn q m n h h' → ∀ (d : Nat) (μ : Mem) (res : Res), EvE (M (d + 8)) 111 137 [some (.inr (3, 40, 0)), some (.inl (nI l)), some (.inl (nI i)), some (.inl (nI many))] [] (mm μ m h') res → EvE (M (d + 8)) 111 69 [some (.inr (3, 40, 0)), some (.inl (nI l)), some (.inl (nI i)), some (.inl (nI x3))] [] (mm μ m h) res := by
  have v0 : vp_in (nI i) 40 := vp_in_nI hi (by decide)
  have k0 : (nI i).toNatClampNeg = i := nI_cl (by omega)
  intro n
  induction n with
  | zero =>
    intro x3 h h' hx hG d μ res H
    have : h' = h := hG
    subst this
    have : x3 = many := by omega
    subst this
    rw [B111_69]
    simp (disch := omega) only [mm3, k0, h45, nI_le']
    exact ⟨v0, fun _ => H, fun e => absurd (Nat.le_refl _) e⟩
  | succ n ih =>
    intro x3 h h' hx hG d μ res H
    obtain ⟨h1, g1, -, g2⟩ := hG
    rw [B111_69]
    simp (disch := omega) only [mm3, k0, h45, h44, nI_le', nI_1]
    exact ⟨v0, fun e => absurd e (by omega), fun _ => ⟨v0, _, g1 d μ, ih (x3 + 1) h1 h' (by omega) g2 d μ res H⟩⟩
theorem G9 {m : Rg} {q many : Nat} (hm : many ≤ 100) (h16 : m 40 0 16 = nI many) (h15 : 0 < many → m 40 0 15 = nI q) : ∀ (n x1 : Nat) (h h' : Rg), x1 + n = many → MGn q m n h h' → ∀ (d : Nat) (μ : Mem) (res : Res) (u2 u3 : Option AV), EvE (M (d + 8)) 111 148 [some (.inr (3, 40, 0)), some (.inl (nI many)), u2, u3] [] (mm μ (cset m 40 0 16 0) h') res → EvE (M (d + 8)) 111 9 [some (.inr (3, 40, 0)), some (.inl (nI x1)), u2, u3] [] (mm μ m h) res := by
  intro n
  induction n with
  | zero =>
    intro x1 h h' hx hG d μ res u2 u3 H
    have : h' = h := hG
    subst this
    have : x1 = many := by omega
    subst this
    rw [B111_9]
    simp (disch := omega) only [mm3, ms3, h16, nI_le']
    exact ⟨fun _ => H, fun e => absurd (Nat.le_refl _) e⟩
  | succ n ih =>
    intro x1 h h' hx hG d μ res u2 u3 H
    obtain ⟨h1, g1, -, g2⟩ := hG
    rw [B111_9]
    simp (disch := omega) only [mm3, ms3, h16, h15 (by omega), nI_le', nI_1]
    exact ⟨fun e => absurd e (by omega), fun _ => ⟨_, g1 d μ, ih (x1 + 1) h1 h' (by omega) g2 d μ res u2 u3 H⟩⟩
theorem G150 {m : Rg} {q many t p : Nat} (ht : t ≤ 200000) (hp0 : 0 < p) (hp : p ≤ 12) (h9 : m 40 0 9 = nI p) (hm : many ≤ 100) (h47 : m 47 0 (t % p) = nI many) (h46 : 0 < many → m 46 0 (t % p) = nI q) : ∀ (n x1 : Nat) (h h' : Rg), x1 + n = many → h 60 0 0 = nI t → MGn q m n h h' → ∀ (d : Nat) (μ : Mem) (u2 u3 : Option AV), EvE (M (d + 8)) 111 150 [some (.inr (3, 40, 0)), some (.inl (nI x1)), u2, u3] [] (mm μ m h) (none, mm μ m h') := by
  have hlt : t % p < p := Nat.mod_lt t hp0
  have v0 : vp_in (nI (t % p)) 12 := vp_in_nI (by omega) (by decide)
  have k0 : (nI (t % p)).toNatClampNeg = t % p := nI_cl (by omega)
  have c0 : ¬ nI p ≤ 0 := nI_ge (a := 0) (by omega) (by omega)
  have c1 : ¬ nI p = 0 := fun q => absurd (nI_inj (b := 0) (by omega) (by decide) q) (by omega)
  intro n
  induction n with
  | zero =>
    intro x1 h h' hx h0 hG d μ u2 u3
    have : h' = h := hG
    subst this
    have : x1 = many := by omega
    subst this
    rw [B111_150]
    simp (disch := omega) only [Nat.reduceAdd, mm3, mm4, h9, h0, nI_mod, k0, h47, nI_le', B111_205]
    exact ⟨fun e => absurd e c0, fun _ => ⟨c1, v0, fun _ => True.intro, fun e => absurd (Nat.le_refl _) e⟩⟩
  | succ n ih =>
    intro x1 h h' hx h0 hG d μ u2 u3
    obtain ⟨h1, g1, g3, g2⟩ := hG
    rw [B111_150]
    simp (disch := omega) only [Nat.reduceAdd, mm3, mm4, h9, h0, nI_mod, k0, h47, h46 (by omega), nI_le', B111_205, nI_1]
    exact ⟨fun e => absurd e c0, fun _ => ⟨c1, v0, fun e => absurd e (by omega), fun _ => ⟨c1, v0, _, g1 d μ, ih (x1 + 1) h1 h' (by omega) (g3.trans h0) g2 d μ u2 u3⟩⟩⟩
