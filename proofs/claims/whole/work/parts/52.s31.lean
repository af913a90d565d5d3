/-! the bench and the model beside it -/
theorem nI_btw {x : Int32} {a b : Nat} (ha : a < 2147483648) (hb : b < 2147483648) (h1 : ¬ x < nI a) (h2 : ¬ nI b < x) : ∃ n, a ≤ n ∧ n ≤ b ∧ x = nI n := by
  have e1 : ¬ x.toInt < (nI a).toInt := fun e => h1 (Int32.lt_iff_toInt_lt.mpr e)
  have e2 : ¬ (nI b).toInt < x.toInt := fun e => h2 (Int32.lt_iff_toInt_lt.mpr e)
  rw [nI_toInt ha] at e1
  rw [nI_toInt hb] at e2
  refine ⟨x.toInt.toNat, by omega, by omega, ?_⟩
  apply Int32.toInt_inj.mp
  rw [nI_toInt (by omega)]
  omega
def FR (σ m h : Rg) (s : Nat) : Prop := σ 4 s 0 = nI 10 ∧ σ 4 s 1 = nI 0 ∧ σ 4 s 2 = nI 1 ∧ σ 4 s 3 = nI 0 ∧ σ 4 s 4 = nI 0 ∧ σ 4 s 5 = nI 10 ∧ σ 4 s 6 = nI 0 ∧ σ 3 s 4 = nI 0 ∧ σ 3 s 5 = nI 0 ∧ m 41 0 (9 * s + 1) = nI 0 ∧ m 41 0 (9 * s + 3) = nI 0 ∧ m 41 0 (9 * s + 4) = nI 0 ∧ m 41 0 (9 * s + 6) = nI 0 ∧ h 66 0 s = nI 0
def BR (μ : Mem) : Prop := ∃ (ns N G nn gc t pd : Nat) (P Q PG QG : Nat → Nat), R (μ 1) (μ 3) (μ 4) ns N G nn gc P Q PG QG 1000 1000 ∧ (μ 1 1 0 11 = -1 ∧ μ 2 1 0 11 = -1) ∧ μ 4 60 0 0 = nI t ∧ t ≤ 100000 ∧ nn ≤ 1700 * t ∧ gc ≤ 1700 * t ∧ μ 3 40 0 14 = 0 ∧ (∃ tn, TL (μ 1) (μ 3) tn) ∧ US (μ 1) (μ 3) pd ∧ μ 0 0 0 2 = μ 3 40 0 17 ∧ (t = 0 → N = 0 ∧ ∀ s, ns ≤ s → s < 6 → FR (μ 1) (μ 3) (μ 4) s)
/-- one call on both sides -/
def CALL (y y' : Nat) (as : List AV) : Prop := ∀ (μ : Mem), BR μ → ∃ v μ1 μ2, (∀ d, M (d + 90) y (.inr (0, 0, 0) :: as) μ (some v, μ1)) ∧ (∀ d, M (d + 90) y' (.inr (3, 40, 0) :: as) μ1 (some v, μ2)) ∧ BR μ2
theorem M_up {k k' y : Nat} {as : List AV} {μ : Mem} {res : Res} (h : ∀ d, M (d + k) y as μ res) (hk : k ≤ k') (d : Nat) : M (d + k') y as μ res := by
  have := h (d + (k' - k))
  rw [show d + (k' - k) + k = d + k' by omega] at this
  exact this
