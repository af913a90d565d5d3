/-! THE MEMORY OF A REGION -/
abbrev Rg : Type := Nat → Nat → Nat → Int32
def crow (σ : Rg) (a o : Nat) (f : Nat → Int32) : Rg := va_up σ a (va_up (σ a) o f)
def cset (σ : Rg) (a o i : Nat) (v : Int32) : Rg := crow σ a o (va_up (σ a o) i v)
theorem up_up {α : Type} (f : Nat → α) (k : Nat) (v w : α) : va_up (va_up f k v) k w = va_up f k w := by
  funext j; unfold va_up; split <;> rfl
theorem up_id {α : Type} (f : Nat → α) (k : Nat) : va_up f k (f k) = f := by
  funext j; unfold va_up; split
  · rename_i h; rw [h]
  · rfl
theorem up_comm {α : Type} (f : Nat → α) {k j : Nat} (v w : α) (h : k ≠ j) : va_up (va_up f k v) j w = va_up (va_up f j w) k v := by
  funext i; unfold va_up
  by_cases h1 : i = j
  · have : ¬ i = k := fun e => h (e ▸ h1)
    simp [h1]; intro e; exact absurd e.symm h
  · simp [h1]
theorem ms_up (μ : Mem) (r : Nat) (σ : Rg) (a o i : Nat) (v : Int32) : mset (va_up μ r σ) r a o i v = va_up μ r (cset σ a o i v) := by
  unfold mset mrow cset crow
  rw [va_up_self, up_up]
theorem mr_up (μ : Mem) (r : Nat) (σ : Rg) (a o : Nat) (f : Nat → Int32) : mrow (va_up μ r σ) r a o f = va_up μ r (crow σ a o f) := by
  unfold mrow crow
  rw [va_up_self, up_up]
theorem cs_a (σ : Rg) {a o i a' : Nat} (v : Int32) (h : a' ≠ a) : cset σ a o i v a' = σ a' := by
  unfold cset crow; rw [va_up_ne _ _ h]
theorem cs_o (σ : Rg) {a o i o' : Nat} (v : Int32) (h : o' ≠ o) : cset σ a o i v a o' = σ a o' := by
  unfold cset crow; rw [va_up_self, va_up_ne _ _ h]
theorem cs_r (σ : Rg) (a o i : Nat) (v : Int32) : cset σ a o i v a o = va_up (σ a o) i v := by
  unfold cset crow; rw [va_up_self, va_up_self]
theorem cs_i (σ : Rg) {a o i o' i' : Nat} (v : Int32) (h : i' ≠ i) : cset σ a o i v a o' i' = σ a o' i' := by
  by_cases e : o' = o
  · subst e; rw [cs_r, va_up_ne _ _ h]
  · rw [cs_o _ _ e]
theorem cs_s (σ : Rg) (a o i : Nat) (v : Int32) : cset σ a o i v a o i = v := by rw [cs_r, va_up_self]
theorem cr_a (σ : Rg) {a o a' : Nat} (f : Nat → Int32) (h : a' ≠ a) : crow σ a o f a' = σ a' := by
  unfold crow; rw [va_up_ne _ _ h]
theorem cr_o (σ : Rg) {a o o' : Nat} (f : Nat → Int32) (h : o' ≠ o) : crow σ a o f a o' = σ a o' := by
  unfold crow; rw [va_up_self, va_up_ne _ _ h]
theorem cr_r (σ : Rg) (a o : Nat) (f : Nat → Int32) : crow σ a o f a o = f := by
  unfold crow; rw [va_up_self, va_up_self]
theorem up_app {α : Type} (f : Nat → α) (k j : Nat) (v : α) : va_up f k v j = if j = k then v else f j := rfl
/-- numbers -/
theorem vin {n N : Nat} (hn : n < 2147483648) (hN : N < 2147483648) : vp_in (nI n) N ↔ n < N := by
  constructor
  · intro h
    rcases Nat.lt_or_ge n N with q | q
    · exact q
    · exact absurd (Or.inr (by rw [nI_clamp hn]; exact q)) h
  · intro h
    exact vp_in_nI h (by omega)
theorem nI_cl {n : Nat} (h : n < 2147483648) : (nI n).toNatClampNeg = n := nI_clamp h
theorem nI_neg {n : Nat} {v : Int32} (h : n < 2147483648) (hv : v < 0) : ¬ nI n = v := by
  intro e
  have h1 := nI_toInt (n := n) h
  rw [e] at h1
  have h2 : v.toInt < 0 := Int32.lt_iff_toInt_lt.mp hv
  omega
theorem nI_m1 {n : Nat} (h : n < 2147483648) : ¬ nI n = -1 := nI_neg h (by decide)
theorem nI_inj {a b : Nat} (ha : a < 2147483648) (hb : b < 2147483648) (h : nI a = nI b) : a = b := (nI_eq ha hb).mp h
