/-! rows, hands, services under each change -/
/-- job kk stands in no row -/
def NoRow (w4 : Nat → Int32) (n7 : Nat → Nat → Int32) (ns p : Nat) : Prop := ∀ s, s < ns → ∀ w, w4 s = nI w → w ≤ 20 → ∀ i, i < w → ¬ n7 s i = nI p
theorem RQ.noRow {w4 : Nat → Int32} {n7 : Nat → Nat → Int32} {a65 a66 a67 a68 a70 : Nat → Int32} {N ns z : Nat} {P : Nat → Nat} (h : RQ w4 n7 a65 a66 a67 a68 a70 N P ns) (hz : z < N) (hi : ∀ i j, i < N → j < N → P i = P j → i = j) (hb : ∀ k, k < N → P k < 120) (hs : ¬ a70 z = 0) : NoRow w4 n7 ns (P z) := by
  intro s hs' w hw hw20 i hiw e
  obtain ⟨w', h1, h2, h3, h4, h5⟩ := h s hs'
  have : w = w' := nI_inj (by omega) (by omega) (hw.symm.trans h2)
  subst this
  obtain ⟨k, k1, k2, k3, k4, k5⟩ := h4 i hiw
  rw [k2] at e
  have := hi _ _ k1 hz (nI_inj (by have := hb k k1; omega) (by have := hb z hz; omega) e)
  rw [this] at k4
  exact hs k4
theorem RQ.rem {w4 : Nat → Int32} {n7 : Nat → Nat → Int32} {a65 a66 a67 a68 a70 b67 b68 b70 : Nat → Int32} {N ns z : Nat} {P : Nat → Nat} (h : RQ w4 n7 a65 a66 a67 a68 a70 N P ns) (hz : z < N) (hn : NoRow w4 n7 ns (P z)) (e67 : ∀ k, k < N - 1 → b67 k = a67 (shk z k)) (e68 : ∀ k, k < N - 1 → b68 k = a68 (shk z k)) (e70 : ∀ k, k < N - 1 → b70 k = a70 (shk z k)) : RQ w4 n7 a65 a66 b67 b68 b70 (N - 1) (fun k => P (shk z k)) ns := by
  intro s hs
  obtain ⟨w, h1, h2, h3, h4, h5⟩ := h s hs
  refine ⟨w, h1, h2, h3, fun i hi => ?_, h5⟩
  obtain ⟨k, k1, k2, k3, k4, k5⟩ := h4 i hi
  have hkz : ¬ k = z := by
    rintro rfl
    exact hn s hs w h2 h1 i hi k2
  obtain ⟨k', g1, g2⟩ := shk_onto hkz k1 hz
  refine ⟨k', g1, ?_⟩
  rw [e67 k' g1, e68 k' g1, e70 k' g1]
  dsimp only
  rw [g2]
  exact ⟨k2, k3, k4, k5⟩
theorem RQ.add {w4 : Nat → Int32} {n7 : Nat → Nat → Int32} {a65 a66 a67 a68 a70 : Nat → Int32} {N ns p : Nat} {P : Nat → Nat} {x y z : Int32} (h : RQ w4 n7 a65 a66 a67 a68 a70 N P ns) : RQ w4 n7 a65 a66 (va_up a67 N x) (va_up a68 N y) (va_up a70 N z) (N + 1) (snoc P N p) ns := by
  intro s hs
  obtain ⟨w, h1, h2, h3, h4, h5⟩ := h s hs
  refine ⟨w, h1, h2, h3, fun i hi => ?_, h5⟩
  obtain ⟨k, k1, k2, k3, k4, k5⟩ := h4 i hi
  have e : k ≠ N := by omega
  refine ⟨k, by omega, ?_⟩
  rw [va_up_ne _ _ e, va_up_ne _ _ e, va_up_ne _ _ e]
  unfold snoc
  rw [if_neg e]
  exact ⟨k2, k3, k4, k5⟩
theorem RQ.become {w4 : Nat → Int32} {n7 : Nat → Nat → Int32} {a65 a66 a67 a68 a70 : Nat → Int32} {N ns z : Nat} {P : Nat → Nat} {u : Int32} (h : RQ w4 n7 a65 a66 a67 a68 a70 N P ns) (hn : NoRow w4 n7 ns (P z)) : RQ w4 n7 a65 a66 a67 a68 (va_up a70 z u) N P ns := by
  intro s hs
  obtain ⟨w, h1, h2, h3, h4, h5⟩ := h s hs
  refine ⟨w, h1, h2, h3, fun i hi => ?_, h5⟩
  obtain ⟨k, k1, k2, k3, k4, k5⟩ := h4 i hi
  have hkz : k ≠ z := by
    rintro rfl
    exact hn s hs w h2 h1 i hi k2
  refine ⟨k, k1, k2, k3, ?_, k5⟩
  rw [va_up_ne _ _ hkz]; exact k4
theorem row_ne {s s' i j : Nat} (hi : i < 20) (hj : j < 20) (h : ¬ s = s') : ¬ 20 * s + i = 20 * s' + j := by omega
theorem RQ.enq {w4 : Nat → Int32} {n7 : Nat → Nat → Int32} {a65 a66 a67 a68 a70 : Nat → Int32} {N ns s k w : Nat} {P : Nat → Nat} (h : RQ w4 n7 a65 a66 a67 a68 a70 N P ns) (hs : s < ns) (hw : w4 s = nI w) (hw20 : w < 20) (hk : k < N) (hn : NoRow w4 n7 ns (P k)) (h70 : a70 k = 0) (h68 : a68 k = nI s) : RQ (va_up w4 s (nI (w + 1))) (va_up n7 s (va_up (n7 s) w (nI (P k)))) (va_up a65 (20 * s + w) (a67 k)) (va_up a66 s (nI (w + 1))) a67 a68 a70 N P ns := by
  intro s' hs'
  obtain ⟨w', h1, h2, h3, h4, h5⟩ := h s' hs'
  by_cases e : s' = s
  · subst e
    have : w = w' := nI_inj (by omega) (by omega) (hw.symm.trans h2)
    subst this
    refine ⟨w + 1, by omega, va_up_self _ _ _, va_up_self _ _ _, fun i hi => ?_, ?_⟩
    · rw [va_up_self]
      by_cases ei : i = w
      · subst ei
        rw [va_up_self, va_up_self]
        exact ⟨k, hk, rfl, rfl, h70, h68⟩
      · rw [va_up_ne _ _ ei, va_up_ne _ _ (by omega)]
        exact h4 i (by omega)
    · intro i j hi hj eij
      rw [va_up_self] at eij
      by_cases ei : i = w
      · by_cases ej : j = w
        · omega
        · rw [ei, va_up_self, va_up_ne _ _ ej] at eij
          exact absurd eij.symm (hn s' hs' w hw (by omega) j (by omega))
      · by_cases ej : j = w
        · rw [ej, va_up_self, va_up_ne _ _ ei] at eij
          exact absurd eij (hn s' hs' w hw (by omega) i (by omega))
        · rw [va_up_ne _ _ ei, va_up_ne _ _ ej] at eij
          exact h5 i j (by omega) (by omega) eij
  · rw [va_up_ne _ _ e, va_up_ne _ _ e, va_up_ne _ _ e]
    refine ⟨w', h1, h2, h3, fun i hi => ?_, h5⟩
    rw [va_up_ne _ _ (row_ne (by omega) hw20 e)]
    exact h4 i hi
theorem RQ.deq {w4 : Nat → Int32} {n7 : Nat → Nat → Int32} {a65 a66 a67 a68 a70 b65 : Nat → Int32} {N ns s w : Nat} {P : Nat → Nat} (h : RQ w4 n7 a65 a66 a67 a68 a70 N P ns) (hs : s < ns) (hw : w4 s = nI w) (hw0 : 0 < w) (hw20 : w ≤ 20) (e65 : ∀ i, i < w - 1 → b65 (20 * s + i) = a65 (20 * s + (i + 1))) (e65' : ∀ x, (∀ i, i < 20 → ¬ x = 20 * s + i) → b65 x = a65 x) : RQ (va_up w4 s (nI (w - 1))) (va_up n7 s (va_cpy (n7 s) (n7 s) 1 0 (w - 1))) b65 (va_up a66 s (nI (w - 1))) a67 a68 a70 N P ns := by
  intro s' hs'
  obtain ⟨w', h1, h2, h3, h4, h5⟩ := h s' hs'
  by_cases e : s' = s
  · subst e
    have : w = w' := nI_inj (by omega) (by omega) (hw.symm.trans h2)
    subst this
    have cp : ∀ i, i < w - 1 → va_cpy (n7 s') (n7 s') 1 0 (w - 1) i = n7 s' (i + 1) := fun i hi => by
      rw [pk_cpy_in (by omega) (by omega)]; rw [show 1 + (i - 0) = i + 1 by omega]
    refine ⟨w - 1, by omega, va_up_self _ _ _, va_up_self _ _ _, fun i hi => ?_, ?_⟩
    · rw [va_up_self, cp i hi, e65 i hi]
      exact h4 (i + 1) (by omega)
    · intro i j hi hj eij
      rw [va_up_self, cp i hi, cp j hj] at eij
      have := h5 (i + 1) (j + 1) (by omega) (by omega) eij
      omega
  · rw [va_up_ne _ _ e, va_up_ne _ _ e, va_up_ne _ _ e]
    refine ⟨w', h1, h2, h3, fun i hi => ?_, h5⟩
    rw [e65' _ (fun j hj => row_ne (by omega) hj e)]
    exact h4 i hi
/-- behind a dequeue the one that was first stands in no row -/
theorem RQ.deq_no {w4 : Nat → Int32} {n7 : Nat → Nat → Int32} {a65 a66 a67 a68 a70 : Nat → Int32} {N ns s w k : Nat} {P : Nat → Nat} (h : RQ w4 n7 a65 a66 a67 a68 a70 N P ns) (hs : s < ns) (hw : w4 s = nI w) (hw0 : 0 < w) (hw20 : w ≤ 20) (hk : k < N) (hi : ∀ i j, i < N → j < N → P i = P j → i = j) (hb : ∀ k, k < N → P k < 120) (hns : ns ≤ 6) (h0 : n7 s 0 = nI (P k)) (h68 : a68 k = nI s) : NoRow (va_up w4 s (nI (w - 1))) (va_up n7 s (va_cpy (n7 s) (n7 s) 1 0 (w - 1))) ns (P k) := by
  intro s' hs' w' hw' hw20' i hi' eq
  obtain ⟨w2, h1, h2, h3, h4, h5⟩ := h s' hs'
  by_cases e : s' = s
  · subst e
    have : w = w2 := nI_inj (by omega) (by omega) (hw.symm.trans h2)
    subst this
    rw [va_up_self] at hw'
    have : w - 1 = w' := nI_inj (by omega) (by omega) hw'
    subst this
    rw [va_up_self, pk_cpy_in (by omega) (by omega), show 1 + (i - 0) = i + 1 by omega, ← h0] at eq
    have := h5 _ _ (by omega) hw0 eq
    omega
  · rw [va_up_ne _ _ e] at hw' eq
    have : w2 = w' := nI_inj (by omega) (by omega) (h2.symm.trans hw')
    subst this
    obtain ⟨k2, k21, k22, k23, k24, k25⟩ := h4 i hi'
    rw [k22] at eq
    have := hi _ _ k21 hk (nI_inj (by have := hb _ k21; omega) (by have := hb _ hk; omega) eq)
    rw [this, h68] at k25
    exact e (nI_inj (by omega) (by omega) k25).symm
/-- hands -/
theorem HU.rem0 {w5 a68 a70 b68 b70 : Nat → Int32} {N ns z : Nat} (h : HU w5 a68 a70 N ns) (hz : z < N) (h0 : a70 z = 0) (e68 : ∀ k, k < N - 1 → b68 k = a68 (shk z k)) (e70 : ∀ k, k < N - 1 → b70 k = a70 (shk z k)) : HU w5 b68 b70 (N - 1) ns := by
  intro s hs
  rw [h s hs]
  have := cnt_rem (p := hpr a68 a70 (nI s)) (q := hpr b68 b70 (nI s)) hz (fun k hk => by unfold hpr; rw [e68 k hk, e70 k hk])
  rw [show hpr a68 a70 (nI s) z = false by unfold hpr; simp [h0]] at this
  simp at this
  rw [this]
theorem HU.rem {w5 a68 a70 b68 b70 : Nat → Int32} {N ns z sz : Nat} (h : HU w5 a68 a70 N ns) (hz : z < N) (h0 : ¬ a70 z = 0) (hns : ns ≤ 6) (hsz : a68 z = nI sz) (hs2 : sz < ns) (e68 : ∀ k, k < N - 1 → b68 k = a68 (shk z k)) (e70 : ∀ k, k < N - 1 → b70 k = a70 (shk z k)) : HU (va_up w5 sz (w5 sz - 1)) b68 b70 (N - 1) ns := by
  intro s hs
  have := cnt_rem (p := hpr a68 a70 (nI s)) (q := hpr b68 b70 (nI s)) hz (fun k hk => by unfold hpr; rw [e68 k hk, e70 k hk])
  by_cases e : s = sz
  · subst e
    rw [show hpr a68 a70 (nI s) z = true by unfold hpr; simp [h0, hsz]] at this
    rw [va_up_self, h s hs]
    exact nI_dn (by simp at this; omega)
  · rw [show hpr a68 a70 (nI s) z = false by
      unfold hpr
      rw [hsz]
      simp only [decide_eq_false_iff_not]
      intro q
      exact e (nI_inj (by omega) (by omega) q.1).symm] at this
    simp at this
    rw [va_up_ne _ _ e, h s hs, this]
theorem HU.add {w5 a68 a70 : Nat → Int32} {N ns : Nat} {y : Int32} (h : HU w5 a68 a70 N ns) : HU w5 (va_up a68 N y) (va_up a70 N 0) (N + 1) ns := by
  intro s hs
  rw [h s hs]
  congr 1
  show _ = cnt _ N + (if hpr _ _ _ N then 1 else 0)
  rw [show hpr (va_up a68 N y) (va_up a70 N 0) (nI s) N = false by unfold hpr; simp [va_up_self]]
  rw [cnt_congr (p := hpr a68 a70 (nI s)) (q := hpr (va_up a68 N y) (va_up a70 N 0) (nI s)) (fun k hk => by unfold hpr; rw [va_up_ne _ _ (by omega), va_up_ne _ _ (by omega)])]
  simp
theorem HU.begin {w5 a68 a70 : Nat → Int32} {N ns z sz : Nat} {u : Int32} (h : HU w5 a68 a70 N ns) (hz : z < N) (h0 : a70 z = 0) (hu : ¬ u = 0) (hns : ns ≤ 6) (hsz : a68 z = nI sz) (hs2 : sz < ns) : HU (va_up w5 sz (w5 sz + 1)) a68 (va_up a70 z u) N ns := by
  intro s hs
  have := cnt_set (p := hpr a68 a70 (nI s)) (q := hpr a68 (va_up a70 z u) (nI s)) hz (fun k hk hkz => by unfold hpr; rw [va_up_ne _ _ hkz])
  rw [show hpr a68 a70 (nI s) z = false by unfold hpr; simp [h0]] at this
  by_cases e : s = sz
  · subst e
    rw [show hpr a68 (va_up a70 z u) (nI s) z = true by unfold hpr; simp [va_up_self, hu, hsz]] at this
    rw [va_up_self, h s hs]
    exact nI_up (by simp at this; omega)
  · rw [show hpr a68 (va_up a70 z u) (nI s) z = false by
      unfold hpr
      rw [hsz]
      simp only [decide_eq_false_iff_not]
      intro q
      exact e (nI_inj (by omega) (by omega) q.1).symm] at this
    simp at this
    rw [va_up_ne _ _ e, h s hs, this]
theorem HU.keep {w5 a68 a70 : Nat → Int32} {N ns z : Nat} {u : Int32} (h : HU w5 a68 a70 N ns) (h0 : ¬ a70 z = 0) (hu : ¬ u = 0) : HU w5 a68 (va_up a70 z u) N ns := by
  intro s hs
  rw [h s hs]
  congr 1
  refine cnt_congr fun k hk => ?_
  unfold hpr
  by_cases e : k = z
  · subst e
    rw [va_up_self]
    simp [h0, hu]
  · rw [va_up_ne _ _ e]
/-- services -/
theorem SV.tal {w6 w7 : Nat → Int32} {n5 n6 : Nat → Nat → Int32} {a61 a62 a63 a64 : Nat → Int32} {s t : Nat} (h : SV w6 w7 n5 n6 a61 a62 a63 a64) (hs : s < 6) (ht : t < 7) : SV w6 w7 (va_up n5 s (va_up (n5 s) t (n5 s t + 1))) n6 a61 a62 (va_up a63 (13 * s + (6 + t)) (a63 (13 * s + (6 + t)) + 1)) a64 := by
  intro s' hs'
  obtain ⟨h1, h2, h3, h4⟩ := h s' hs'
  refine ⟨fun t' ht' => ?_, h2, h3, h4⟩
  by_cases e : s' = s
  · subst e
    rw [va_up_self]
    by_cases e2 : t' = t
    · subst e2
      rw [va_up_self, va_up_self, h1 t' ht']
    · rw [va_up_ne _ _ e2, va_up_ne _ _ (by omega)]
      exact h1 t' ht'
  · rw [va_up_ne _ _ e, va_up_ne _ _ (by omega)]
    exact h1 t' ht'
theorem SV.kept {w6 w7 : Nat → Int32} {n5 n6 : Nat → Nat → Int32} {a61 a62 a63 a64 : Nat → Int32} {s q : Nat} {v : Int32} (h : SV w6 w7 n5 n6 a61 a62 a63 a64) (hs : s < 6) (hq : q < 8) : SV w6 w7 n5 (va_up n6 s (va_up (n6 s) q v)) a61 a62 a63 (va_up a64 (8 * s + q) v) := by
  intro s' hs'
  obtain ⟨h1, h2, h3, h4⟩ := h s' hs'
  refine ⟨h1, fun t' ht' => ?_, h3, h4⟩
  by_cases e : s' = s
  · subst e
    rw [va_up_self]
    by_cases e2 : t' = q
    · subst e2
      rw [va_up_self, va_up_self]
    · rw [va_up_ne _ _ e2, va_up_ne _ _ (by omega)]
      exact h2 t' ht'
  · rw [va_up_ne _ _ e, va_up_ne _ _ (by omega)]
    exact h2 t' ht'
theorem SV.fails {w6 w7 : Nat → Int32} {n5 n6 : Nat → Nat → Int32} {a61 a62 a63 a64 : Nat → Int32} {s : Nat} {v : Int32} (h : SV w6 w7 n5 n6 a61 a62 a63 a64) : SV w6 (va_up w7 s v) n5 n6 a61 (va_up a62 s v) a63 a64 := by
  intro s' hs'
  obtain ⟨h1, h2, h3, h4⟩ := h s' hs'
  refine ⟨h1, h2, ?_, h4⟩
  by_cases e : s' = s
  · subst e; rw [va_up_self, va_up_self]
  · rw [va_up_ne _ _ e, va_up_ne _ _ e]; exact h3
theorem SV.rest {w6 w7 : Nat → Int32} {n5 n6 : Nat → Nat → Int32} {a61 a62 a63 a64 : Nat → Int32} {s : Nat} {v : Int32} (h : SV w6 w7 n5 n6 a61 a62 a63 a64) : SV (va_up w6 s v) w7 n5 n6 (va_up a61 s v) a62 a63 a64 := by
  intro s' hs'
  obtain ⟨h1, h2, h3, h4⟩ := h s' hs'
  refine ⟨h1, h2, h3, ?_⟩
  by_cases e : s' = s
  · subst e; rw [va_up_self, va_up_self]; exact Or.inl rfl
  · rw [va_up_ne _ _ e, va_up_ne _ _ e]; exact h4
