/-! the relation behind a job's end -/
theorem cE1_out {σ : Rg} {p s q : Nat} {g x : Int32} {a : Nat} (h1 : a ≠ 1) (h3 : a ≠ 3) (h5 : a ≠ 5) (h6 : a ≠ 6) : cE1 σ p s q g x a = σ a := by
  unfold cE1
  split <;> split <;> simp (disch := assumption) only [cs_a]
theorem cE1_3 {σ : Rg} {p s q : Nat} {g x : Int32} : cE1 σ p s q g x 3 = cset σ 3 s 5 (σ 3 s 5 - 1) 3 := by
  unfold cE1
  split <;> split <;> simp (disch := decide) only [cs_a]
theorem cE1_1 {σ : Rg} {p s q i : Nat} {g x : Int32} (hi : i ≠ 4) : cE1 σ p s q g x 1 0 i = σ 1 0 i := by
  unfold cE1
  split <;> split <;> simp (disch := first | decide | assumption) only [cs_a, cs_i]
theorem cE1_4 {σ : Rg} {p s q : Nat} {g x : Int32} : cE1 σ p s q g x 1 0 4 = if x = -1 then σ 1 0 4 + 1 else σ 1 0 4 := by
  unfold cE1
  by_cases e : x = -1
  · rw [if_pos e, if_pos e, cs_s]
  · rw [if_neg e, if_neg e]
    split <;> simp (disch := decide) only [cs_a]
theorem mKp_out {m h : Rg} {s q : Nat} {g : Int32} {a : Nat} (h1 : a ≠ 63) (h2 : a ≠ 64) : mKp m h s q g a = h a := by
  unfold mKp
  split <;> simp (disch := assumption) only [cs_a]
theorem SVE {σ m h : Rg} {w6 w7 a61 a62 : Nat → Int32} {p s q : Nat} {g x : Int32} (hv : SV w6 w7 (σ 5) (σ 6) a61 a62 (h 63 0) (h 64 0)) (hr : σ 4 s 3 = m 41 0 (9 * s + 3)) (ht : σ 1 0 2 = h 60 0 0) (hs : s < 6) (hq : q < 8) (hg : g = 0 ∨ g = 1) (h3 : Rg) (e63 : h3 63 = mKp m h s q g 63) (e64 : h3 64 = mKp m h s q g 64) : SV w6 w7 (cE1 σ p s q g x 5) (cE1 σ p s q g x 6) a61 a62 ((if x = -1 then mNo h3 s else h3) 63 0) ((if x = -1 then mNo h3 s else h3) 64 0) := by
  have base : SV w6 w7 ((if g = 0 ∨ σ 4 s 3 ≤ 0 then cset (cset σ 3 s 5 (σ 3 s 5 - 1)) 5 s (if g = 0 then 3 else 2) (σ 5 s (if g = 0 then 3 else 2) + 1) else cset (cset (cset σ 3 s 5 (σ 3 s 5 - 1)) 5 s (if g = 0 then 3 else 2) (σ 5 s (if g = 0 then 3 else 2) + 1)) 6 s q (σ 1 0 2 + σ 4 s 3)) 5) ((if g = 0 ∨ σ 4 s 3 ≤ 0 then cset (cset σ 3 s 5 (σ 3 s 5 - 1)) 5 s (if g = 0 then 3 else 2) (σ 5 s (if g = 0 then 3 else 2) + 1) else cset (cset (cset σ 3 s 5 (σ 3 s 5 - 1)) 5 s (if g = 0 then 3 else 2) (σ 5 s (if g = 0 then 3 else 2) + 1)) 6 s q (σ 1 0 2 + σ 4 s 3)) 6) a61 a62 (mKp m h s q g 63 0) (mKp m h s q g 64 0) := by
    unfold mKp
    rw [← hr, ← ht]
    have ht7 : (if g = 0 then 3 else 2) < 7 := by split <;> decide
    have b1 := hv.tal hs ht7
    by_cases e : g = 0 ∨ σ 4 s 3 ≤ 0
    · simp (disch := decide) only [if_pos e, cs_a, cs_f, va_up_self]
      exact b1
    · simp (disch := decide) only [if_neg e, cs_a, cs_f, va_up_self]
      exact b1.kept hs hq
  unfold cE1
  generalize (if g = 0 ∨ σ 4 s 3 ≤ 0 then cset (cset σ 3 s 5 (σ 3 s 5 - 1)) 5 s (if g = 0 then 3 else 2) (σ 5 s (if g = 0 then 3 else 2) + 1) else cset (cset (cset σ 3 s 5 (σ 3 s 5 - 1)) 5 s (if g = 0 then 3 else 2) (σ 5 s (if g = 0 then 3 else 2) + 1)) 6 s q (σ 1 0 2 + σ 4 s 3)) = Z at base ⊢
  by_cases e2 : x = -1
  · rw [if_pos e2, if_pos e2]
    unfold mNo
    simp (disch := decide) only [cs_a, cs_f, va_up_self, e63, e64]
    exact base.tal hs (t := 5) (by decide)
  · rw [if_neg e2, if_neg e2, e63, e64]
    exact base
theorem R_end {σ σ1 m h h3 : Rg} {ns N G nn gc z s q : Nat} {P Q PG QG : Nat → Nat} {pj pg pj' pg' : Nat} {g x : Int32} (hR : R σ m h ns N G nn gc P Q PG QG pj pg) (hz : z < N) (h70 : ¬ h 70 0 z = 0) (hs : h 68 0 z = nI s) (hs2 : s < ns) (hq2 : q < 8) (hg : g = 0 ∨ g = 1) (hx : σ 16 0 (P z) = x)
    (hpj : pj = z ∨ (N ≤ pj ∧ σ 17 0 (P z) = -1)) (hpg : G ≤ pg) (hc : ∀ k, k < N - 1 → k ≠ pj' → ¬ x = nI (P (shk z k))) (hgg : ∀ j, j < G → j ≠ pg' → ¬ x = nI (1000 + PG j)) (hpc : pj' < N - 1 → σ 17 0 (P (shk z pj')) = nI (P z)) (hgc : pg' < G → σ 25 0 (PG pg') = nI (P z))
    (l9 : LN (σ1 9 0) (σ1 10 0) (σ1 11 0) 120 (N - 1) (fun k => P (shk z k)) (cons1 (P z) Q)) (f1 : ∀ a, a ≠ 9 → a ≠ 10 → a ≠ 11 → σ1 a = cset (cE1 σ (P z) s q g x) 15 0 (P z) (-1) a) (t2 : ∀ a, 67 ≤ a → a ≤ 74 → ∀ k, k < N - 1 → h3 a 0 k = h a 0 (shk z k)) (t3 : ∀ a, ¬ (67 ≤ a ∧ a ≤ 74) → h3 a = cset (mKp m h s q g) 60 0 15 (nI (N - 1)) a) :
    R (cset (cset σ1 1 0 11 x) 1 0 12 g) m (if x = -1 then mNo h3 s else h3) ns (N - 1) G nn gc (fun k => P (shk z k)) (cons1 (P z) Q) PG QG pj' pg' := by
  obtain ⟨r1, r2, r3, r4, r5, r6, r7, r8, r9, r10, r11⟩ := hR
  have hi := r1.2.2.2.1
  have hb := r1.2.1
  have hns := r10.1.1
  obtain ⟨tt, ht0, ht1, ht2⟩ := r10.2.2.2.2.2.1
  -- frames
  have fr : ∀ a, a ≠ 1 → a ≠ 3 → a ≠ 5 → a ≠ 6 → a ≠ 9 → a ≠ 10 → a ≠ 11 → a ≠ 15 → cset (cset σ1 1 0 11 x) 1 0 12 g a = σ a := by
    intro a a1 a3 a5 a6 a9 a10 a11 a15
    rw [cs_a _ _ a1, cs_a _ _ a1, f1 a a9 a10 a11, cs_a _ _ a15, cE1_out a1 a3 a5 a6]
  have f9 : ∀ a, a ≠ 1 → cset (cset σ1 1 0 11 x) 1 0 12 g a = σ1 a := by
    intro a a1
    rw [cs_a _ _ a1, cs_a _ _ a1]
  have f15 : cset (cset σ1 1 0 11 x) 1 0 12 g 15 0 = va_up (σ 15 0) (P z) (-1) := by
    rw [f9 15 (by decide), f1 15 (by decide) (by decide) (by decide), cs_r, cE1_out (by decide) (by decide) (by decide) (by decide)]
  have f3 : cset (cset σ1 1 0 11 x) 1 0 12 g 3 = cset σ 3 s 5 (σ 3 s 5 - 1) 3 := by
    rw [f9 3 (by decide), f1 3 (by decide) (by decide) (by decide), cs_a _ _ (by decide), cE1_3]
  have f5 : cset (cset σ1 1 0 11 x) 1 0 12 g 5 = cE1 σ (P z) s q g x 5 := by
    rw [f9 5 (by decide), f1 5 (by decide) (by decide) (by decide), cs_a _ _ (by decide)]
  have f6 : cset (cset σ1 1 0 11 x) 1 0 12 g 6 = cE1 σ (P z) s q g x 6 := by
    rw [f9 6 (by decide), f1 6 (by decide) (by decide) (by decide), cs_a _ _ (by decide)]
  have fi : ∀ i, i ≠ 4 → i ≠ 11 → i ≠ 12 → cset (cset σ1 1 0 11 x) 1 0 12 g 1 0 i = σ 1 0 i := by
    intro i i1 i2 i3
    rw [cs_i _ _ i3, cs_i _ _ i2, f1 1 (by decide) (by decide) (by decide), cs_a _ _ (by decide), cE1_1 i1]
  have f4 : cset (cset σ1 1 0 11 x) 1 0 12 g 1 0 4 = if x = -1 then σ 1 0 4 + 1 else σ 1 0 4 := by
    rw [cs_i _ _ (by decide), cs_i _ _ (by decide), f1 1 (by decide) (by decide) (by decide), cs_a _ _ (by decide), cE1_4]
  have t4 : ∀ a, ¬ (67 ≤ a ∧ a ≤ 74) → a ≠ 60 → h3 a = mKp m h s q g a := fun a a1 a2 => by rw [t3 a a1, cs_a _ _ a2]
  have fh : ∀ a, a ≠ 60 → a ≠ 63 → (if x = -1 then mNo h3 s else h3) a = h3 a := by
    intro a a1 a2
    split
    · unfold mNo; rw [cs_a _ _ a1, cs_a _ _ a2]
    · rfl
  have fho : ∀ a, ¬ (67 ≤ a ∧ a ≤ 74) → a ≠ 60 → a ≠ 63 → a ≠ 64 → (if x = -1 then mNo h3 s else h3) a = h a := by
    intro a a1 a2 a3 a4
    rw [fh a a2 a3, t4 a a1 a2, mKp_out a3 a4]
  have fhr : ∀ a, 67 ≤ a → a ≤ 74 → ∀ k, k < N - 1 → (if x = -1 then mNo h3 s else h3) a 0 k = h a 0 (shk z k) := by
    intro a a1 a2 k hk
    rw [fh a (by omega) (by omega), t2 a a1 a2 k hk]
  have f60 : ∀ i, i ≠ 15 → i ≠ 27 → (if x = -1 then mNo h3 s else h3) 60 0 i = h 60 0 i := by
    intro i i1 i2
    have e1 : h3 60 0 i = h 60 0 i := by rw [t3 60 (by omega), cs_i _ _ i1, mKp_out (by decide) (by decide)]
    split
    · unfold mNo; rw [cs_i _ _ i2, cs_a _ _ (by decide), e1]
    · exact e1
  have f6015 : (if x = -1 then mNo h3 s else h3) 60 0 15 = nI (N - 1) := by
    have e1 : h3 60 0 15 = nI (N - 1) := by rw [t3 60 (by omega), cs_s]
    split
    · unfold mNo; rw [cs_i _ _ (by decide), cs_a _ _ (by decide), e1]
    · exact e1
  have f6027 : (if x = -1 then mNo h3 s else h3) 60 0 27 = if x = -1 then h 60 0 27 + 1 else h 60 0 27 := by
    have e1 : h3 60 0 27 = h 60 0 27 := by rw [t3 60 (by omega), cs_i _ _ (by decide), mKp_out (by decide) (by decide)]
    split
    · unfold mNo; rw [cs_s, e1]
    · exact e1
  have hsv := SVE (p := P z) (x := x) r8 ((r9 s hs2).1 3 (by decide)) (ht1.trans ht2.symm) (by omega) hq2 hg h3 (t4 63 (by omega) (by decide)) (t4 64 (by omega) (by decide))
  have hno := r6.noRow hz hi hb h70
  generalize (if x = -1 then mNo h3 s else h3) = H at *
  generalize hS : cset (cset σ1 1 0 11 x) 1 0 12 g = S at *
  refine ⟨?_, ?_, ?_, ?_, ?_, ?_, ?_, ?_, ?_, ?_, ?_⟩
  · simp (disch := decide) only [f9]; exact l9
  · simp (disch := decide) only [fr]; exact r2
  · simp (disch := decide) only [fr, f15]
    exact r3.rem hi hz (fhr 67 (by decide) (by decide)) (fhr 68 (by decide) (by decide)) (fhr 69 (by decide) (by decide)) (fhr 70 (by decide) (by decide)) (fhr 72 (by decide) (by decide)) (fhr 73 (by decide) (by decide))
  · exact r4.rem hz (fhr 67 (by decide) (by decide)) (fhr 68 (by decide) (by decide)) (fhr 69 (by decide) (by decide)) (fhr 70 (by decide) (by decide)) (fhr 72 (by decide) (by decide)) (fhr 73 (by decide) (by decide))
  · rw [fho 76 (by omega) (by decide) (by decide) (by decide)]
    simp (disch := decide) only [fr]
    exact r5.rem hz hi hb (hpj.imp id (fun e => e.1)) hpg (hpj.imp (fun e => e.symm) (fun e => e.2)) (by rw [hx]; exact hc) (by rw [hx]; exact hgg) hpc hgc (fhr 67 (by decide) (by decide)) (fhr 68 (by decide) (by decide)) (fhr 70 (by decide) (by decide)) (fhr 71 (by decide) (by decide)) (fhr 74 (by decide) (by decide))
  · rw [fho 65 (by omega) (by decide) (by decide) (by decide), fho 66 (by omega) (by decide) (by decide) (by decide)]
    simp (disch := decide) only [fr, f3, cs_i]
    exact r6.rem hz hno (fhr 67 (by decide) (by decide)) (fhr 68 (by decide) (by decide)) (fhr 70 (by decide) (by decide))
  · rw [f3, cs_col]
    exact r7.rem hz h70 hns hs hs2 (fhr 68 (by decide) (by decide)) (fhr 70 (by decide) (by decide))
  · rw [fho 61 (by omega) (by decide) (by decide) (by decide), fho 62 (by omega) (by decide) (by decide) (by decide), f5, f6]
    simp (disch := decide) only [f3, cs_i]
    exact hsv
  · simp (disch := decide) only [fr]; exact r9
  · simp (disch := decide) only [fr, fi, f60, f6015, f6027, f4]
    obtain ⟨c1, c2, c3, c4, c5, c6, c7, c8, c9⟩ := r10
    refine ⟨c1, rfl, c3, c4, c5, c6, c7, ?_, c9⟩
    split
    · rw [c8]
    · exact c8
  · rw [fho 75 (by omega) (by decide) (by decide) (by decide), fho 77 (by omega) (by decide) (by decide) (by decide), fho 78 (by omega) (by decide) (by decide) (by decide), fho 79 (by omega) (by decide) (by decide) (by decide)]
    simp (disch := decide) only [fr]
    exact r11
