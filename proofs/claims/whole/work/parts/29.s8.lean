/-! a job comes: the relation under each part -/
theorem R_tal {σ m h : Rg} {ns N G nn gc pj pg s t : Nat} {P Q PG QG : Nat → Nat} (hR : R σ m h ns N G nn gc P Q PG QG pj pg) (hs : s < 6) (ht : t < 7) : R (cset σ 5 s t (σ 5 s t + 1)) m (cset h 63 0 (13 * s + (6 + t)) (h 63 0 (13 * s + (6 + t)) + 1)) ns N G nn gc P Q PG QG pj pg := by
  obtain ⟨r1, r2, r3, r4, r5, r6, r7, r8, r9, r10, r11⟩ := hR
  refine ⟨?_, ?_, ?_, ?_, ?_, ?_, ?_, ?_, ?_, ?_, ?_⟩ <;> simp (disch := decide) only [cs_a, cs_f, cs_r, va_up_self]
  · exact r1
  · exact r2
  · exact r3
  · exact r4
  · exact r5
  · exact r6
  · exact r7
  · exact r8.tal hs ht
  · exact r9
  · exact r10
  · exact r11
theorem R_still {σ m h : Rg} {ns N G nn gc pj pg : Nat} {P Q PG QG : Nat → Nat} {v : Int32} (hR : R σ m h ns N G nn gc P Q PG QG pj pg) (hv : v = 0 ∨ v = 1) : R (cset σ 1 0 3 v) m (cset h 60 0 28 v) ns N G nn gc P Q PG QG pj pg := by
  obtain ⟨r1, r2, r3, r4, r5, r6, r7, r8, r9, ⟨c1, c2, c3, c4, c5, c6, c7, c8⟩, r11⟩ := hR
  refine ⟨?_, ?_, ?_, ?_, ?_, ?_, ?_, ?_, ?_, ?_, ?_⟩ <;> simp (disch := decide) only [cs_a, cs_i, cs_s]
  · exact r1
  · exact r2
  · exact r3
  · exact r4
  · exact r5
  · exact r6
  · exact r7
  · exact r8
  · exact r9
  · exact ⟨c1, c2, c3, c4, c5, c6, ⟨rfl, hv⟩, c8⟩
  · exact r11
def mAdd (h : Rg) (N s q nn : Nat) (raw : Int32) : Rg := cset (cset (cset (cset (cset (cset (cset (cset (cset (cset h 67 0 N (nI nn)) 68 0 N (nI s)) 69 0 N (nI q)) 70 0 N 0) 71 0 N raw) 72 0 N (-4)) 73 0 N 0) 74 0 N (-1)) 60 0 15 (nI (N + 1))) 60 0 16 (nI (nn + 1))
theorem R_addJ {σ σ1 m h : Rg} {ns N G nn gc kk s q pj pg : Nat} {P Q PG QG : Nat → Nat} (hR : R σ m h ns N G nn gc P Q PG QG pj pg) (hN : N < 120) (hnn : nn + 1 < 1073741824) (hs : s < ns) (hq : q < 8) (hpj : N + 1 ≤ pj) (hk : kk < N) (h70 : h 70 0 kk = 2) (hc : σ 17 0 (P kk) = -1) (h68 : nI s = h 68 0 kk + 1)
    (l9 : LN (σ1 9 0) (σ1 10 0) (σ1 11 0) 120 (N + 1) (snoc P N (Q 0)) (tail1 Q)) (f1 : ∀ b, b ≠ 9 → b ≠ 10 → b ≠ 11 → σ1 b = σ b) : R (cset (cJadd σ1 (Q 0) (nI nn) (nI s) (nI q) (nI (P kk))) 17 0 (P kk) (nI (Q 0))) m (cset (mAdd h N s q nn (h 67 0 kk)) 74 0 kk (nI nn)) ns (N + 1) G (nn + 1) gc (snoc P N (Q 0)) (tail1 Q) PG QG pj pg := by
  obtain ⟨r1, r2, r3, r4, r5, r6, r7, r8, r9, ⟨c1, c2, c3, c4, c5⟩, r11⟩ := hR
  have hi := r1.2.2.2.1
  have hb := r1.2.1
  have hp : ∀ k, k < N → ¬ P k = Q 0 := fun k hk => r1.2.2.2.2.2.1 k 0 hk (by omega)
  have hp2 : Q 0 < 120 := r1.2.2.1 0 (by omega)
  obtain ⟨n0, hn0, hn1⟩ := (r4.1 kk hk).1
  unfold cJadd mAdd
  refine ⟨?_, ?_, ?_, ?_, ?_, ?_, ?_, ?_, ?_, ?_, ?_⟩ <;> simp (disch := decide) only [cs_a, cs_r, cs_i, cs_s, f1]
  · exact l9
  · exact r2
  · exact r3.add hp
  · exact r4.add (by omega) hs hq
  · exact r5.addJ hk hi hb hp hp2 hpj ⟨n0, by omega, hn1⟩ h70 hc h68
  · exact r6.add
  · exact r7.add
  · exact r8
  · exact r9
  · exact ⟨c1, rfl, c3, ⟨hnn, nI_1 nn, rfl⟩, c5⟩
  · exact r11
theorem R_addG {σ σ1 m h : Rg} {ns N G nn gc jj q pj pg : Nat} {P Q PG QG : Nat → Nat} (hR : R σ m h ns N G nn gc P Q PG QG pj pg) (hN : N < 120) (hnn : nn + 1 < 1073741824) (hs : 0 < ns) (hq : q < 8) (hpj : N + 1 ≤ pj) (hpg : G ≤ pg) (hj : jj < G) (hc : σ 25 0 (PG jj) = -1)
    (l9 : LN (σ1 9 0) (σ1 10 0) (σ1 11 0) 120 (N + 1) (snoc P N (Q 0)) (tail1 Q)) (f1 : ∀ b, b ≠ 9 → b ≠ 10 → b ≠ 11 → σ1 b = σ b) : R (cset (cJadd σ1 (Q 0) (nI nn) (nI 0) (nI q) (nI (1000 + PG jj))) 25 0 (PG jj) (nI (Q 0))) m (cset (mAdd h N 0 q nn (-4)) 76 0 jj (nI nn)) ns (N + 1) G (nn + 1) gc (snoc P N (Q 0)) (tail1 Q) PG QG pj pg := by
  obtain ⟨r1, r2, r3, r4, r5, r6, r7, r8, r9, ⟨c1, c2, c3, c4, c5⟩, r11⟩ := hR
  have hi := r1.2.2.2.1
  have hb := r1.2.1
  have hgi := r2.2.2.2.1
  have hp : ∀ k, k < N → ¬ P k = Q 0 := fun k hk => r1.2.2.2.2.2.1 k 0 hk (by omega)
  have hp2 : Q 0 < 120 := r1.2.2.1 0 (by omega)
  unfold cJadd mAdd
  refine ⟨?_, ?_, ?_, ?_, ?_, ?_, ?_, ?_, ?_, ?_, ?_⟩ <;> simp (disch := decide) only [cs_a, cs_r, cs_i, cs_s, f1]
  · exact l9
  · exact r2
  · exact r3.add hp
  · exact r4.add (by omega) hs hq
  · exact r5.addG hj hi hb hp hp2 hgi hpj hpg hc
  · exact r6.add
  · exact r7.add
  · exact r8
  · exact r9
  · exact ⟨c1, rfl, c3, ⟨hnn, nI_1 nn, rfl⟩, c5⟩
  · exact r11
theorem R_begin {σ m h : Rg} {ns N G nn gc z s pj pg : Nat} {P Q PG QG : Nat → Nat} (hR : R σ m h ns N G nn gc P Q PG QG pj pg) (hz : z < N) (h70 : h 70 0 z = 0) (h68 : h 68 0 z = nI s) (hs : s < ns) (hno : NoRow (fun s => σ 3 s 4) (σ 7) ns (P z)) (hc : σ 17 0 (P z) = -1) : R (cBegin σ (P z) s) m (mBegin m h z s) ns N G nn gc P Q PG QG pj pg := by
  obtain ⟨r1, r2, r3, r4, r5, r6, r7, r8, r9, r10, r11⟩ := hR
  have hi := r1.2.2.2.1
  have hb := r1.2.1
  have hns : ns ≤ 6 := r10.1.1
  obtain ⟨tt, ht0, ht1, ht2⟩ := r10.2.2.2.2.2.1
  have e8 : σ 1 0 2 + σ 4 s 8 = h 60 0 0 + m 41 0 (9 * s + 8) := by rw [ht1, ht2, (r9 s hs).1 8 (by decide)]
  unfold cBegin mBegin
  rw [e8]
  refine ⟨?_, ?_, ?_, ?_, ?_, ?_, ?_, ?_, ?_, ?_, ?_⟩
  · simp (disch := decide) only [cs_a]; exact r1
  · simp (disch := decide) only [cs_a]; exact r2
  · simp (disch := decide) only [cs_a, cs_r]; exact r3.become hi hz
  · simp (disch := decide) only [cs_a, cs_r]; exact r4.become hz (Or.inl rfl)
  · simp (disch := decide) only [cs_a, cs_r]; exact r5.st hb (Or.inr hc)
  · simp (disch := decide) only [cs_a, cs_r, cs_i]; exact r6.become hno
  · simp (disch := decide) only [cs_a, cs_r, cs_col]; exact r7.begin hz h70 (by decide) hns h68 hs
  · simp (disch := decide) only [cs_a, cs_i]
    simp (disch := decide) only [cs_a, cs_r, cs_f, va_up_self]
    exact r8.tal (s := s) (t := 1) (by omega) (by decide)
  · simp (disch := decide) only [cs_a]; exact r9
  · simp (disch := decide) only [cs_a]; exact r10
  · simp (disch := decide) only [cs_a]; exact r11
theorem R_enq {σ m h : Rg} {ns N G nn gc z s w pj pg : Nat} {P Q PG QG : Nat → Nat} (hR : R σ m h ns N G nn gc P Q PG QG pj pg) (hz : z < N) (h70 : h 70 0 z = 0) (h68 : h 68 0 z = nI s) (hs : s < ns) (hw : σ 3 s 4 = nI w) (hw20 : w < 20) (hno : NoRow (fun s => σ 3 s 4) (σ 7) ns (P z)) : R (cset (cset σ 7 s w (nI (P z))) 3 s 4 (nI (w + 1))) m (cset (cset h 65 0 (20 * s + w) (h 67 0 z)) 66 0 s (nI (w + 1))) ns N G nn gc P Q PG QG pj pg := by
  obtain ⟨r1, r2, r3, r4, r5, r6, r7, r8, r9, r10, r11⟩ := hR
  refine ⟨?_, ?_, ?_, ?_, ?_, ?_, ?_, ?_, ?_, ?_, ?_⟩
  · simp (disch := decide) only [cs_a]; exact r1
  · simp (disch := decide) only [cs_a]; exact r2
  · simp (disch := decide) only [cs_a]; exact r3
  · simp (disch := decide) only [cs_a]; exact r4
  · simp (disch := decide) only [cs_a]; exact r5
  · simp (disch := decide) only [cs_a, cs_col]
    simp (disch := decide) only [cs_a, cs_r, cs_f, va_up_self]
    exact r6.enq hs hw hw20 hz hno h70 h68
  · simp (disch := decide) only [cs_a, cs_i]; exact r7
  · simp (disch := decide) only [cs_a, cs_i]; exact r8
  · simp (disch := decide) only [cs_a]; exact r9
  · simp (disch := decide) only [cs_a]; exact r10
  · simp (disch := decide) only [cs_a]; exact r11
theorem cr_f (σ : Rg) (a o : Nat) (f : Nat → Int32) : crow σ a o f a = va_up (σ a) o f := by unfold crow; rw [va_up_self]
theorem R_deq {σ m h h' : Rg} {ns N G nn gc s w pj pg : Nat} {P Q PG QG : Nat → Nat} (hR : R σ m h ns N G nn gc P Q PG QG pj pg) (hs : s < ns) (hw : σ 3 s 4 = nI w) (hw0 : 0 < w) (hw20 : w ≤ 20) (e1 : ∀ i, i < w - 1 → h' 65 0 (20 * s + i) = h 65 0 (20 * s + (i + 1))) (e2 : ∀ x, (∀ i, i < 20 → ¬ x = 20 * s + i) → h' 65 0 x = h 65 0 x) (e3 : ∀ a, a ≠ 65 → h' a = cset h 66 0 s (nI (w - 1)) a) : R (crow (cset σ 3 s 4 (nI (w - 1))) 7 s (va_cpy (σ 7 s) (σ 7 s) 1 0 (w - 1))) m h' ns N G nn gc P Q PG QG pj pg := by
  obtain ⟨r1, r2, r3, r4, r5, r6, r7, r8, r9, r10, r11⟩ := hR
  have eh : ∀ a, a ≠ 65 → a ≠ 66 → h' a = h a := fun a a1 a2 => by rw [e3 a a1, cs_a _ _ a2]
  have e66 : h' 66 0 = va_up (h 66 0) s (nI (w - 1)) := by rw [e3 66 (by decide), cs_r]
  refine ⟨?_, ?_, ?_, ?_, ?_, ?_, ?_, ?_, ?_, ?_, ?_⟩
  · simp (disch := decide) only [cs_a, cr_a]; exact r1
  · simp (disch := decide) only [cs_a, cr_a]; exact r2
  · simp (disch := decide) only [cs_a, cr_a, eh]; exact r3
  · simp (disch := decide) only [cs_a, cr_a, eh]; exact r4
  · simp (disch := decide) only [cs_a, cr_a, eh]; exact r5
  · simp (disch := decide) only [cs_a, cr_a, eh, e66, cs_col]
    simp (disch := decide) only [cs_a, cr_f]
    exact r6.deq hs hw hw0 hw20 e1 e2
  · simp (disch := decide) only [cs_a, cr_a, eh, cs_i]; exact r7
  · simp (disch := decide) only [cs_a, cr_a, eh, cs_i]; exact r8
  · simp (disch := decide) only [cs_a, cr_a]; exact r9
  · simp (disch := decide) only [cs_a, cr_a, eh]; exact r10
  · simp (disch := decide) only [cs_a, cr_a, eh]; exact r11
theorem RQ.noNew {w4 : Nat → Int32} {n7 : Nat → Nat → Int32} {a65 a66 a67 a68 a70 : Nat → Int32} {N ns p : Nat} {P : Nat → Nat} (h : RQ w4 n7 a65 a66 a67 a68 a70 N P ns) (hb : ∀ k, k < N → P k < 120) (hp2 : p < 120) (hp : ∀ k, k < N → ¬ P k = p) : NoRow w4 n7 ns p := by
  intro s hs' w hw hw20 i hiw e
  obtain ⟨w', h1, h2, h3, h4, h5⟩ := h s hs'
  have : w = w' := nI_inj (by omega) (by omega) (hw.symm.trans h2)
  subst this
  obtain ⟨k, k1, k2, k3, k4, k5⟩ := h4 i hiw
  rw [k2] at e
  exact hp k k1 (nI_inj (by have := hb k k1; omega) (by omega) e)
/-- one that waits, and stands in no row, is taken out -/
theorem R_rem0 {σ σ' m h h' : Rg} {ns N G nn gc z pj pg pj' pg' : Nat} {P Q PG QG : Nat → Nat} {x : Int32} (hR : R σ m h ns N G nn gc P Q PG QG pj pg) (hz : z < N) (h70 : h 70 0 z = 0) (hno : NoRow (fun s => σ 3 s 4) (σ 7) ns (P z)) (hx : σ 16 0 (P z) = x) (hpj : N ≤ pj) (h17 : σ 17 0 (P z) = -1) (hpg : G ≤ pg) (hc : ∀ k, k < N - 1 → k ≠ pj' → ¬ x = nI (P (shk z k))) (hgg : ∀ j, j < G → j ≠ pg' → ¬ x = nI (1000 + PG j)) (hpc : pj' < N - 1 → σ 17 0 (P (shk z pj')) = nI (P z)) (hgc : pg' < G → σ 25 0 (PG pg') = nI (P z))
    (l9 : LN (σ' 9 0) (σ' 10 0) (σ' 11 0) 120 (N - 1) (fun k => P (shk z k)) (cons1 (P z) Q)) (f1 : ∀ a, a ≠ 9 → a ≠ 10 → a ≠ 11 → σ' a = cset σ 15 0 (P z) (-1) a) (t2 : ∀ a, 67 ≤ a → a ≤ 74 → ∀ k, k < N - 1 → h' a 0 k = h a 0 (shk z k)) (t3 : ∀ a, ¬ (67 ≤ a ∧ a ≤ 74) → h' a = cset h 60 0 15 (nI (N - 1)) a) : R σ' m h' ns (N - 1) G nn gc (fun k => P (shk z k)) (cons1 (P z) Q) PG QG pj' pg' := by
  obtain ⟨r1, r2, r3, r4, r5, r6, r7, r8, r9, ⟨c1, c2, c3⟩, r11⟩ := hR
  have hi := r1.2.2.2.1
  have hb := r1.2.1
  have fr : ∀ a, a ≠ 9 → a ≠ 10 → a ≠ 11 → a ≠ 15 → σ' a = σ a := fun a a1 a2 a3 a4 => by rw [f1 a a1 a2 a3, cs_a _ _ a4]
  have f15 : σ' 15 0 = va_up (σ 15 0) (P z) (-1) := by rw [f1 15 (by decide) (by decide) (by decide), cs_r]
  have fh : ∀ a, ¬ (67 ≤ a ∧ a ≤ 74) → a ≠ 60 → h' a = h a := fun a a1 a2 => by rw [t3 a a1, cs_a _ _ a2]
  have f60 : ∀ i, i ≠ 15 → h' 60 0 i = h 60 0 i := fun i hi => by rw [t3 60 (by omega), cs_i _ _ hi]
  have f6015 : h' 60 0 15 = nI (N - 1) := by rw [t3 60 (by omega), cs_s]
  refine ⟨l9, ?_, ?_, ?_, ?_, ?_, ?_, ?_, ?_, ?_, ?_⟩
  · simp (disch := decide) only [fr]; exact r2
  · simp (disch := decide) only [fr, f15]
    exact r3.rem hi hz (t2 67 (by decide) (by decide)) (t2 68 (by decide) (by decide)) (t2 69 (by decide) (by decide)) (t2 70 (by decide) (by decide)) (t2 72 (by decide) (by decide)) (t2 73 (by decide) (by decide))
  · exact r4.rem hz (t2 67 (by decide) (by decide)) (t2 68 (by decide) (by decide)) (t2 69 (by decide) (by decide)) (t2 70 (by decide) (by decide)) (t2 72 (by decide) (by decide)) (t2 73 (by decide) (by decide))
  · rw [fh 76 (by omega) (by decide)]
    simp (disch := decide) only [fr]
    exact r5.rem hz hi hb (Or.inr hpj) hpg (Or.inr h17) (by rw [hx]; exact hc) (by rw [hx]; exact hgg) hpc hgc (t2 67 (by decide) (by decide)) (t2 68 (by decide) (by decide)) (t2 70 (by decide) (by decide)) (t2 71 (by decide) (by decide)) (t2 74 (by decide) (by decide))
  · rw [fh 65 (by omega) (by decide), fh 66 (by omega) (by decide)]
    simp (disch := decide) only [fr]
    exact r6.rem hz hno (t2 67 (by decide) (by decide)) (t2 68 (by decide) (by decide)) (t2 70 (by decide) (by decide))
  · simp (disch := decide) only [fr]
    exact r7.rem0 hz h70 (t2 68 (by decide) (by decide)) (t2 70 (by decide) (by decide))
  · rw [fh 61 (by omega) (by decide), fh 62 (by omega) (by decide), fh 63 (by omega) (by decide), fh 64 (by omega) (by decide)]
    simp (disch := decide) only [fr]
    exact r8
  · simp (disch := decide) only [fr]; exact r9
  · simp (disch := decide) only [fr, f60, f6015]
    exact ⟨c1, rfl, c3⟩
  · rw [fh 75 (by omega) (by decide), fh 77 (by omega) (by decide), fh 78 (by omega) (by decide), fh 79 (by omega) (by decide)]
    simp (disch := decide) only [fr]
    exact r11
