/-! what is copied keeps the relation -/
theorem LN_cp {L bf bh L' bf' bh' : Nat → Int32} {cap N : Nat} {P Q : Nat → Nat} (h : LN L bf bh cap N P Q) (e2 : L' 2 = L 2) (e3 : L' 3 = L 3) (e4 : L' 4 = L 4) (e5 : L' 5 = L 5) (ef : ∀ i, i < cap → bf' i = bf i) (eh : ∀ i, i < cap → bh' i = bh i) : LN L' bf' bh' cap N P Q := by
  obtain ⟨h1, h2, h3, h4, h5, h6, h7, h8, h9, h10, h11, h12, h13⟩ := h
  refine ⟨h1, h2, h3, h4, h5, h6, by rw [e5]; exact h7, by rw [e2]; exact h8, by rw [e3]; exact h9, by rw [e4]; exact h10, fun k hk => ?_, fun k hk => ?_, fun k hk => ?_⟩
  · rw [eh _ (h2 k hk)]; exact h11 k hk
  · rw [ef _ (h2 k hk)]; exact h12 k hk
  · rw [eh _ (h3 k hk)]; exact h13 k hk
theorem LK_cg {a67 a68 a70 a71 a74 a76 n16 n17 n25 b67 b68 b70 b71 b74 b76 m16 m17 m25 : Nat → Int32} {N G pj pg : Nat} {P PG : Nat → Nat} (h : LK a67 a68 a70 a71 a74 a76 n16 n17 n25 N P G PG pj pg) (e67 : ∀ k, k < N → b67 k = a67 k) (e68 : ∀ k, k < N → b68 k = a68 k) (e70 : ∀ k, k < N → b70 k = a70 k) (e71 : ∀ k, k < N → b71 k = a71 k) (e74 : ∀ k, k < N → b74 k = a74 k) (e76 : ∀ k, k < G → b76 k = a76 k) (f16 : ∀ k, k < N → m16 (P k) = n16 (P k)) (f17 : ∀ k, k < N → m17 (P k) = n17 (P k)) (f25 : ∀ k, k < G → m25 (PG k) = n25 (PG k)) : LK b67 b68 b70 b71 b74 b76 m16 m17 m25 N P G PG pj pg := by
  obtain ⟨h1, h2, h3, h4⟩ := h
  refine ⟨fun k hk hn => ?_, fun i hi => ?_, fun j hj hn => ?_, fun i hi => ?_⟩
  · rw [f17 k hk, e74 k hk, e70 k hk]
    rcases h1 k hk hn with q | ⟨q0, i, q1, q2, q3, q4, q5, q6⟩
    · exact Or.inl q
    · exact Or.inr ⟨q0, i, q1, q2, by rw [e67 i q1]; exact q3, by rw [f16 i q1]; exact q4, by rw [e71 i q1, e67 k hk]; exact q5, by rw [e68 i q1, e68 k hk]; exact q6⟩
  · rw [f16 i hi]
    rcases h2 i hi with q | ⟨k, q1, q2, q3, q4⟩ | ⟨j, q1, q2, q3, q4⟩
    · exact Or.inl q
    · exact Or.inr (Or.inl ⟨k, q1, q2, q3, by rw [f17 k q1]; exact q4⟩)
    · exact Or.inr (Or.inr ⟨j, q1, q2, q3, by rw [f25 j q1]; exact q4⟩)
  · rw [f25 j hj, e76 j hj]
    rcases h3 j hj hn with q | ⟨i, q1, q2, q3, q4, q5, q6⟩
    · exact Or.inl q
    · exact Or.inr ⟨i, q1, q2, by rw [e67 i q1]; exact q3, by rw [f16 i q1]; exact q4, by rw [e71 i q1]; exact q5, by rw [e68 i q1]; exact q6⟩
  · rw [e71 i hi]; exact h4 i hi
theorem RU1_cg {f g : Nat → Int32} (h : RU1 f) (e : ∀ j, j < 10 → g j = f j) : RU1 g := by
  unfold RU1
  rw [e 0 (by decide), e 1 (by decide), e 2 (by decide), e 3 (by decide), e 4 (by decide), e 5 (by decide), e 6 (by decide), e 7 (by decide), e 8 (by decide), e 9 (by decide)]
  exact h
theorem R_cp {τ σ m h : Rg} {ns N G nn gc pj pg : Nat} {P Q PG QG : Nat → Nat} (hR : R τ m h ns N G nn gc P Q PG QG pj pg) (hC : CE τ σ) : R σ m h ns N G nn gc P Q PG QG pj pg := by
  obtain ⟨r1, r2, r3, r4, r5, r6, r7, r8, r9, r10, r11⟩ := hR
  obtain ⟨hS, ⟨s1, s2, s3, s4⟩, ⟨⟨l2, l3, l4, l5⟩, j9, hJ⟩, ⟨⟨w2, w3, w4, w5⟩, ⟨g5, g6, g7, g8, g9, g10⟩, hG⟩, hU⟩ := hC
  have hns : ns ≤ 6 := r10.1.1
  have hP := r1.2.1
  have hPG := r2.2.1
  refine ⟨LN_cp r1 l2 l3 l4 l5 (fun i hi => (hJ i hi).1) (fun i hi => (hJ i hi).2.1), LN_cp r2 w2 w3 w4 w5 (fun i hi => (hG i hi).1) (fun i hi => (hG i hi).2.1), fun k hk => ?_, r4, ?_, fun s hs => ?_, fun s hs => ?_, fun s hs => ?_, fun s hs => ?_, ?_, ⟨fun j hj => ?_, r11.2⟩⟩
  · obtain ⟨-, -, q12, q13, q14, q15, q16, q17, q18, q19⟩ := hJ (P k) (hP k hk)
    rw [q12, q13, q14, q15, q18, q19]
    exact r3 k hk
  · exact LK_cg r5 (fun _ _ => rfl) (fun _ _ => rfl) (fun _ _ => rfl) (fun _ _ => rfl) (fun _ _ => rfl) (fun _ _ => rfl) (fun k hk => (hJ (P k) (hP k hk)).2.2.2.2.2.2.1) (fun k hk => (hJ (P k) (hP k hk)).2.2.2.2.2.2.2.1) (fun k hk => (hG (PG k) (hPG k hk)).2.2.2.1)
  · obtain ⟨c1, c2, c3, c4, c5, c6, c7, c8⟩ := hS s (by omega)
    obtain ⟨w, p1, p2, p3, p4, p5⟩ := r6 s hs
    refine ⟨w, p1, c5.trans p2, p3, fun i hi => ?_, fun i j hi hj e => ?_⟩
    · rw [c4 i (by omega)]; exact p4 i hi
    · rw [c4 i (by omega), c4 j (by omega)] at e; exact p5 i j hi hj e
  · exact (hS s (by omega)).2.2.2.2.2.1.trans (r7 s hs)
  · obtain ⟨c1, c2, c3, c4, c5, c6, c7, c8⟩ := hS s (by omega)
    obtain ⟨p1, p2, p3, p4⟩ := r8 s hs
    refine ⟨fun t ht => by rw [c2 t ht]; exact p1 t ht, fun q hq => by rw [c3 q hq]; exact p2 q hq, c8.trans p3, ?_⟩
    show σ 3 s 6 = _ ∨ (σ 3 s 6 = -4 ∧ _)
    rw [c7]; exact p4
  · obtain ⟨c1, c2, c3, c4, c5, c6, c7, c8⟩ := hS s (by omega)
    obtain ⟨p1, p2, p3⟩ := r9 s hs
    exact ⟨fun j hj => by rw [c1 j (by omega)]; exact p1 j hj, by rw [c1 9 (by decide)]; exact p2, RU1_cg p3 c1⟩
  · rw [s1, s2, s3, s4, j9, g5, g6, g7, g8, g9, g10]; exact r10
  · obtain ⟨-, -, q24, q25, q26, q27⟩ := hG (PG j) (hPG j hj)
    rw [q24, q26, q27]
    exact r11.1 j hj
theorem US_cp {τ σ m : Rg} {pd : Nat} (h : US τ m pd) (hC : CE τ σ) : US σ m pd := by
  obtain ⟨h1, h2, h3, h4, h5⟩ := h
  obtain ⟨u1, u2⟩ := hC.2.2.2.2
  refine ⟨h1, u1.trans h2, h3, fun e => ?_, fun i hi => ?_⟩
  · rw [(u2 0 (by decide)).1, (u2 0 (by decide)).2]; exact h4 e
  · rw [(u2 i (by omega)).1, (u2 i (by omega)).2]; exact h5 i hi
/-- houses of the model that agree where there is something -/
def HE (h h' : Rg) (N G : Nat) : Prop := (∀ i, i = 0 ∨ i = 15 ∨ i = 16 ∨ (22 ≤ i ∧ i ≤ 28) → h' 60 0 i = h 60 0 i) ∧ (∀ s, s < 6 → h' 61 0 s = h 61 0 s ∧ h' 62 0 s = h 62 0 s ∧ h' 66 0 s = h 66 0 s) ∧ (∀ i, i < 78 → h' 63 0 i = h 63 0 i) ∧ (∀ i, i < 48 → h' 64 0 i = h 64 0 i) ∧ (∀ i, i < 120 → h' 65 0 i = h 65 0 i) ∧ (∀ a, 67 ≤ a → a ≤ 74 → ∀ k, k < N → h' a 0 k = h a 0 k) ∧ ∀ a, 75 ≤ a → a ≤ 79 → ∀ k, k < G → h' a 0 k = h a 0 k
theorem HE.trans {h h1 h2 : Rg} {N G : Nat} (a : HE h h1 N G) (b : HE h1 h2 N G) : HE h h2 N G := by
  obtain ⟨a1, a2, a3, a4, a5, a6, a7⟩ := a
  obtain ⟨b1, b2, b3, b4, b5, b6, b7⟩ := b
  exact ⟨fun i hi => (b1 i hi).trans (a1 i hi), fun s hs => ⟨(b2 s hs).1.trans (a2 s hs).1, (b2 s hs).2.1.trans (a2 s hs).2.1, (b2 s hs).2.2.trans (a2 s hs).2.2⟩, fun i hi => (b3 i hi).trans (a3 i hi), fun i hi => (b4 i hi).trans (a4 i hi), fun i hi => (b5 i hi).trans (a5 i hi), fun a h1 h2 k hk => (b6 a h1 h2 k hk).trans (a6 a h1 h2 k hk), fun a h1 h2 k hk => (b7 a h1 h2 k hk).trans (a7 a h1 h2 k hk)⟩
theorem R_he {σ m h h' : Rg} {ns N G nn gc pj pg : Nat} {P Q PG QG : Nat → Nat} (hR : R σ m h ns N G nn gc P Q PG QG pj pg) (hE : HE h h' N G) : R σ m h' ns N G nn gc P Q PG QG pj pg := by
  obtain ⟨r1, r2, r3, r4, r5, r6, r7, r8, r9, r10, r11⟩ := hR
  obtain ⟨e60, e6, e63, e64, e65, eJ, eG⟩ := hE
  have hns : ns ≤ 6 := r10.1.1
  have e67 := eJ 67 (by decide) (by decide)
  have e68 := eJ 68 (by decide) (by decide)
  have e69 := eJ 69 (by decide) (by decide)
  have e70 := eJ 70 (by decide) (by decide)
  have e71 := eJ 71 (by decide) (by decide)
  have e72 := eJ 72 (by decide) (by decide)
  have e73 := eJ 73 (by decide) (by decide)
  have e74 := eJ 74 (by decide) (by decide)
  have e75 := eG 75 (by decide) (by decide)
  have e76 := eG 76 (by decide) (by decide)
  have e77 := eG 77 (by decide) (by decide)
  have e78 := eG 78 (by decide) (by decide)
  have e79 := eG 79 (by decide) (by decide)
  refine ⟨r1, r2, fun k hk => ?_, ⟨fun k hk => ?_, fun i j hij hj => ?_⟩, ?_, fun s hs => ?_, fun s hs => ?_, fun s hs => ?_, r9, ?_, ⟨fun j hj => ?_, fun i j hij hj => ?_⟩⟩
  · rw [e67 k hk, e68 k hk, e69 k hk, e70 k hk, e72 k hk, e73 k hk]; exact r3 k hk
  · rw [e67 k hk, e68 k hk, e69 k hk, e70 k hk, e72 k hk, e73 k hk]; exact r4.1 k hk
  · rw [e67 i (by omega), e67 j hj]; exact r4.2 i j hij hj
  · exact LK_cg r5 e67 e68 e70 e71 e74 e76 (fun _ _ => rfl) (fun _ _ => rfl) (fun _ _ => rfl)
  · obtain ⟨w, p1, p2, p3, p4, p5⟩ := r6 s hs
    refine ⟨w, p1, p2, by rw [(e6 s (by omega)).2.2]; exact p3, fun i hi => ?_, p5⟩
    obtain ⟨k, q1, q2, q3, q4, q5⟩ := p4 i hi
    exact ⟨k, q1, q2, by rw [e65 _ (by omega), e67 k q1]; exact q3, by rw [e70 k q1]; exact q4, by rw [e68 k q1]; exact q5⟩
  · have := r7 s hs
    rw [cnt_congr (p := hpr (h' 68 0) (h' 70 0) (nI s)) (q := hpr (h 68 0) (h 70 0) (nI s)) (fun k hk => by unfold hpr; rw [e68 k hk, e70 k hk])]
    exact this
  · obtain ⟨p1, p2, p3, p4⟩ := r8 s hs
    exact ⟨fun t ht => by rw [e63 _ (by omega)]; exact p1 t ht, fun q hq => by rw [e64 _ (by omega)]; exact p2 q hq, by rw [(e6 s hs).2.1]; exact p3, by rw [(e6 s hs).1]; exact p4⟩
  · rw [e60 0 (by omega), e60 15 (by omega), e60 16 (by omega), e60 22 (by omega), e60 23 (by omega), e60 24 (by omega), e60 25 (by omega), e60 26 (by omega), e60 27 (by omega), e60 28 (by omega)]
    exact r10
  · rw [e75 j hj, e77 j hj, e78 j hj, e79 j hj]; exact r11.1 j hj
  · rw [e79 i (by omega), e79 j hj]; exact r11.2 i j hij hj
