/-! the links under each change -/
theorem LK.rem {a67 a68 a70 a71 a74 a76 n16 n17 n25 b67 b68 b70 b71 b74 : Nat → Int32} {N z G pj pg pj' pg' : Nat} {P PG : Nat → Nat} (h : LK a67 a68 a70 a71 a74 a76 n16 n17 n25 N P G PG pj pg) (hz : z < N) (hi : ∀ i j, i < N → j < N → P i = P j → i = j) (hb : ∀ k, k < N → P k < 120)
    (hp : pj = z ∨ N ≤ pj) (hpg : G ≤ pg) (hch : z = pj ∨ n17 (P z) = -1) (hc : ∀ k, k < N - 1 → k ≠ pj' → ¬ n16 (P z) = nI (P (shk z k))) (hg : ∀ j, j < G → j ≠ pg' → ¬ n16 (P z) = nI (1000 + PG j)) (hpc : pj' < N - 1 → n17 (P (shk z pj')) = nI (P z)) (hgc : pg' < G → n25 (PG pg') = nI (P z))
    (e67 : ∀ k, k < N - 1 → b67 k = a67 (shk z k)) (e68 : ∀ k, k < N - 1 → b68 k = a68 (shk z k)) (e70 : ∀ k, k < N - 1 → b70 k = a70 (shk z k)) (e71 : ∀ k, k < N - 1 → b71 k = a71 (shk z k)) (e74 : ∀ k, k < N - 1 → b74 k = a74 (shk z k)) : LK b67 b68 b70 b71 b74 a76 n16 n17 n25 (N - 1) (fun k => P (shk z k)) G PG pj' pg' := by
  obtain ⟨h1, h2, h3, h4⟩ := h
  have pin : ∀ i j, i < N → j < N → nI (P i) = nI (P j) → i = j := fun i j hi' hj' e => hi i j hi' hj' (nI_inj (by have := hb i hi'; omega) (by have := hb j hj'; omega) e)
  refine ⟨?_, ?_, ?_, ?_⟩
  · intro k hk hkp
    have hk2 := shk_lt hz hk
    have hne : shk z k ≠ pj := by
      rcases hp with e | e
      · rw [e]; exact shk_ne z k
      · omega
    rw [e70 k hk, e74 k hk]
    rcases h1 _ hk2 hne with q | ⟨q1, i, q2, q3, q4, q5, q6, q7⟩
    · exact Or.inl q
    · by_cases e : i = z
      · subst e; exact absurd q5 (hc k hk hkp)
      · obtain ⟨i', g1, g2⟩ := shk_onto e q2 hz
        refine Or.inr ⟨q1, i', g1, ?_⟩
        rw [e67 i' g1, e71 i' g1, e67 k hk, e68 i' g1, e68 k hk]
        dsimp only
        rw [g2]
        exact ⟨q3, q4, q5, q6, q7⟩
  · intro i hi'
    dsimp only
    have hi2 := shk_lt hz hi'
    rcases h2 _ hi2 with q | ⟨k, q1, q2, q3, q4⟩ | ⟨j, q1, q2, q3, q4⟩
    · exact Or.inl q
    · have hkz : ¬ k = z := by
        intro e
        rcases hch with e2 | e2
        · exact q2 (e.trans e2)
        · rw [e, e2] at q4
          exact nI_m1 (by have := hb _ hi2; omega) q4.symm
      obtain ⟨k', g1, g2⟩ := shk_onto hkz q1 hz
      refine Or.inr (Or.inl ⟨k', g1, ?_, ?_⟩)
      · intro e
        have := hpc (by omega)
        rw [← e, g2, q4] at this
        exact shk_ne z i (pin _ _ hi2 hz this)
      · rw [g2]; exact ⟨q3, q4⟩
    · refine Or.inr (Or.inr ⟨j, q1, ?_, q3, q4⟩)
      intro e
      have := hgc (by omega)
      rw [← e, q4] at this
      exact shk_ne z i (pin _ _ hi2 hz this)
  · intro j hj hjp
    rcases h3 j hj (by omega) with q | ⟨i, q1, q2, q3, q4, q5, q6⟩
    · exact Or.inl q
    · have hiz : ¬ i = z := by
        rintro rfl
        exact hg j hj hjp q4
      obtain ⟨i', g1, g2⟩ := shk_onto hiz q1 hz
      refine Or.inr ⟨i', g1, ?_⟩
      rw [e67 i' g1, e71 i' g1, e68 i' g1]
      dsimp only
      rw [g2]
      exact ⟨q2, q3, q4, q5, q6⟩
  · intro i hi'
    rw [e71 i hi']
    exact h4 _ (shk_lt hz hi')
theorem LK.addJ {a67 a68 a70 a71 a74 a76 n16 n17 n25 : Nat → Int32} {N G kk p nn : Nat} {s : Int32} {P PG : Nat → Nat} {pj pg : Nat} (h : LK a67 a68 a70 a71 a74 a76 n16 n17 n25 N P G PG pj pg) (hk : kk < N) (hi : ∀ i j, i < N → j < N → P i = P j → i = j) (hb : ∀ k, k < N → P k < 120) (hp : ∀ k, k < N → ¬ P k = p) (hp2 : p < 120) (hj : N + 1 ≤ pj) (hn : ∃ n, n < 1073741824 ∧ a67 kk = nI n) (h2 : a70 kk = 2) (hc : n17 (P kk) = -1) (hs : s = a68 kk + 1) :
    LK (va_up a67 N (nI nn)) (va_up a68 N s) (va_up a70 N 0) (va_up a71 N (a67 kk)) (va_up (va_up a74 N (-1)) kk (nI nn)) a76 (va_up n16 p (nI (P kk))) (va_up (va_up n17 p (-1)) (P kk) (nI p)) n25 (N + 1) (snoc P N p) G PG pj pg := by
  obtain ⟨h1, g2, h3, h4⟩ := h
  have pin : ∀ i j, i < N → j < N → nI (P i) = nI (P j) → i = j := fun i j hi' hj' e => hi i j hi' hj' (nI_inj (by have := hb i hi'; omega) (by have := hb j hj'; omega) e)
  have sn : ∀ k, k < N → snoc P N p k = P k := fun k hk => by unfold snoc; rw [if_neg (by omega)]
  have sN : snoc P N p N = p := by unfold snoc; rw [if_pos rfl]
  have nN : ∀ k, k < N → k ≠ N := fun k hk => by omega
  refine ⟨?_, ?_, ?_, ?_⟩
  · intro k hk' hkp
    by_cases e : k = N
    · subst e
      left
      rw [sN, va_up_ne _ _ (fun e => hp kk hk e.symm), va_up_self, va_up_ne _ _ (fun e => nN kk hk e.symm), va_up_self]
      exact ⟨rfl, rfl⟩
    · have hk2 : k < N := by omega
      rw [sn k hk2, va_up_ne _ _ e]
      by_cases e2 : k = kk
      · subst e2
        right
        refine ⟨h2, N, by omega, ?_⟩
        rw [sN, va_up_self, va_up_self, va_up_self, va_up_self, va_up_self, va_up_ne _ _ e, va_up_self, va_up_ne _ _ e]
        exact ⟨rfl, rfl, rfl, rfl, hs⟩
      · rw [va_up_ne _ _ (fun q => e2 (hi _ _ hk2 hk q)), va_up_ne _ _ (hp k hk2), va_up_ne _ _ e2, va_up_ne _ _ e]
        rcases h1 k hk2 hkp with q | ⟨q1, i, q2, q3, q4, q5, q6, q7⟩
        · exact Or.inl q
        · refine Or.inr ⟨q1, i, by omega, ?_⟩
          rw [sn i q2, va_up_ne _ _ (nN i q2), va_up_ne _ _ (hp i q2), va_up_ne _ _ (nN i q2), va_up_ne _ _ e, va_up_ne _ _ (nN i q2), va_up_ne _ _ e]
          exact ⟨q3, q4, q5, q6, q7⟩
  · intro i hi'
    by_cases e : i = N
    · subst e
      refine Or.inr (Or.inl ⟨kk, by omega, by omega, ?_⟩)
      rw [sN, sn kk hk, va_up_self, va_up_self]
      exact ⟨rfl, rfl⟩
    · have hi2 : i < N := by omega
      rw [sn i hi2, va_up_ne _ _ (hp i hi2)]
      rcases g2 i hi2 with q | ⟨k, q1, q2, q3, q4⟩ | q
      · exact Or.inl q
      · refine Or.inr (Or.inl ⟨k, by omega, q2, ?_⟩)
        have hne : ¬ k = kk := by
          rintro rfl
          rw [hc] at q4
          exact nI_m1 (by have := hb _ hi2; omega) q4.symm
        rw [sn k q1, va_up_ne _ _ (fun q => hne (hi _ _ q1 hk q)), va_up_ne _ _ (hp k q1)]
        exact ⟨q3, q4⟩
      · exact Or.inr (Or.inr q)
  · intro j hj' hjp
    rcases h3 j hj' hjp with q | ⟨i, q1, q2, q3, q4, q5, q6⟩
    · exact Or.inl q
    · refine Or.inr ⟨i, by omega, ?_⟩
      rw [sn i q1, va_up_ne _ _ (nN i q1), va_up_ne _ _ (hp i q1), va_up_ne _ _ (nN i q1), va_up_ne _ _ (nN i q1)]
      exact ⟨q2, q3, q4, q5, q6⟩
  · intro i hi'
    by_cases e : i = N
    · subst e
      rw [va_up_self]
      exact Or.inr hn
    · rw [va_up_ne _ _ e]
      exact h4 i (by omega)
theorem LK.addG {a67 a68 a70 a71 a74 a76 n16 n17 n25 : Nat → Int32} {N G jj p nn : Nat} {P PG : Nat → Nat} {pj pg : Nat} (h : LK a67 a68 a70 a71 a74 a76 n16 n17 n25 N P G PG pj pg) (hj : jj < G) (hi : ∀ i j, i < N → j < N → P i = P j → i = j) (hb : ∀ k, k < N → P k < 120) (hp : ∀ k, k < N → ¬ P k = p) (hp2 : p < 120) (hgi : ∀ i j, i < G → j < G → PG i = PG j → i = j) (hpj : N + 1 ≤ pj) (hpg : G ≤ pg) (hc : n25 (PG jj) = -1) :
    LK (va_up a67 N (nI nn)) (va_up a68 N 0) (va_up a70 N 0) (va_up a71 N (-4)) (va_up a74 N (-1)) (va_up a76 jj (nI nn)) (va_up n16 p (nI (1000 + PG jj))) (va_up n17 p (-1)) (va_up n25 (PG jj) (nI p)) (N + 1) (snoc P N p) G PG pj pg := by
  obtain ⟨h1, g2, h3, h4⟩ := h
  have sn : ∀ k, k < N → snoc P N p k = P k := fun k hk => by unfold snoc; rw [if_neg (by omega)]
  have sN : snoc P N p N = p := by unfold snoc; rw [if_pos rfl]
  have nN : ∀ k, k < N → k ≠ N := fun k hk => by omega
  refine ⟨?_, ?_, ?_, ?_⟩
  · intro k hk' hkp
    by_cases e : k = N
    · subst e
      left
      rw [sN, va_up_self, va_up_self]
      exact ⟨rfl, rfl⟩
    · have hk2 : k < N := by omega
      rw [sn k hk2, va_up_ne _ _ e, va_up_ne _ _ (hp k hk2), va_up_ne _ _ e]
      rcases h1 k hk2 hkp with q | ⟨q1, i, q2, q3, q4, q5, q6, q7⟩
      · exact Or.inl q
      · refine Or.inr ⟨q1, i, by omega, ?_⟩
        rw [sn i q2, va_up_ne _ _ (nN i q2), va_up_ne _ _ (hp i q2), va_up_ne _ _ (nN i q2), va_up_ne _ _ e, va_up_ne _ _ (nN i q2), va_up_ne _ _ e]
        exact ⟨q3, q4, q5, q6, q7⟩
  · intro i hi'
    by_cases e : i = N
    · subst e
      refine Or.inr (Or.inr ⟨jj, hj, by omega, ?_⟩)
      rw [sN, va_up_self, va_up_self]
      exact ⟨rfl, rfl⟩
    · have hi2 : i < N := by omega
      rw [sn i hi2, va_up_ne _ _ (hp i hi2)]
      rcases g2 i hi2 with q | ⟨k, q1, q2, q3, q4⟩ | ⟨j, q1, q2, q3, q4⟩
      · exact Or.inl q
      · refine Or.inr (Or.inl ⟨k, by omega, q2, ?_⟩)
        rw [sn k q1, va_up_ne _ _ (hp k q1)]
        exact ⟨q3, q4⟩
      · refine Or.inr (Or.inr ⟨j, q1, q2, q3, ?_⟩)
        have hne : ¬ j = jj := by
          rintro rfl
          rw [hc] at q4
          exact nI_m1 (by have := hb _ hi2; omega) q4.symm
        rw [va_up_ne _ _ (fun q => hne (hgi _ _ q1 hj q))]
        exact q4
  · intro j hj' hjp
    by_cases e : j = jj
    · subst e
      right
      refine ⟨N, by omega, ?_⟩
      rw [sN, va_up_self, va_up_self, va_up_self, va_up_self, va_up_self, va_up_self]
      exact ⟨rfl, rfl, rfl, rfl, rfl⟩
    · rw [va_up_ne _ _ (fun q => e (hgi _ _ hj' hj q)), va_up_ne _ _ e]
      rcases h3 j hj' hjp with q | ⟨i, q1, q2, q3, q4, q5, q6⟩
      · exact Or.inl q
      · refine Or.inr ⟨i, by omega, ?_⟩
        rw [sn i q1, va_up_ne _ _ (nN i q1), va_up_ne _ _ (hp i q1), va_up_ne _ _ (nN i q1), va_up_ne _ _ (nN i q1)]
        exact ⟨q2, q3, q4, q5, q6⟩
  · intro i hi'
    by_cases e : i = N
    · subst e
      rw [va_up_self]
      exact Or.inl rfl
    · rw [va_up_ne _ _ e]
      exact h4 i (by omega)
/-- a pending job's child is cleared: nothing is pending -/
theorem LK.fail {a67 a68 a70 a71 a74 a76 n16 n17 n25 : Nat → Int32} {N G kk pj pg : Nat} {P PG : Nat → Nat} (h : LK a67 a68 a70 a71 a74 a76 n16 n17 n25 N P G PG kk pg) (hk : kk < N) (hi : ∀ i j, i < N → j < N → P i = P j → i = j) (hpj : N ≤ pj) : LK a67 a68 a70 a71 (va_up a74 kk (-1)) a76 n16 (va_up n17 (P kk) (-1)) n25 N P G PG pj pg := by
  obtain ⟨h1, g2, h3, h4⟩ := h
  refine ⟨?_, ?_, h3, h4⟩
  · intro k hk' hkp
    by_cases e : k = kk
    · subst e
      rw [va_up_self, va_up_self]
      exact Or.inl ⟨rfl, rfl⟩
    · rw [va_up_ne _ _ (fun q => e (hi _ _ hk' hk q)), va_up_ne _ _ e]
      exact h1 k hk' e
  · intro i hi'
    rcases g2 i hi' with q | ⟨k, q1, q2, q3, q4⟩ | q
    · exact Or.inl q
    · refine Or.inr (Or.inl ⟨k, q1, by omega, q3, ?_⟩)
      rw [va_up_ne _ _ (fun q => q2 (hi _ _ q1 hk q))]
      exact q4
    · exact Or.inr (Or.inr q)
/-- a job without a child may be called pending -/
theorem LK.weak {a67 a68 a70 a71 a74 a76 n16 n17 n25 : Nat → Int32} {N G kk pj pg : Nat} {P PG : Nat → Nat} (h : LK a67 a68 a70 a71 a74 a76 n16 n17 n25 N P G PG pj pg) (hpj : N ≤ pj) (hb : ∀ k, k < N → P k < 120) (hc : n17 (P kk) = -1) : LK a67 a68 a70 a71 a74 a76 n16 n17 n25 N P G PG kk pg := by
  obtain ⟨h1, g2, h3, h4⟩ := h
  refine ⟨fun k hk _ => h1 k hk (by omega), fun i hi' => ?_, h3, h4⟩
  rcases g2 i hi' with q | ⟨k, q1, q2, q3, q4⟩ | q
  · exact Or.inl q
  · refine Or.inr (Or.inl ⟨k, q1, ?_, q3, q4⟩)
    rintro rfl
    rw [hc] at q4
    exact nI_m1 (by have := hb _ hi'; omega) q4.symm
  · exact Or.inr (Or.inr q)
/-- a job gives its child up: it is pending then -/
theorem LK.give {a67 a68 a70 a71 a74 a76 n16 n17 n25 : Nat → Int32} {N G kk i pj pg : Nat} {P PG : Nat → Nat} (h : LK a67 a68 a70 a71 a74 a76 n16 n17 n25 N P G PG pj pg) (hpj : N ≤ pj) (hk : kk < N) (hi' : i < N) (hi : ∀ i j, i < N → j < N → P i = P j → i = j) (hb : ∀ k, k < N → P k < 120) (hgb : ∀ j, j < G → PG j < 100) (h17 : n17 (P kk) = nI (P i)) : LK a67 a68 a70 a71 a74 a76 (va_up n16 (P i) (-1)) n17 n25 N P G PG kk pg := by
  obtain ⟨h1, g2, h3, h4⟩ := h
  have pin : ∀ i j, i < N → j < N → nI (P i) = nI (P j) → i = j := fun i j hi' hj' e => hi i j hi' hj' (nI_inj (by have := hb i hi'; omega) (by have := hb j hj'; omega) e)
  obtain ⟨i16, i68⟩ : n16 (P i) = nI (P kk) ∧ True := by
    rcases h1 kk hk (by omega) with q | ⟨q1, i2, q2, q3, q4, q5, q6, q7⟩
    · rw [q.1] at h17; exact absurd h17.symm (nI_m1 (by have := hb _ hi'; omega))
    · rw [h17] at q3
      rw [pin _ _ hi' q2 q3]
      exact ⟨q5, trivial⟩
  refine ⟨?_, ?_, ?_, h4⟩
  · intro k hk' hkp
    rcases h1 k hk' (by omega) with q | ⟨q1, i2, q2, q3, q4, q5, q6, q7⟩
    · exact Or.inl q
    · refine Or.inr ⟨q1, i2, q2, q3, q4, ?_, q6, q7⟩
      have hne : ¬ i2 = i := by
        rintro rfl
        rw [i16] at q5
        exact hkp (pin _ _ hk hk' q5).symm
      rw [va_up_ne _ _ (fun q => hne (hi _ _ q2 hi' q))]
      exact q5
  · intro x hx
    by_cases e : x = i
    · subst e
      rw [va_up_self]
      exact Or.inl rfl
    · rw [va_up_ne _ _ (fun q => e (hi _ _ hx hi' q))]
      rcases g2 x hx with q | ⟨k, q1, q2, q3, q4⟩ | q
      · exact Or.inl q
      · refine Or.inr (Or.inl ⟨k, q1, ?_, q3, q4⟩)
        rintro rfl
        rw [h17] at q4
        exact e (pin _ _ hi' hx q4).symm
      · exact Or.inr (Or.inr q)
  · intro j hj hjp
    rcases h3 j hj hjp with q | ⟨i2, q1, q2, q3, q4, q5, q6⟩
    · exact Or.inl q
    · refine Or.inr ⟨i2, q1, q2, q3, ?_, q5, q6⟩
      have hne : ¬ i2 = i := by
        rintro rfl
        rw [i16] at q4
        have := nI_inj (by have := hb _ hk; omega) (by have := hgb j hj; omega) q4
        have := hb _ hk
        omega
      rw [va_up_ne _ _ (fun q => hne (hi _ _ q1 hi' q))]
      exact q4
theorem LK.st {a67 a68 a70 a71 a74 a76 n16 n17 n25 : Nat → Int32} {N G kk pj pg : Nat} {P PG : Nat → Nat} {u : Int32} (h : LK a67 a68 a70 a71 a74 a76 n16 n17 n25 N P G PG pj pg) (hb : ∀ k, k < N → P k < 120) (hc : kk = pj ∨ n17 (P kk) = -1) : LK a67 a68 (va_up a70 kk u) a71 a74 a76 n16 n17 n25 N P G PG pj pg := by
  obtain ⟨h1, g2, h3, h4⟩ := h
  refine ⟨fun k hk hkp => ?_, g2, h3, h4⟩
  by_cases e : k = kk
  · subst e
    rcases h1 k hk hkp with q | ⟨q1, i, q2, q3, -⟩
    · exact Or.inl q
    · rcases hc with w | w
      · exact absurd w hkp
      · rw [w] at q3; exact absurd q3.symm (nI_m1 (by have := hb _ q2; omega))
  · rw [va_up_ne _ _ e]
    exact h1 k hk hkp
/-- guests -/
theorem LK.grem {a67 a68 a70 a71 a74 a76 n16 n17 n25 b76 : Nat → Int32} {N z G pj pg pg' : Nat} {P PG : Nat → Nat} (h : LK a67 a68 a70 a71 a74 a76 n16 n17 n25 N P G PG pj pg) (hz : z < G) (hb : ∀ k, k < N → P k < 120) (hp : pg = z ∨ G ≤ pg) (hpg : G - 1 ≤ pg') (hc : z = pg ∨ n25 (PG z) = -1) (e76 : ∀ k, k < G - 1 → b76 k = a76 (shk z k)) : LK a67 a68 a70 a71 a74 b76 n16 n17 n25 N P (G - 1) (fun k => PG (shk z k)) pj pg' := by
  obtain ⟨h1, g2, h3, h4⟩ := h
  refine ⟨h1, ?_, ?_, h4⟩
  · intro i hi'
    rcases g2 i hi' with q | q | ⟨j, q1, q2, q3, q4⟩
    · exact Or.inl q
    · exact Or.inr (Or.inl q)
    · have hjz : ¬ j = z := by
        intro e
        rcases hc with w | w
        · exact q2 (e.trans w)
        · rw [e, w] at q4
          exact nI_m1 (by have := hb _ hi'; omega) q4.symm
      obtain ⟨j', w1, w2⟩ := shk_onto hjz q1 hz
      refine Or.inr (Or.inr ⟨j', w1, by omega, ?_⟩)
      dsimp only
      rw [w2]
      exact ⟨q3, q4⟩
  · intro j hj hjp
    have hj2 := shk_lt hz hj
    have hne : shk z j ≠ pg := by
      rcases hp with e | e
      · rw [e]; exact shk_ne z j
      · omega
    rw [e76 j hj]
    exact h3 _ hj2 hne
theorem LK.gset {a67 a68 a70 a71 a74 a76 n16 n17 n25 : Nat → Int32} {N z G pj pg : Nat} {P PG : Nat → Nat} (h : LK a67 a68 a70 a71 a74 a76 n16 n17 n25 N P G PG pj z) (hz : z < G) (hgi : ∀ i j, i < G → j < G → PG i = PG j → i = j) (hpg : G ≤ pg) : LK a67 a68 a70 a71 a74 (va_up a76 z (-3)) n16 n17 (va_up n25 (PG z) (-1)) N P G PG pj pg := by
  obtain ⟨h1, g2, h3, h4⟩ := h
  refine ⟨h1, ?_, ?_, h4⟩
  · intro i hi'
    rcases g2 i hi' with q | q | ⟨j, q1, q2, q3, q4⟩
    · exact Or.inl q
    · exact Or.inr (Or.inl q)
    · refine Or.inr (Or.inr ⟨j, q1, by omega, q3, ?_⟩)
      rw [va_up_ne _ _ (fun q => q2 (hgi _ _ q1 hz q))]
      exact q4
  · intro j hj hjp
    by_cases e : j = z
    · subst e
      rw [va_up_self, va_up_self]
      exact Or.inl ⟨rfl, rfl⟩
    · rw [va_up_ne _ _ (fun q => e (hgi _ _ hj hz q)), va_up_ne _ _ e]
      exact h3 j hj e
theorem LK.gweak {a67 a68 a70 a71 a74 a76 n16 n17 n25 : Nat → Int32} {N z G pj pg : Nat} {P PG : Nat → Nat} (h : LK a67 a68 a70 a71 a74 a76 n16 n17 n25 N P G PG pj pg) (hpg : G ≤ pg) (hb : ∀ k, k < N → P k < 120) (hc : n25 (PG z) = -1) : LK a67 a68 a70 a71 a74 a76 n16 n17 n25 N P G PG pj z := by
  obtain ⟨h1, g2, h3, h4⟩ := h
  refine ⟨h1, fun i hi' => ?_, fun j hj _ => h3 j hj (by omega), h4⟩
  rcases g2 i hi' with q | q | ⟨j, q1, q2, q3, q4⟩
  · exact Or.inl q
  · exact Or.inr (Or.inl q)
  · refine Or.inr (Or.inr ⟨j, q1, ?_, q3, q4⟩)
    rintro rfl
    rw [hc] at q4
    exact nI_m1 (by have := hb _ hi'; omega) q4.symm
/-- a guest gives its job up: it is pending then -/
theorem LK.ggive {a67 a68 a70 a71 a74 a76 n16 n17 n25 : Nat → Int32} {N z G i pj pg : Nat} {P PG : Nat → Nat} (h : LK a67 a68 a70 a71 a74 a76 n16 n17 n25 N P G PG pj pg) (hpj : N ≤ pj) (hpg : G ≤ pg) (hz : z < G) (hi' : i < N) (hi : ∀ i j, i < N → j < N → P i = P j → i = j) (hb : ∀ k, k < N → P k < 120) (hgi : ∀ i j, i < G → j < G → PG i = PG j → i = j) (hgb : ∀ j, j < G → PG j < 100) (h25 : n25 (PG z) = nI (P i)) : LK a67 a68 a70 a71 a74 a76 (va_up n16 (P i) (-1)) n17 n25 N P G PG pj z := by
  obtain ⟨h1, g2, h3, h4⟩ := h
  have pin : ∀ i j, i < N → j < N → nI (P i) = nI (P j) → i = j := fun i j hi' hj' e => hi i j hi' hj' (nI_inj (by have := hb i hi'; omega) (by have := hb j hj'; omega) e)
  have i16 : n16 (P i) = nI (1000 + PG z) := by
    rcases h3 z hz (by omega) with q | ⟨i2, q1, q2, q3, q4, q5⟩
    · rw [q.1] at h25; exact absurd h25.symm (nI_m1 (by have := hb _ hi'; omega))
    · rw [h25] at q2
      rw [pin _ _ hi' q1 q2]
      exact q4
  refine ⟨?_, ?_, ?_, h4⟩
  · intro k hk' hkp
    rcases h1 k hk' hkp with q | ⟨q1, i2, q2, q3, q4, q5, q6, q7⟩
    · exact Or.inl q
    · refine Or.inr ⟨q1, i2, q2, q3, q4, ?_, q6, q7⟩
      have hne : ¬ i2 = i := by
        rintro rfl
        rw [i16] at q5
        have := nI_inj (by have := hgb _ hz; omega) (by have := hb _ hk'; omega) q5
        have := hb _ hk'
        omega
      rw [va_up_ne _ _ (fun q => hne (hi _ _ q2 hi' q))]
      exact q5
  · intro x hx
    by_cases e : x = i
    · subst e
      rw [va_up_self]
      exact Or.inl rfl
    · rw [va_up_ne _ _ (fun q => e (hi _ _ hx hi' q))]
      rcases g2 x hx with q | q | ⟨j, q1, q2, q3, q4⟩
      · exact Or.inl q
      · exact Or.inr (Or.inl q)
      · refine Or.inr (Or.inr ⟨j, q1, ?_, q3, q4⟩)
        rintro rfl
        rw [h25] at q4
        exact e (pin _ _ hi' hx q4).symm
  · intro j hj hjp
    rcases h3 j hj (by omega) with q | ⟨i2, q1, q2, q3, q4, q5, q6⟩
    · exact Or.inl q
    · refine Or.inr ⟨i2, q1, q2, q3, ?_, q5, q6⟩
      have hne : ¬ i2 = i := by
        rintro rfl
        rw [i16] at q4
        have := nI_inj (by have := hgb _ hz; omega) (by have := hgb j hj; omega) q4
        exact hjp (hgi _ _ hj hz (by omega))
      rw [va_up_ne _ _ (fun q => hne (hi _ _ q1 hi' q))]
      exact q4
theorem LK.gadd {a67 a68 a70 a71 a74 a76 n16 n17 n25 : Nat → Int32} {N G p pj pg : Nat} {P PG : Nat → Nat} (h : LK a67 a68 a70 a71 a74 a76 n16 n17 n25 N P G PG pj pg) (hpg : G ≤ pg) (hp : ∀ k, k < G → ¬ PG k = p) : LK a67 a68 a70 a71 a74 a76 n16 n17 (va_up n25 p (-1)) N P (G + 1) (snoc PG G p) pj G := by
  obtain ⟨h1, g2, h3, h4⟩ := h
  have sn : ∀ k, k < G → snoc PG G p k = PG k := fun k hk => by unfold snoc; rw [if_neg (by omega)]
  refine ⟨h1, ?_, ?_, h4⟩
  · intro i hi'
    rcases g2 i hi' with q | q | ⟨j, q1, q2, q3, q4⟩
    · exact Or.inl q
    · exact Or.inr (Or.inl q)
    · refine Or.inr (Or.inr ⟨j, by omega, by omega, ?_⟩)
      rw [sn j q1, va_up_ne _ _ (hp j q1)]
      exact ⟨q3, q4⟩
  · intro j hj hjp
    have hj2 : j < G := by omega
    rw [sn j hj2, va_up_ne _ _ (hp j hj2)]
    exact h3 j hj2 (by omega)
