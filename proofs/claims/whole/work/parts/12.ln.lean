/-! A LINE: taken places in order, and the free ones -/
def LN (L bf bh : Nat → Int32) (cap N : Nat) (P Q : Nat → Nat) : Prop :=
  N ≤ cap ∧ (∀ k, k < N → P k < cap) ∧ (∀ k, k < cap - N → Q k < cap) ∧ (∀ i j, i < N → j < N → P i = P j → i = j) ∧ (∀ i j, i < cap - N → j < cap - N → Q i = Q j → i = j) ∧ (∀ i j, i < N → j < cap - N → ¬ P i = Q j) ∧
  L 5 = nI N ∧ (L 2 = if N = 0 then -1 else nI (P 0)) ∧ (L 3 = if N = 0 then -1 else nI (P (N - 1))) ∧ (L 4 = if N = cap then -1 else nI (Q 0)) ∧
  (∀ k, k < N → bh (P k) = if k + 1 < N then nI (P (k + 1)) else -1) ∧ (∀ k, k < N → bf (P k) = if k = 0 then -1 else nI (P (k - 1))) ∧ (∀ k, k < cap - N → bh (Q k) = if k + 1 < cap - N then nI (Q (k + 1)) else -1)
/-- one more at the end; one taken out -/
def snoc (P : Nat → Nat) (N p : Nat) : Nat → Nat := fun k => if k = N then p else P k
def tail1 (Q : Nat → Nat) : Nat → Nat := fun k => Q (k + 1)
def cons1 (p : Nat) (Q : Nat → Nat) : Nat → Nat := fun k => if k = 0 then p else Q (k - 1)
def shk (z k : Nat) : Nat := if k < z then k else k + 1
theorem LN_take {L bf bh L' bf' bh' : Nat → Int32} {cap N : Nat} {P Q : Nat → Nat} (h : LN L bf bh cap N P Q) (hN : N < cap) (hc : cap < 2000)
    (e5 : L' 5 = nI (N + 1)) (e4 : L' 4 = bh (Q 0)) (e3 : L' 3 = nI (Q 0)) (e2 : L' 2 = if N = 0 then nI (Q 0) else L 2) (ef : ∀ x, bf' x = if x = Q 0 then L 3 else bf x) (eh : ∀ x, bh' x = if ¬ N = 0 ∧ x = P (N - 1) then nI (Q 0) else if x = Q 0 then -1 else bh x) : LN L' bf' bh' cap (N + 1) (snoc P N (Q 0)) (tail1 Q) := by
  obtain ⟨h1, h2, h3, h4, h5, h6, h7, h8, h9, h10, h11, h12, h13⟩ := h
  refine ⟨by omega, ?_, ?_, ?_, ?_, ?_, e5, ?_, ?_, ?_, ?_, ?_, ?_⟩
  · grind [snoc]
  · grind [tail1]
  · grind [snoc]
  · grind [tail1]
  · grind [snoc, tail1]
  · grind [snoc]
  · grind [snoc]
  · grind [tail1]
  · grind [snoc]
  · grind [snoc]
  · grind [tail1]
theorem LN_give {L bf bh L' bf' bh' : Nat → Int32} {cap N z : Nat} {P Q : Nat → Nat} (h : LN L bf bh cap N P Q) (hz : z < N) (hc : cap < 2000)
    (e5 : L' 5 = nI (N - 1)) (e4 : L' 4 = nI (P z)) (e3 : L' 3 = if z + 1 = N then bf (P z) else L 3) (e2 : L' 2 = if z = 0 then bh (P z) else L 2) (ef : ∀ x, bf' x = if z + 1 < N ∧ x = P (z + 1) then bf (P z) else bf x) (eh : ∀ x, bh' x = if x = P z then L 4 else if ¬ z = 0 ∧ x = P (z - 1) then bh (P z) else bh x) : LN L' bf' bh' cap (N - 1) (fun k => P (shk z k)) (cons1 (P z) Q) := by
  obtain ⟨h1, h2, h3, h4, h5, h6, h7, h8, h9, h10, h11, h12, h13⟩ := h
  have hs : ∀ k, k < N - 1 → shk z k < N ∧ ¬ shk z k = z := by intro k hk; unfold shk; split <;> omega
  have hp : ∀ k, k < N - 1 → ¬ P (shk z k) = P z := fun k hk e => (hs k hk).2 (h4 _ _ (hs k hk).1 hz e)
  refine ⟨by omega, ?_, ?_, ?_, ?_, ?_, e5, ?_, ?_, ?_, ?_, ?_, ?_⟩
  · exact fun k hk => h2 _ (hs k hk).1
  · intro k hk
    unfold cons1
    split
    · exact h2 z hz
    · exact h3 _ (by omega)
  · intro i j hi hj e
    have := h4 _ _ (hs i hi).1 (hs j hj).1 e
    unfold shk at this
    split at this <;> split at this <;> omega
  · intro i j hi hj e
    unfold cons1 at e
    split at e <;> split at e
    · omega
    · exact absurd e (h6 z _ hz (by omega))
    · exact absurd e.symm (h6 z _ hz (by omega))
    · have := h5 _ _ (by omega) (by omega) e
      omega
  · intro i j hi hj e
    unfold cons1 at e
    split at e
    · exact hp i hi e
    · exact h6 _ _ (hs i hi).1 (by omega) e
  · rw [e2]
    by_cases q : z = 0
    · rw [if_pos q, h11 z hz]
      by_cases q2 : N - 1 = 0
      · rw [if_pos q2, if_neg (by omega)]
      · rw [if_neg q2, if_pos (by omega)]
        show _ = nI (P (shk z 0))
        unfold shk
        rw [if_neg (by omega), q]
    · rw [if_neg q, h8, if_neg (by omega), if_neg (by omega)]
      show _ = nI (P (shk z 0))
      unfold shk
      rw [if_pos (by omega)]
  · rw [e3]
    by_cases q : z + 1 = N
    · rw [if_pos q, h12 z hz]
      by_cases q2 : z = 0
      · rw [if_pos q2, if_pos (by omega)]
      · rw [if_neg q2, if_neg (by omega)]
        show _ = nI (P (shk z (N - 1 - 1)))
        unfold shk
        rw [if_pos (by omega), show N - 1 - 1 = z - 1 by omega]
    · rw [if_neg q, h9, if_neg (by omega), if_neg (by omega)]
      show _ = nI (P (shk z (N - 1 - 1)))
      unfold shk
      rw [if_neg (by omega), show N - 1 - 1 + 1 = N - 1 by omega]
  · rw [e4, if_neg (by omega)]
    rfl
  · intro k hk
    dsimp only
    rw [eh, if_neg (hp k hk)]
    by_cases q : k + 1 = z
    · have e1 : shk z k = z - 1 := by unfold shk; rw [if_pos (by omega)]; omega
      rw [e1, if_pos ⟨by omega, rfl⟩, h11 z hz]
      by_cases q2 : z + 1 < N
      · rw [if_pos q2, if_pos (by omega)]
        show _ = nI (P (shk z (k + 1)))
        unfold shk
        rw [if_neg (by omega), q]
      · rw [if_neg q2, if_neg (by omega)]
    · rw [if_neg (fun e => q (by
        have := h4 _ _ (hs k hk).1 (by omega) e.2
        unfold shk at this
        split at this <;> omega)), h11 _ (hs k hk).1]
      by_cases q2 : k < z
      · have e1 : shk z k = k := by unfold shk; rw [if_pos q2]
        have e2 : shk z (k + 1) = k + 1 := by unfold shk; rw [if_pos (by omega)]
        rw [e1, if_pos (by omega), if_pos (by omega), e2]
      · have e1 : shk z k = k + 1 := by unfold shk; rw [if_neg q2]
        have e2 : shk z (k + 1) = k + 1 + 1 := by unfold shk; rw [if_neg (by omega)]
        rw [e1, e2]
        by_cases q3 : k + 1 < N - 1
        · rw [if_pos (by omega), if_pos q3]
        · rw [if_neg (by omega), if_neg q3]
  · intro k hk
    dsimp only
    rw [ef]
    by_cases q : k = z
    · subst q
      have e1 : shk k k = k + 1 := by unfold shk; rw [if_neg (by omega)]
      rw [e1, if_pos ⟨by omega, rfl⟩, h12 k hz]
      by_cases q2 : k = 0
      · rw [if_pos q2, if_pos q2]
      · rw [if_neg q2, if_neg q2]
        show _ = nI (P (shk k (k - 1)))
        unfold shk
        rw [if_pos (by omega)]
    · rw [if_neg (fun e => q (by
        have := h4 _ _ (hs k hk).1 e.1 e.2
        unfold shk at this
        split at this <;> omega)), h12 _ (hs k hk).1]
      by_cases q2 : k < z
      · have e1 : shk z k = k := by unfold shk; rw [if_pos q2]
        rw [e1]
        by_cases q3 : k = 0
        · rw [if_pos q3, if_pos q3]
        · rw [if_neg q3, if_neg q3]
          show _ = nI (P (shk z (k - 1)))
          unfold shk
          rw [if_pos (by omega)]
      · have e1 : shk z k = k + 1 := by unfold shk; rw [if_neg q2]
        rw [e1, if_neg (by omega), if_neg (by omega)]
        show _ = nI (P (shk z (k - 1)))
        unfold shk
        rw [if_neg (by omega), show k - 1 + 1 = k + 1 - 1 by omega]
  · intro k hk
    rw [eh]
    unfold cons1
    by_cases q : k = 0
    · rw [if_pos q, if_pos rfl, h10]
      by_cases q2 : N = cap
      · rw [if_pos q2, if_neg (by omega)]
      · rw [if_neg q2, if_pos (by omega), if_neg (by omega), q]
    · rw [if_neg q, if_neg (fun e => h6 z _ hz (by omega) e.symm), if_neg (fun e => h6 (z - 1) (k - 1) (by omega) (by omega) e.2.symm), h13 _ (by omega)]
      by_cases q3 : k + 1 < cap - (N - 1)
      · rw [if_pos (show k - 1 + 1 < cap - N by omega), if_pos q3, if_neg (show ¬ k + 1 = 0 by omega), show k + 1 - 1 = k - 1 + 1 by omega]
      · rw [if_neg (show ¬ k - 1 + 1 < cap - N by omega), if_neg q3]
