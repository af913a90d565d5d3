/-! count -/
theorem swk {L : List Nat} {n k k' t : Nat} (hn : n ≤ 100) (hL : L.length = n) (hk : k < n) (h : L[k']? = some t) (e : nI k = nI k') : L[k]? = some t := by
  have h1 : k' < L.length := by
    rcases Nat.lt_or_ge k' L.length with q | q
    · exact q
    · rw [List.getElem?_eq_none q] at h; cases h
  have := nI_inj (a := k) (b := k') (by omega) (by omega) e
  subst this
  exact h
theorem CALL_count (x : Int32) : CALL 59 121 [.inl x] := by
  intro μ hB
  obtain ⟨ns, N, G, nn, gc, t, pd, P, Q, PG, QG, hR, h11, h0, ht, hnn, hgc, h14, ⟨tn, hT⟩, hU, hpr, hfr⟩ := id hB
  obtain ⟨c1, c2, c3, c4, c5, c6, c7, c8, c9, c10, c11, c12⟩ := hR.2.2.2.2.2.2.2.2.2.1
  have l1 : μ 1 9 0 5 = nI N := hR.1.2.2.2.2.2.2.1
  have l2 : μ 1 21 0 5 = nI G := hR.2.1.2.2.2.2.2.2.1
  obtain ⟨tt, _, t1, t2⟩ := c6
  by_cases hx : ∃ k, k < 12 ∧ x = nI k
  · obtain ⟨k, hk, rfl⟩ := hx
    rcases (show k = 0 ∨ k = 1 ∨ k = 2 ∨ k = 3 ∨ k = 4 ∨ k = 5 ∨ k = 6 ∨ k = 7 ∨ k = 8 ∨ k = 9 ∨ k = 10 ∨ k = 11 by omega) with rfl | rfl | rfl | rfl | rfl | rfl | rfl | rfl | rfl | rfl | rfl | rfl
    · refine ⟨μ 1 1 0 1, μ, μ, fun d => M59 ⟨fun k' t hk' hx' => ?_, fun h => absurd rfl (h 0 (by decide))⟩, fun d => M121 ⟨fun k' t hk' hx' => ?_, fun h => absurd rfl (h 0 (by decide))⟩, hB⟩
      · have e : 64 = t := Option.some.inj (swk (n := 12) (by decide) rfl hk hk' hx')
        subst e; exact B59_64.mpr rfl
      · have e : 64 = t := Option.some.inj (swk (n := 12) (by decide) rfl hk hk' hx')
        subst e; rw [c1.2.1.trans c1.2.2.symm]; exact B121_64.mpr rfl
    · refine ⟨μ 1 1 0 2, μ, μ, fun d => M59 ⟨fun k' t hk' hx' => ?_, fun h => absurd rfl (h 1 (by decide))⟩, fun d => M121 ⟨fun k' t hk' hx' => ?_, fun h => absurd rfl (h 1 (by decide))⟩, hB⟩
      · have e : 72 = t := Option.some.inj (swk (n := 12) (by decide) rfl hk hk' hx')
        subst e; exact B59_72.mpr rfl
      · have e : 69 = t := Option.some.inj (swk (n := 12) (by decide) rfl hk hk' hx')
        subst e; rw [t1.trans t2.symm]; exact B121_69.mpr rfl
    · refine ⟨μ 1 9 0 5, μ, μ, fun d => M59 ⟨fun k' t hk' hx' => ?_, fun h => absurd rfl (h 2 (by decide))⟩, fun d => M121 ⟨fun k' t hk' hx' => ?_, fun h => absurd rfl (h 2 (by decide))⟩, hB⟩
      · have e : 80 = t := Option.some.inj (swk (n := 12) (by decide) rfl hk hk' hx')
        subst e; exact B59_80.mpr rfl
      · have e : 77 = t := Option.some.inj (swk (n := 12) (by decide) rfl hk hk' hx')
        subst e; rw [l1.trans c2.symm]; exact B121_77.mpr rfl
    · refine ⟨μ 1 21 0 5, μ, μ, fun d => M59 ⟨fun k' t hk' hx' => ?_, fun h => absurd rfl (h 3 (by decide))⟩, fun d => M121 ⟨fun k' t hk' hx' => ?_, fun h => absurd rfl (h 3 (by decide))⟩, hB⟩
      · have e : 94 = t := Option.some.inj (swk (n := 12) (by decide) rfl hk hk' hx')
        subst e; exact B59_94.mpr rfl
      · have e : 85 = t := Option.some.inj (swk (n := 12) (by decide) rfl hk hk' hx')
        subst e; rw [l2.trans c3.symm]; exact B121_85.mpr rfl
    · refine ⟨μ 1 20 0 7, μ, μ, fun d => M59 ⟨fun k' t hk' hx' => ?_, fun h => absurd rfl (h 4 (by decide))⟩, fun d => M121 ⟨fun k' t hk' hx' => ?_, fun h => absurd rfl (h 4 (by decide))⟩, hB⟩
      · have e : 108 = t := Option.some.inj (swk (n := 12) (by decide) rfl hk hk' hx')
        subst e; exact B59_108.mpr rfl
      · have e : 93 = t := Option.some.inj (swk (n := 12) (by decide) rfl hk hk' hx')
        subst e; rw [c5.2.1.trans c5.2.2.symm]; exact B121_93.mpr rfl
    · refine ⟨μ 1 20 0 8, μ, μ, fun d => M59 ⟨fun k' t hk' hx' => ?_, fun h => absurd rfl (h 5 (by decide))⟩, fun d => M121 ⟨fun k' t hk' hx' => ?_, fun h => absurd rfl (h 5 (by decide))⟩, hB⟩
      · have e : 119 = t := Option.some.inj (swk (n := 12) (by decide) rfl hk hk' hx')
        subst e; exact B59_119.mpr rfl
      · have e : 101 = t := Option.some.inj (swk (n := 12) (by decide) rfl hk hk' hx')
        subst e; rw [c9]; exact B121_101.mpr rfl
    · refine ⟨μ 1 20 0 9, μ, μ, fun d => M59 ⟨fun k' t hk' hx' => ?_, fun h => absurd rfl (h 6 (by decide))⟩, fun d => M121 ⟨fun k' t hk' hx' => ?_, fun h => absurd rfl (h 6 (by decide))⟩, hB⟩
      · have e : 130 = t := Option.some.inj (swk (n := 12) (by decide) rfl hk hk' hx')
        subst e; exact B59_130.mpr rfl
      · have e : 109 = t := Option.some.inj (swk (n := 12) (by decide) rfl hk hk' hx')
        subst e; rw [c10]; exact B121_109.mpr rfl
    · refine ⟨μ 1 20 0 10, μ, μ, fun d => M59 ⟨fun k' t hk' hx' => ?_, fun h => absurd rfl (h 7 (by decide))⟩, fun d => M121 ⟨fun k' t hk' hx' => ?_, fun h => absurd rfl (h 7 (by decide))⟩, hB⟩
      · have e : 141 = t := Option.some.inj (swk (n := 12) (by decide) rfl hk hk' hx')
        subst e; exact B59_141.mpr rfl
      · have e : 117 = t := Option.some.inj (swk (n := 12) (by decide) rfl hk hk' hx')
        subst e; rw [c11]; exact B121_117.mpr rfl
    · refine ⟨μ 1 1 0 4, μ, μ, fun d => M59 ⟨fun k' t hk' hx' => ?_, fun h => absurd rfl (h 8 (by decide))⟩, fun d => M121 ⟨fun k' t hk' hx' => ?_, fun h => absurd rfl (h 8 (by decide))⟩, hB⟩
      · have e : 152 = t := Option.some.inj (swk (n := 12) (by decide) rfl hk hk' hx')
        subst e; exact B59_152.mpr rfl
      · have e : 125 = t := Option.some.inj (swk (n := 12) (by decide) rfl hk hk' hx')
        subst e; rw [c8]; exact B121_125.mpr rfl
    · refine ⟨μ 1 28 0 3, μ, μ, fun d => M59 ⟨fun k' t hk' hx' => ?_, fun h => absurd rfl (h 9 (by decide))⟩, fun d => M121 ⟨fun k' t hk' hx' => ?_, fun h => absurd rfl (h 9 (by decide))⟩, hB⟩
      · have e : 160 = t := Option.some.inj (swk (n := 12) (by decide) rfl hk hk' hx')
        subst e; exact B59_160.mpr rfl
      · have e : 133 = t := Option.some.inj (swk (n := 12) (by decide) rfl hk hk' hx')
        subst e; rw [hT.2.1.trans hT.2.2.1.symm]; exact B121_133.mpr rfl
    · refine ⟨μ 1 8 0 9, μ, μ, fun d => M59 ⟨fun k' t hk' hx' => ?_, fun h => absurd rfl (h 10 (by decide))⟩, fun d => M121 ⟨fun k' t hk' hx' => ?_, fun h => absurd rfl (h 10 (by decide))⟩, hB⟩
      · have e : 171 = t := Option.some.inj (swk (n := 12) (by decide) rfl hk hk' hx')
        subst e; exact B59_171.mpr rfl
      · have e : 138 = t := Option.some.inj (swk (n := 12) (by decide) rfl hk hk' hx')
        subst e; rw [c4.2.1.trans c4.2.2.symm]; exact B121_138.mpr rfl
    · refine ⟨if μ 1 1 0 3 = 0 then 0 else 1, μ, μ, fun d => M59 ⟨fun k' t hk' hx' => ?_, fun h => absurd rfl (h 11 (by decide))⟩, fun d => M121 ⟨fun k' t hk' hx' => ?_, fun h => absurd rfl (h 11 (by decide))⟩, hB⟩
      · have e : 182 = t := Option.some.inj (swk (n := 12) (by decide) rfl hk hk' hx')
        subst e; exact B59_182.mpr ⟨fun e => by rw [if_pos e]; exact B59_197.mpr rfl, fun e => by rw [if_neg e]; exact B59_197.mpr rfl⟩
      · have e : 146 = t := Option.some.inj (swk (n := 12) (by decide) rfl hk hk' hx')
        subst e; rw [c7.1]; exact B121_146.mpr ⟨fun e => by rw [if_pos e]; exact B121_161.mpr rfl, fun e => by rw [if_neg e]; exact B121_161.mpr rfl⟩
  · have hno : ∀ k : Nat, k < 12 → ¬ x = nI k := fun k hk e => hx ⟨k, hk, e⟩
    have lt : ∀ (L : List Nat) (k t : Nat), L.length = 12 → L[k]? = some t → k < 12 := fun L k t hL h => by
      rcases Nat.lt_or_ge k L.length with q | q
      · omega
      · rw [List.getElem?_eq_none q] at h; cases h
    exact ⟨-1, μ, μ, fun d => M59 ⟨fun k t hk e => absurd e (hno k (lt _ k t rfl hk)), fun _ => B59_198.mpr rfl⟩, fun d => M121 ⟨fun k t hk e => absurd e (hno k (lt _ k t rfl hk)), fun _ => B121_162.mpr rfl⟩, hB⟩
