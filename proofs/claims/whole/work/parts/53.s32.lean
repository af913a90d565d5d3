/-! ticks -/
theorem mm_o {μ : Mem} {m h : Rg} {r : Nat} (h3 : r ≠ 3) (h4 : r ≠ 4) : mm μ m h r = μ r := by
  unfold mm; rw [va_up_ne _ _ h4, va_up_ne _ _ h3]
theorem CALL_ticks (x : Int32) : CALL 52 113 [.inl x] := by
  intro μ hB
  obtain ⟨ns, N, G, nn, gc, t, pd, P, Q, PG, QG, hR, ⟨h11, h12⟩, h0, ht, hnn, hgc, h14, hT, hU, hpr, hfr⟩ := id hB
  have hns : ns ≤ 6 := hR.2.2.2.2.2.2.2.2.2.1.1.1
  have hc1 : μ 1 1 0 1 = nI ns := hR.2.2.2.2.2.2.2.2.2.1.1.2.1
  have hm2 : μ 3 40 0 2 = nI ns := hR.2.2.2.2.2.2.2.2.2.1.1.2.2
  have ht1 : μ 1 1 0 2 = nI t := by
    obtain ⟨tt, _, t1, t2⟩ := hR.2.2.2.2.2.2.2.2.2.1.2.2.2.2.2.1
    rw [t1, ← t2]; exact h0
  by_cases hw : x < 1 ∨ 500 < x
  · refine ⟨-1, μ, μ, fun d => M52 ⟨_, _, T_within, ?_⟩, fun d => M113 ⟨_, _, T_mwithin, ?_⟩, hB⟩
    · rw [if_pos hw]; exact ⟨fun _ => B52_25.mpr rfl, fun e => absurd rfl e⟩
    · rw [if_pos hw]; exact ⟨fun _ => B113_25.mpr rfl, fun e => absurd rfl e⟩
  · obtain ⟨n, n1, n2, rfl⟩ := nI_btw (x := x) (a := 1) (b := 500) (by decide) (by decide) (fun e => hw (Or.inl e)) (fun e => hw (Or.inr e))
    have es : nI t + nI n = nI (t + n) := by
      have := ix_lin (c := 1) (s := t) (t := n) (x := nI n) 1 rfl rfl
      rw [Nat.one_mul, Int32.one_mul] at this; exact this
    have le : (nI (t + n) ≤ 100000) = (t + n ≤ 100000) := nI_le' (b := 100000) (by omega) (by decide)
    have z0 : (nI ns = 0) = (ns = 0) := nI_eq0 (by omega)
    by_cases hl : t + n ≤ 100000
    · by_cases hz : ns = 0
      · refine ⟨-3, μ, μ, fun d => M52 ⟨_, _, T_within, ?_⟩, fun d => M113 ⟨_, _, T_mwithin, ?_⟩, hB⟩
        · rw [if_neg hw]
          simp only [Nat.reduceAdd, ht1, es, le, hc1, z0]
          exact ⟨fun e => absurd e (by decide), fun _ => ⟨fun _ => ⟨fun e => absurd hz e, fun _ => True.intro⟩, fun e => absurd hl e⟩⟩
        · rw [if_neg hw]
          simp only [Nat.reduceAdd, h0, es, le, hm2, z0]
          exact ⟨fun e => absurd e (by decide), fun _ => ⟨fun _ => ⟨fun e => absurd hz e, fun _ => True.intro⟩, fun e => absurd hl e⟩⟩
      · obtain ⟨σ', m', h', N', G', P', Q', PG', QG', nn', gc', a1, a2, a3, a4, a5, a6, a7, a8, a9, a10, a11⟩ := SIM_steps (by omega : 0 < ns) n hR h11 h0 (by omega) h14 hT hU (by omega) (by omega)
        have tk : σ' 1 0 2 = h' 60 0 0 := by
          obtain ⟨tt, _, t1, t2⟩ := a7.2.2.2.2.2.2.2.2.2.1.2.2.2.2.2.1
          rw [t1, ← t2]
        have c := fun d => E52 n2 n 0 (μ 1) σ' (by omega) a1 d μ
        have mo := fun d => E113 n2 n 0 (μ 3) (μ 4) m' h' (by omega) a2 d (va_up μ 1 σ')
        have e1 : mm (va_up μ 1 σ') (μ 3) (μ 4) = va_up μ 1 σ' := mm_eta (va_up μ 1 σ')
        rw [up_eta] at c
        rw [e1] at mo
        refine ⟨σ' 1 0 2, va_up μ 1 σ', mm (va_up μ 1 σ') m' h', M_up (k := 10) (fun d => M52 ⟨_, _, T_within, ?_⟩) (by decide), M_up (k := 64) (fun d => M113 ⟨_, _, T_mwithin, ?_⟩) (by decide), ?_⟩
        · rw [if_neg hw]
          simp only [Nat.reduceAdd, ht1, es, le, hc1, z0]
          exact ⟨fun e => absurd e (by decide), fun _ => ⟨fun _ => ⟨fun _ => c d, fun e => absurd hz e⟩, fun e => absurd hl e⟩⟩
        · rw [if_neg hw, tk]
          simp (disch := decide) only [Nat.reduceAdd, va_up_ne, h0, es, le, hm2, z0]
          exact ⟨fun e => absurd e (by decide), fun _ => ⟨fun _ => ⟨fun _ => mo d, fun e => absurd hz e⟩, fun e => absurd hl e⟩⟩
        · refine ⟨ns, N', G', nn', gc', t + n, pd, P', Q', PG', QG', ?_⟩
          simp (disch := decide) only [mm3, mm4, mm_o, va_up_self, va_up_ne]
          exact ⟨a7, ⟨a10, h12⟩, a11, hl, by omega, by omega, a4, a5, a6, by rw [a3.2.1 17 (by decide) (by decide) (by decide)]; exact hpr, fun e => by omega⟩
    · refine ⟨-1, μ, μ, fun d => M52 ⟨_, _, T_within, ?_⟩, fun d => M113 ⟨_, _, T_mwithin, ?_⟩, hB⟩
      · rw [if_neg hw]
        simp only [Nat.reduceAdd, ht1, es, le, B52_25]
        exact ⟨fun e => absurd e (by decide), fun _ => ⟨fun e => absurd e hl, fun _ => True.intro⟩⟩
      · rw [if_neg hw]
        simp only [Nat.reduceAdd, h0, es, le, B113_25]
        exact ⟨fun e => absurd e (by decide), fun _ => ⟨fun e => absurd e hl, fun _ => True.intro⟩⟩
