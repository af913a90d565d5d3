/-! service -/
theorem R_serv {σ m h : Rg} {ns G nn gc pj pg x y z : Nat} {P Q PG QG : Nat → Nat} (hR : R σ m h ns 0 G nn gc P Q PG QG pj pg) (hns : ns < 6) (hF : FR σ m h ns) (hx : 1 ≤ x ∧ x ≤ 9) (hy : y ≤ 20) (hz : 1 ≤ z ∧ z ≤ 9) :
    R (cset (cset (cset (cset σ 4 ns 7 (nI x)) 4 ns 9 (nI y)) 4 ns 8 (nI z)) 1 0 1 (nI (ns + 1))) (cset (cset (cset (cset (cset (cset (cset m 41 0 (9 * ns + 0) 10) 41 0 (9 * ns + 2) 1) 41 0 (9 * ns + 5) 10) 41 0 (9 * ns + 7) (nI x)) 41 0 (9 * ns + 8) (nI z)) 42 0 ns (nI y)) 40 0 2 (nI (ns + 1))) h (ns + 1) 0 G nn gc P Q PG QG pj pg := by
  obtain ⟨r1, r2, r3, r4, r5, r6, r7, r8, r9, ⟨c1, c2, c3, c4, c5, c6, c7, c8, c9, c10, c11, c12, c13⟩, r11⟩ := hR
  obtain ⟨f0, f1, f2, f3, f4, f5, f6, f7, f8, g1, g3, g4, g6, g9⟩ := hF
  refine ⟨?_, ?_, ?_, ?_, ?_, ?_, ?_, ?_, ?_, ?_, ?_⟩ <;> try simp (disch := decide) only [cs_a, cs_i, cs_s]
  · exact r1
  · exact r2
  · exact r3
  · exact ⟨fun k hk => absurd hk (by omega), fun i j hij hj => absurd hj (by omega)⟩
  · exact r5
  · intro s hs
    by_cases e : s = ns
    · subst e
      exact ⟨0, by decide, f7, g9, fun i hi => absurd hi (by omega), fun i j hi => absurd hi (by omega)⟩
    · exact r6 s (by omega)
  · intro s hs
    by_cases e : s = ns
    · subst e
      exact f8
    · exact r7 s (by omega)
  · exact r8
  · intro s hs
    by_cases e : s = ns
    · subst e
      rw [cs_r, cs_r, cs_r, cs_r, cs_r, cs_r, cs_r, cs_r, cs_r]
      refine ⟨fun j hj => ?_, by simp (disch := omega) only [va_up_self, va_up_ne], ?_⟩
      · rcases (show j = 0 ∨ j = 1 ∨ j = 2 ∨ j = 3 ∨ j = 4 ∨ j = 5 ∨ j = 6 ∨ j = 7 ∨ j = 8 by omega) with rfl | rfl | rfl | rfl | rfl | rfl | rfl | rfl | rfl <;> simp (disch := omega) only [va_up_self, va_up_ne]
        · exact f0
        · rw [f1, g1]
        · exact f2
        · rw [f3, g3]
        · rw [f4, g4]
        · exact f5
        · rw [f6, g6]
      · unfold RU1
        simp (disch := decide) only [va_up_self, va_up_ne]
        exact ⟨⟨10, by decide, by decide, f0⟩, ⟨0, by decide, f1⟩, ⟨1, by decide, f2⟩, ⟨0, by decide, f3⟩, ⟨0, by decide, f4⟩, ⟨10, by decide, by decide, f5⟩, Or.inl f6, ⟨x, hx.1, hx.2, rfl⟩, ⟨z, hz.1, hz.2, rfl⟩, y, hy, rfl⟩
    · obtain ⟨q1, q2, q3⟩ := r9 s (by omega)
      rw [cs_o _ _ e, cs_o _ _ e, cs_o _ _ e]
      refine ⟨fun j hj => ?_, ?_, q3⟩
      · rw [cs_i _ _ (by omega), cs_i _ _ (by omega), cs_i _ _ (by omega), cs_i _ _ (by omega), cs_i _ _ (by omega)]
        exact q1 j hj
      · rw [cs_i _ _ e]; exact q2
  · exact ⟨⟨by omega, rfl, rfl⟩, c2, c3, c4, c5, c6, c7, c8, c9, c10, c11, c12, c13⟩
  · exact r11
theorem CALL_service (x y z : Int32) : CALL 46 78 [.inl x, .inl y, .inl z] := by
  intro μ hB
  obtain ⟨ns, N, G, nn, gc, t, pd, P, Q, PG, QG, hR, ⟨h11, h12⟩, h0, ht, hnn, hgc, h14, ⟨tn, hT⟩, hU, hpr, hfr⟩ := id hB
  have hns : ns ≤ 6 := hR.2.2.2.2.2.2.2.2.2.1.1.1
  have hc1 : μ 1 1 0 1 = nI ns := hR.2.2.2.2.2.2.2.2.2.1.1.2.1
  have hm2 : μ 3 40 0 2 = nI ns := hR.2.2.2.2.2.2.2.2.2.1.1.2.2
  have ht1 : μ 1 1 0 2 = nI t := by
    obtain ⟨tt, _, t1, t2⟩ := hR.2.2.2.2.2.2.2.2.2.1.2.2.2.2.2.1
    rw [t1, ← t2]; exact h0
  have rx : ∀ d, M (d + 2) 71 [.inl 7, .inl x] μ (some (if x < 1 ∨ 9 < x then 0 else 1), μ) := fun d => T_isRule (j := 7) (by decide) x d μ
  have ry : ∀ d, M (d + 2) 71 [.inl 9, .inl y] μ (some (if y < 0 ∨ 20 < y then 0 else 1), μ) := fun d => T_isRule (j := 9) (by decide) y d μ
  have rz : ∀ d, M (d + 2) 71 [.inl 8, .inl z] μ (some (if z < 1 ∨ 9 < z then 0 else 1), μ) := fun d => T_isRule (j := 8) (by decide) z d μ
  have wx := fun d μ' => T_mwithin (d := d) (μ := μ') (x := x) (a := 1) (b := 9)
  have wy := fun d μ' => T_mwithin (d := d) (μ := μ') (x := y) (a := 0) (b := 20)
  have wz := fun d μ' => T_mwithin (d := d) (μ := μ') (x := z) (a := 1) (b := 9)
  by_cases hx : x < 1 ∨ 9 < x
  · rw [if_pos hx] at rx
    simp only [if_pos hx] at wx
    exact ⟨-1, μ, μ, M_up (k := 3) (fun d => M46 ⟨_, _, rx d, fun _ => B46_27.mpr rfl, fun e => absurd rfl e⟩) (by decide), M_up (k := 3) (fun d => M78 ⟨_, _, wx (d + 1) μ, fun _ => B78_30.mpr rfl, fun e => absurd rfl e⟩) (by decide), hB⟩
  · rw [if_neg hx] at rx
    simp only [if_neg hx] at wx
    by_cases hy : y < 0 ∨ 20 < y
    · rw [if_pos hy] at ry
      simp only [if_pos hy] at wy
      exact ⟨-1, μ, μ, M_up (k := 3) (fun d => M46 ⟨_, _, rx d, fun e => absurd e (by decide), fun _ => ⟨_, _, ry d, fun _ => B46_27.mpr rfl, fun e => absurd rfl e⟩⟩) (by decide), M_up (k := 3) (fun d => M78 ⟨_, _, wx (d + 1) μ, fun e => absurd e (by decide), fun _ => ⟨_, _, wy (d + 1) μ, fun _ => B78_30.mpr rfl, fun e => absurd rfl e⟩⟩) (by decide), hB⟩
    · rw [if_neg hy] at ry
      simp only [if_neg hy] at wy
      by_cases hz : z < 1 ∨ 9 < z
      · rw [if_pos hz] at rz
        simp only [if_pos hz] at wz
        exact ⟨-1, μ, μ, M_up (k := 3) (fun d => M46 ⟨_, _, rx d, fun e => absurd e (by decide), fun _ => ⟨_, _, ry d, fun e => absurd e (by decide), fun _ => ⟨_, _, rz d, fun e => absurd rfl e, fun _ => B46_27.mpr rfl⟩⟩⟩) (by decide), M_up (k := 3) (fun d => M78 ⟨_, _, wx (d + 1) μ, fun e => absurd e (by decide), fun _ => ⟨_, _, wy (d + 1) μ, fun e => absurd e (by decide), fun _ => ⟨_, _, wz (d + 1) μ, fun e => absurd rfl e, fun _ => B78_30.mpr rfl⟩⟩⟩) (by decide), hB⟩
      · rw [if_neg hz] at rz
        simp only [if_neg hz] at wz
        obtain ⟨X, x1, x2, rfl⟩ := nI_btw (x := x) (a := 1) (b := 9) (by decide) (by decide) (fun e => hx (Or.inl e)) (fun e => hx (Or.inr e))
        obtain ⟨Y, -, y2, rfl⟩ := nI_btw (x := y) (a := 0) (b := 20) (by decide) (by decide) (fun e => hy (Or.inl e)) (fun e => hy (Or.inr e))
        obtain ⟨Z, z1, z2, rfl⟩ := nI_btw (x := z) (a := 1) (b := 9) (by decide) (by decide) (fun e => hz (Or.inl e)) (fun e => hz (Or.inr e))
        have l6 : (nI ns < 6) = (ns < 6) := nI_lt' (b := 6) (by omega) (by decide)
        have q6 : (nI ns = 6) = (ns = 6) := propext ⟨fun e => nI_inj (b := 6) (by omega) (by decide) e, fun e => by rw [e]; rfl⟩
        have z0 : (nI t = 0) = (t = 0) := nI_eq0 (by omega)
        by_cases hf : ns = 6
        · refine ⟨-2, μ, μ, M_up (k := 3) (fun d => M46 ⟨_, _, rx d, fun e => absurd e (by decide), fun _ => ⟨_, _, ry d, fun e => absurd e (by decide), fun _ => ⟨_, _, rz d, fun _ => ⟨fun e => absurd e ?_, fun _ => rfl⟩, fun e => absurd (by decide) e⟩⟩⟩) (by decide), M_up (k := 3) (fun d => M78 ⟨_, _, wx (d + 1) μ, fun e => absurd e (by decide), fun _ => ⟨_, _, wy (d + 1) μ, fun e => absurd e (by decide), fun _ => ⟨_, _, wz (d + 1) μ, fun _ => ⟨fun e => absurd ?_ e, fun _ => rfl⟩, fun e => absurd (by decide) e⟩⟩⟩) (by decide), hB⟩
          · rw [hc1, l6]; omega
          · rw [hm2, q6]; exact hf
        · by_cases h00 : t = 0
          · obtain ⟨hN0, hF⟩ := hfr h00
            subst hN0
            have kn : (nI ns).toNatClampNeg = ns := nI_cl (by omega)
            have vn : vp_in (nI ns) 6 := vp_in_nI (by omega) (by decide)
            have ew : ∀ (j : Nat) (J : Int32), j < 9 → J = nI j → 9 * nI ns + J = nI (9 * ns + j) := fun j J _ hJ => ix_lin 9 rfl hJ
            have vw : ∀ j, j < 9 → vp_in (nI (9 * ns + j)) 54 := fun j hj => vp_in_nI (by omega) (by decide)
            have kw : ∀ j, j < 9 → (nI (9 * ns + j)).toNatClampNeg = 9 * ns + j := fun j hj => nI_cl (by omega)
            obtain ⟨σ', hσ⟩ : ∃ σ', σ' = cset (cset (cset (cset (μ 1) 4 ns 7 (nI X)) 4 ns 9 (nI Y)) 4 ns 8 (nI Z)) 1 0 1 (nI (ns + 1)) := ⟨_, rfl⟩
            obtain ⟨m', hm⟩ : ∃ m', m' = cset (cset (cset (cset (cset (cset (cset (μ 3) 41 0 (9 * ns + 0) 10) 41 0 (9 * ns + 2) 1) 41 0 (9 * ns + 5) 10) 41 0 (9 * ns + 7) (nI X)) 41 0 (9 * ns + 8) (nI Z)) 42 0 ns (nI Y)) 40 0 2 (nI (ns + 1)) := ⟨_, rfl⟩
            have f3 : va_up μ 1 σ' 3 = μ 3 := va_up_ne _ _ (by decide)
            have f4 : va_up μ 1 σ' 4 = μ 4 := va_up_ne _ _ (by decide)
            refine ⟨nI ns, va_up μ 1 σ', va_up (va_up μ 1 σ') 3 m', M_up (k := 3) (fun d => M46 ⟨_, _, rx d, fun e => absurd e (by decide), fun _ => ⟨_, _, ry d, fun e => absurd e (by decide), fun _ => ⟨_, _, rz d, fun _ => ⟨fun _ => ⟨fun _ => ⟨nI ns, va_up μ 1 σ', M2 ⟨fun _ => ⟨?_, ?_⟩, fun e => absurd ?_ e⟩, rfl⟩, fun e => absurd ?_ e⟩, fun e => absurd ?_ e⟩, fun e => absurd (by decide) e⟩⟩⟩) (by decide), M_up (k := 3) (fun d => M78 ⟨_, _, wx (d + 1) _, fun e => absurd e (by decide), fun _ => ⟨_, _, wy (d + 1) _, fun e => absurd e (by decide), fun _ => ⟨_, _, wz (d + 1) _, fun _ => ⟨fun _ => ⟨fun _ => ?_, fun e => absurd ?_ e⟩, fun e => absurd ?_ e⟩, fun e => absurd (by decide) e⟩⟩⟩) (by decide), ?_⟩
            · rw [hc1]; exact vn
            · simp only [Nat.reduceAdd, hc1, kn, nI_1]
              rw [nI_pred, mset_e μ, ms_up, ms_up, ms_up, hσ]
            · rw [hc1, l6]; omega
            · rw [ht1, z0]; exact h00
            · rw [hc1, l6]; omega
            · simp only [f3, hm2, nI_1, kn]
              rw [ew 0 0 (by decide) rfl, ew 2 2 (by decide) rfl, ew 5 5 (by decide) rfl, ew 7 7 (by decide) rfl, ew 8 8 (by decide) rfl, kw 0 (by decide), kw 2 (by decide), kw 5 (by decide), kw 7 (by decide), kw 8 (by decide)]
              refine ⟨vw 0 (by decide), vw 2 (by decide), vw 5 (by decide), vw 7 (by decide), vw 8 (by decide), vn, ?_⟩
              rw [nI_pred, mset_e (va_up μ 1 σ'), ms_up, ms_up, ms_up, ms_up, ms_up, ms_up, f3, hm]
            · show va_up μ 1 σ' 4 60 0 0 = 0
              rw [f4, h0, z0]; exact h00
            · rw [f3, hm2, q6]; exact hf
            · have so : ∀ a, a ≠ 1 → a ≠ 4 → σ' a = μ 1 a := fun a q1 q2 => by rw [hσ, cs_a _ _ q1, cs_a _ _ q2, cs_a _ _ q2, cs_a _ _ q2]
              have s1 : ∀ i, i ≠ 1 → σ' 1 0 i = μ 1 1 0 i := fun i hi => by rw [hσ, cs_i _ _ hi, cs_a _ _ (by decide), cs_a _ _ (by decide), cs_a _ _ (by decide)]
              have mo : ∀ a, a ≠ 40 → a ≠ 41 → a ≠ 42 → m' a = μ 3 a := fun a q1 q2 q3 => by rw [hm, cs_a _ _ q1, cs_a _ _ q3, cs_a _ _ q2, cs_a _ _ q2, cs_a _ _ q2, cs_a _ _ q2, cs_a _ _ q2]
              have m2 : ∀ i, i ≠ 2 → m' 40 0 i = μ 3 40 0 i := fun i hi => by rw [hm, cs_i _ _ hi, cs_a _ _ (by decide), cs_a _ _ (by decide), cs_a _ _ (by decide), cs_a _ _ (by decide), cs_a _ _ (by decide), cs_a _ _ (by decide)]
              refine ⟨ns + 1, 0, G, nn, gc, t, pd, P, Q, PG, QG, ?_⟩
              simp (disch := decide) only [va_up_self, va_up_ne]
              refine ⟨by rw [hσ, hm]; exact R_serv hR (by omega) (hF ns (Nat.le_refl _) (by omega)) ⟨x1, x2⟩ y2 ⟨z1, z2⟩, ⟨?_, h12⟩, h0, ht, hnn, hgc, ?_, ⟨tn, hT.keep (so 28 (by decide) (by decide)) (so 29 (by decide) (by decide)) (so 30 (by decide) (by decide)) (so 31 (by decide) (by decide)) (m2 8 (by decide)) (mo 43 (by decide) (by decide) (by decide)) (mo 44 (by decide) (by decide) (by decide)) (mo 45 (by decide) (by decide) (by decide))⟩, hU.keep (so 32 (by decide) (by decide)) (so 33 (by decide) (by decide)) (so 34 (by decide) (by decide)) (m2 9 (by decide)) (mo 46 (by decide) (by decide) (by decide)) (mo 47 (by decide) (by decide) (by decide)), ?_, fun e => ⟨True.intro, fun s' q1 q2 => (hF s' (by omega) q2).keep ?_ (so 3 (by decide) (by decide)) (fun j' hj' => ?_)⟩⟩
              · rw [s1 11 (by decide)]; exact h11
              · rw [m2 14 (by decide)]; exact h14
              · rw [m2 17 (by decide)]; exact hpr
              · rw [hσ, cs_a _ _ (by decide), cs_o _ _ (by omega), cs_o _ _ (by omega), cs_o _ _ (by omega)]
              · rw [hm, cs_a _ _ (by decide), cs_a _ _ (by decide), cs_i _ _ (by omega), cs_i _ _ (by omega), cs_i _ _ (by omega), cs_i _ _ (by omega), cs_i _ _ (by omega)]
          · refine ⟨-3, μ, μ, M_up (k := 3) (fun d => M46 ⟨_, _, rx d, fun e => absurd e (by decide), fun _ => ⟨_, _, ry d, fun e => absurd e (by decide), fun _ => ⟨_, _, rz d, fun _ => ⟨fun _ => ⟨fun e => absurd e ?_, fun _ => rfl⟩, fun e => absurd ?_ e⟩, fun e => absurd (by decide) e⟩⟩⟩) (by decide), M_up (k := 3) (fun d => M78 ⟨_, _, wx (d + 1) μ, fun e => absurd e (by decide), fun _ => ⟨_, _, wy (d + 1) μ, fun e => absurd e (by decide), fun _ => ⟨_, _, wz (d + 1) μ, fun _ => ⟨fun _ => ⟨fun e => absurd e ?_, fun _ => rfl⟩, fun e => absurd ?_ e⟩, fun e => absurd (by decide) e⟩⟩⟩) (by decide), hB⟩
            · rw [ht1, z0]; exact h00
            · rw [hc1, l6]; omega
            · rw [h0, z0]; exact h00
            · rw [hm2, q6]; exact hf
