/-! THE LAW, 4: from its entry to its end -/
set_option maxRecDepth 20000 in
theorem whole_start {p : Program} {e : Env} {s : State} {m : MethodId} {below : List Frame} {meth : Method} {c : Code} (l : Launch) {b L : Nat} {xs : Nat → Int32} (hL : L ≤ 2560) (C0 : lw_At p s m meth c b L xs) : W p l e room_1 s m #[Value.ref b] below meth c s.heap [] 0 0 (lw_Z below #[Value.ref b] s) (entryFrame m ([Value.ref b] : List Value).toArray 4) := by
  obtain ⟨hx, hb, hr, hml, hown, hts, hX, hbl, hlocks, hgv⟩ := C0
  have htG : ∀ w ∈ tblG, w.before #[Value.ref b] s = true := fun w hw => hts w (List.mem_filter.mp hw).1
  have hcls : ∀ ci, ∃ (cC : ClassId) (iS : Nat → Nat), ci < 10 → u_Kn s (clT ci).1 (clT ci).2.1 (clT ci).2.2 cC iS := by
    intro ci
    by_cases hc : ci < 10
    · obtain ⟨cC, iS, hk⟩ := u_known (C := (clT ci).1) (T := (clT ci).2.1) (N := (clT ci).2.2) (n := cN ci) htG (lays_in ci hc) (htG _ (inst_in hc))
      exact ⟨cC, iS, fun _ => hk⟩
    · obtain ⟨cC, iS, hk⟩ := u_known (C := (clT 0).1) (T := (clT 0).2.1) (N := (clT 0).2.2) (n := cN 0) htG (lays_in 0 (by decide)) (htG _ (inst_in (by decide)))
      exact ⟨cC, iS, fun hc' => absurd hc' hc⟩
  obtain ⟨dC, dI, hKc⟩ : ∃ (dC : Nat → ClassId) (dI : Nat → Nat → Nat), ∀ (k : Nat) (q : vw_C), cls10[k]? = some q → u_Kn s q.1 q.2.1 q.2.2 (dC k) (dI k) := by
    refine ⟨fun k => Classical.choose (hcls k), fun k => Classical.choose (Classical.choose_spec (hcls k)), fun k q hq => ?_⟩
    have hk : k < 10 := (List.getElem?_eq_some_iff.mp hq).1
    rw [cls_at hk] at hq
    cases hq
    exact Classical.choose_spec (Classical.choose_spec (hcls k)) hk
  obtain ⟨cI, kI, compI, i1, i2, i3⟩ := Cond.arrayClass_spec (htG _ (mem_G (q := 126) rfl rfl))
  obtain ⟨compS, cS, kS, j1, j2, j3, j4, j5⟩ := Cond.arrayOver_spec (hts _ (List.mem_of_getElem? (i := 85) rfl))
  have hK : va_K (dC, dI) cls10 [(cI, .int), (cS, .object RX5)] s := by
    refine ⟨hKc, fun k q hq => ?_⟩
    match k, hq with
    | 0, hq => cases hq; exact ⟨fun n z => ⟨(fun k w => by cases w), kI, i2, compI, i3⟩, i1⟩
    | 1, hq => cases hq; exact ⟨fun n z => ⟨(fun k w => by cases w), kS, j3, compS, j4⟩, kS, compS, j3, j4, j1, j5⟩
    | k + 2, hq => cases hq
  obtain ⟨fz, lz, mz', ⟨f2, f3⟩, ⟨g2, g3⟩, n2, n3⟩ := law_statics hts hgv
  have hWI : WI dC dI cI cS fz (fun q => s.heap.size ≤ q) s := ⟨hK, f2, f3, fun w hw hn => va_Nw.of (nst_on hn) (hts w hw), va_AO.of (hts _ (List.mem_of_getElem? (i := 85) rfl))⟩
  have hA : ∀ q : Nat, s.heap.size ≤ q → (fun q : Nat => s.heap.size ≤ q) q := fun _ w => w
  have h : Wd dC dI (fun q => s.heap.size ≤ q) s [] s.heap [] := ⟨fun k q w => by simp at w, ⟨fun i j x y w => by simp at w, fun k q w => by simp at w⟩, va_S.rf⟩
  have hl := lv_entry ([.ref b]) (n := 4) (Nat.le_of_ble_eq_true rfl)
  rw [lg_entry_eq]
  generalize (lg_sl ([.ref b]) ++ List.replicate (4 - (lg_sl ([.ref b])).length) Slot.unset).toArray = ls at hl ⊢
  have hl : lv_has ls 4 [(0, .ref b)] := hl
  refine law_new (own := R_law) hx hb hown htG hWI hA h (ci := 7) (by decide) (mem_G (q := 70) rfl rfl) (inst_in (by decide)) (mem_G (q := 57) rfl rfl) (Nat.le_of_ble_eq_true rfl) (Nat.le_of_ble_eq_true rfl) dL_law_0 (fun q1 H h => ?_)
  refine lv_dup hx hb dL_law_3 rfl ?_
  refine law_init (own := R_law) (rest := [.ref q1]) hx hb hown htG hWI hA hml hl.1 h c_X7_init (mem_G (q := 74) rfl rfl) (mem_G (q := 72) rfl rfl) (mem_G (q := 73) rfl rfl) (mem_G (q := 57) rfl rfl) ⟨rfl, by decide +kernel, by decide +kernel, by decide +kernel⟩ ⟨Nat.le_of_ble_eq_true rfl, Nat.le_of_ble_eq_true rfl⟩ (Nat.le_of_ble_eq_true rfl) ⟨Nat.le_of_ble_eq_true rfl, Nat.le_of_ble_eq_true rfl⟩ dL_law_4 (fun adB H locs eB h => ?_)
  refine lv_astore_n (lv' := [(1, .ref q1), (0, .ref b)]) hx hb dL_law_7 rfl hl (by decide) rfl (fun ls hl => ?_)
  refine law_new (own := R_law) hx hb hown htG hWI hA h (ci := 9) (by decide) (mem_G (q := 701) rfl rfl) (inst_in (by decide)) (mem_G (q := 68) rfl rfl) (Nat.le_of_ble_eq_true rfl) (Nat.le_of_ble_eq_true rfl) dL_law_8 (fun q2 H h => ?_)
  refine lv_dup hx hb dL_law_11 rfl ?_
  refine law_init (own := R_law) (rest := [.ref q2]) hx hb hown htG hWI hA hml hl.1 h c_X9_init (mem_G (q := 705) rfl rfl) (mem_G (q := 703) rfl rfl) (mem_G (q := 704) rfl rfl) (mem_G (q := 68) rfl rfl) ⟨rfl, by decide +kernel, by decide +kernel, by decide +kernel⟩ ⟨Nat.le_of_ble_eq_true rfl, Nat.le_of_ble_eq_true rfl⟩ (Nat.le_of_ble_eq_true rfl) ⟨Nat.le_of_ble_eq_true rfl, Nat.le_of_ble_eq_true rfl⟩ dL_law_12 (fun adM H locs eM h => ?_)
  refine lv_astore_n (lv' := [(2, .ref q2), (1, .ref q1), (0, .ref b)]) hx hb dL_law_15 rfl hl (by decide) rfl (fun ls hl => ?_)
  refine lv_iconst (v := nI 0) hx hb dL_law_16 (by decide) ?_
  refine lv_istore_n (lv' := [(3, .int (nI 0)), (2, .ref q2), (1, .ref q1), (0, .ref b)]) hx hb dL_law_17 rfl hl (by decide) rfl (fun ls hl => ?_)
  have hl : lv_has ls 4 [(3, .int (nI 0)), (2, .ref (adL adB adM lz mz' 3 40 0)), (1, .ref (adL adB adM lz mz' 0 0 0)), (0, .ref b)] := by
    rw [show adL adB adM lz mz' 3 40 0 = q2 from eM, show adL adB adM lz mz' 0 0 0 = q1 from eB]
    exact hl
  obtain ⟨hP, hI, hA0⟩ := wl_of lz mz' h
  have X : LC dC dI cI cS (adL adB adM lz mz') p s m c b L xs := by
    refine ⟨hx, hb, hml, hown, htG, fun H locs hS U hU hWa => ?_, hK, hA0, hX, hbl, hL⟩
    have hk : ∀ q : Nat, q < s.heap.size → ¬ (fun q : Nat => s.heap.size ≤ q) q → U.heap[q]? = s.heap[q]? := fun q w1 w2 => by rw [hU]; exact hS.2.1 q w1 w2
    refine ⟨va_K.moved hWa.alike hK, hI, fun a ha => ?_, ((va_Z.moved hWa.alike g3).kept hk).narrow hA0, ((va_Z.moved hWa.alike n3).kept hk).narrow hA0, fun w hw hn => ?_⟩
    · rcases ha with rfl | rfl
      · exact ((va_T.moved hWa.alike g2).kept hk).narrow hA0
      · exact ((va_T.moved hWa.alike n2).kept hk).narrow hA0
    · have z0 : va_Nw w s := va_Nw.of (nest_on hn) (hts w hw)
      unfold isNest at hn
      split at hn
      · exact va_Nw.warmF hWa z0
      · cases hn
  refine W.widen (k := 600000) (n := 7302250) (Nat.le_of_ble_eq_true rfl) (Nat.le_of_ble_eq_true rfl) ?_
  exact law_loop X hr hlocks 513 0 μ0 BR_0 (by omega) (by omega) H locs ls hl hP h.2.2
