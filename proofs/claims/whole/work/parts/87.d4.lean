/-! THE LAW, 3: its loop, its start -/
theorem len5 {L i : Nat} (hL : L ≤ 2560) (hi : i ≤ 2600) : (nI L - 5 < nI i) ↔ L < i + 5 := by
  by_cases e : 5 ≤ L
  · have := nI_subc (L - 5) 5
    rw [show L - 5 + 5 = L by omega] at this
    have e2 : nI L - 5 = nI (L - 5) := this
    rw [e2, nI_lt' (by omega) (by omega)]
    omega
  · have pz : (0 : Int32) ≤ nI i := Int32.not_lt.mp (nI_pos (by omega))
    rcases (show L = 0 ∨ L = 1 ∨ L = 2 ∨ L = 3 ∨ L = 4 by omega) with rfl | rfl | rfl | rfl | rfl
    · exact ⟨fun _ => by omega, fun _ => Int32.lt_of_lt_of_le (by decide) pz⟩
    · exact ⟨fun _ => by omega, fun _ => Int32.lt_of_lt_of_le (by decide) pz⟩
    · exact ⟨fun _ => by omega, fun _ => Int32.lt_of_lt_of_le (by decide) pz⟩
    · exact ⟨fun _ => by omega, fun _ => Int32.lt_of_lt_of_le (by decide) pz⟩
    · exact ⟨fun _ => by omega, fun _ => Int32.lt_of_lt_of_le (by decide) pz⟩
section LAW3
variable {p : Program} {l : Launch} {e : Env} {s : State} {m : MethodId} {below : List Frame} {meth : Method} {c : Code} {dC : Nat → ClassId} {dI : Nat → Nat → Nat} {cI cS : ClassId} {ad : Nat → Nat → Nat → Nat} {b L : Nat} {xs : Nat → Int32}
theorem law_loop (X : LC dC dI cI cS ad p s m c b L xs) (hr : meth.sig.returnType = ret) (hlocks : meth.locks = false) : ∀ (z i : Nat) (μ : Mem), BR μ → L ≤ i + 5 * z → i ≤ 2600 → ∀ (H : Heap) (locs : List Loc) (ls : Array Slot), lv_has ls 4 [(3, .int (nI i)), (2, .ref (ad 3 40 0)), (1, .ref (ad 0 0 0)), (0, .ref b)] → va_P (dC, dI) cls10 (wl cI cS ad μ) H → va_S (fun q => s.heap.size ≤ q) s.heap H locs → W p l e room_1 s m #[Value.ref b] below meth c H locs 600000 7302250 (lw_Z below #[Value.ref b] s) (F0 m 18 ls []) := by
  obtain ⟨hx, hb, hml, hown, hts, hW, hK, hA, hX, hbl, hL⟩ := id X
  have hbA : ¬ s.heap.size ≤ b := by omega
  have out : ∀ (H : Heap) (locs : List Loc) (ls : Array Slot), va_S (fun q => s.heap.size ≤ q) s.heap H locs → W p l e room_1 s m #[Value.ref b] below meth c H locs 600000 7302250 (lw_Z below #[Value.ref b] s) (F0 m 720 ls []) := by
    intro H locs ls hS
    refine lv_iconst (v := 1) hx hb dL_law_720 (by decide) ?_
    refine va_forget (fun q hq => hS.2.2 q hq) ?_
    exact lw_ret hx hb hr hlocks dL_law_721
  intro z
  induction z with
  | zero =>
    intro i μ hB hz hi H locs ls hl hP hS
    refine lv_iload_n hx hb dL_law_18 rfl (lv_at hl 0 rfl) ?_
    refine lv_aload_n hx hb dL_law_19 rfl (lv_at hl 3 rfl) ?_
    refine va_slen (A := fun q => s.heap.size ≤ q) hx hb hX hbl hbA hS dL_law_20 ?_
    refine lv_iconst (v := 5) hx hb dL_law_21 (by decide) ?_
    refine lv_isub hx hb dL_law_22 ?_
    exact lv_icmp_gt (tgt := 720) hx hb dL_law_23 (by decide) (fun _ => out H locs ls hS) (fun g => absurd ((len5 hL hi).mpr (by omega)) g)
  | succ z ih =>
    intro i μ hB hz hi H locs ls hl hP hS
    refine lv_iload_n hx hb dL_law_18 rfl (lv_at hl 0 rfl) ?_
    refine lv_aload_n hx hb dL_law_19 rfl (lv_at hl 3 rfl) ?_
    refine va_slen (A := fun q => s.heap.size ≤ q) hx hb hX hbl hbA hS dL_law_20 ?_
    refine lv_iconst (v := 5) hx hb dL_law_21 (by decide) ?_
    refine lv_isub hx hb dL_law_22 ?_
    refine lv_icmp_gt (tgt := 720) hx hb dL_law_23 (by decide) (fun _ => out H locs ls hS) (fun g => ?_)
    have hi5 : i + 5 ≤ L := by
      rcases Nat.lt_or_ge L (i + 5) with w | w
      · exact absurd ((len5 hL hi).mpr w) g
      · exact w
    have next : ∀ μ', BR μ' → ∀ (H : Heap) (locs : List Loc) (ls : Array Slot), lv_has ls 4 [(3, .int (nI i)), (2, .ref (ad 3 40 0)), (1, .ref (ad 0 0 0)), (0, .ref b)] → va_P (dC, dI) cls10 (wl cI cS ad μ') H → va_S (fun q => s.heap.size ≤ q) s.heap H locs → W p l e room_1 s m #[Value.ref b] below meth c H locs 600000 7302250 (lw_Z below #[Value.ref b] s) (F0 m 714 ls []) := by
      intro μ' hB' H locs ls hl hP hS
      refine lv_iinc (k := 0) (v := nI (i + 5)) (lv' := [(3, .int (nI (i + 5))), (2, .ref (ad 3 40 0)), (1, .ref (ad 0 0 0)), (0, .ref b)]) hx hb dL_law_714 hl rfl (nI_plus i 5) (by decide) rfl (fun ls hl => ?_)
      refine lv_goto (tgt := 18) hx hb dL_law_717 (by decide) ?_
      exact ih (i + 5) μ' hB' (by omega) (by omega) H locs ls hl hP hS
    refine lv_aload_n hx hb dL_law_26 rfl (lv_at hl 3 rfl) ?_
    refine lv_iload_n hx hb dL_law_27 rfl (lv_at hl 0 rfl) ?_
    refine va_sld (A := fun q => s.heap.size ≤ q) hx hb hX hbl hbA hS (vp_in_nI (by omega) (by omega)) dL_law_28 ?_
    refine lv_bipush (v := 31) hx hb dL_law_29 (by decide) ?_
    refine lv_iand hx hb dL_law_31 ?_
    generalize xs (nI i).toNatClampNeg &&& 31 = w
    by_cases hw : w.toInt < 0 ∨ 17 < w.toInt
    · exact lv_tableOut (tgt := 714) hx hb dL_law_32 hw (by decide) (next μ hB H locs ls hl hP hS)
    · have hwn : w = nI w.toInt.toNat := by
        apply Int32.toInt_inj.mp
        rw [nI_toInt (by omega)]
        omega
      have hlt : w.toInt.toNat < 18 := by omega
      generalize w.toInt.toNat = k at hwn hlt
      subst hwn
      rcases (show k = 0 ∨ k = 1 ∨ k = 2 ∨ k = 3 ∨ k = 4 ∨ k = 5 ∨ k = 6 ∨ k = 7 ∨ k = 8 ∨ k = 9 ∨ k = 10 ∨ k = 11 ∨ k = 12 ∨ k = 13 ∨ k = 14 ∨ k = 15 ∨ k = 16 ∨ k = 17 by omega) with rfl | rfl | rfl | rfl | rfl | rfl | rfl | rfl | rfl | rfl | rfl | rfl | rfl | rfl | rfl | rfl | rfl | rfl
      · exact lv_tableIn (off := 88) (tgt := 120) hx hb dL_law_32 (by decide) (by decide) (by decide) (by decide) (law_service X hi5 hB ⟨Nat.le_refl _, Nat.le_refl _⟩ next H locs ls hl hP hS)
      · exact lv_tableIn (off := 131) (tgt := 163) hx hb dL_law_32 (by decide) (by decide) (by decide) (by decide) (law_rule X hi5 hB ⟨Nat.le_refl _, Nat.le_refl _⟩ next H locs ls hl hP hS)
      · exact lv_tableIn (off := 174) (tgt := 206) hx hb dL_law_32 (by decide) (by decide) (by decide) (by decide) (law_guests X hi5 hB ⟨Nat.le_refl _, Nat.le_refl _⟩ next H locs ls hl hP hS)
      · exact lv_tableIn (off := 207) (tgt := 239) hx hb dL_law_32 (by decide) (by decide) (by decide) (by decide) (law_crowd X hi5 hB ⟨Nat.le_refl _, Nat.le_refl _⟩ next H locs ls hl hP hS)
      · exact lv_tableIn (off := 250) (tgt := 282) hx hb dL_law_32 (by decide) (by decide) (by decide) (by decide) (law_usual X hi5 hB ⟨Nat.le_refl _, Nat.le_refl _⟩ next H locs ls hl hP hS)
      · exact lv_tableIn (off := 273) (tgt := 305) hx hb dL_law_32 (by decide) (by decide) (by decide) (by decide) (law_place X hi5 hB ⟨Nat.le_refl _, Nat.le_refl _⟩ next H locs ls hl hP hS)
      · exact lv_tableIn (off := 316) (tgt := 348) hx hb dL_law_32 (by decide) (by decide) (by decide) (by decide) (law_ticks X hi5 hB ⟨Nat.le_refl _, Nat.le_refl _⟩ next H locs ls hl hP hS)
      · exact lv_tableIn (off := 339) (tgt := 371) hx hb dL_law_32 (by decide) (by decide) (by decide) (by decide) (law_about X hi5 hB ⟨Nat.le_refl _, Nat.le_refl _⟩ next H locs ls hl hP hS)
      · exact lv_tableIn (off := 372) (tgt := 404) hx hb dL_law_32 (by decide) (by decide) (by decide) (by decide) (law_ruleOf X hi5 hB ⟨Nat.le_refl _, Nat.le_refl _⟩ next H locs ls hl hP hS)
      · exact lv_tableIn (off := 405) (tgt := 437) hx hb dL_law_32 (by decide) (by decide) (by decide) (by decide) (law_kept X hi5 hB ⟨Nat.le_refl _, Nat.le_refl _⟩ next H locs ls hl hP hS)
      · exact lv_tableIn (off := 438) (tgt := 470) hx hb dL_law_32 (by decide) (by decide) (by decide) (by decide) (law_job X hi5 hB ⟨Nat.le_refl _, Nat.le_refl _⟩ next H locs ls hl hP hS)
      · exact lv_tableIn (off := 471) (tgt := 503) hx hb dL_law_32 (by decide) (by decide) (by decide) (by decide) (law_row X hi5 hB ⟨Nat.le_refl _, Nat.le_refl _⟩ next H locs ls hl hP hS)
      · exact lv_tableIn (off := 504) (tgt := 536) hx hb dL_law_32 (by decide) (by decide) (by decide) (by decide) (law_guest X hi5 hB ⟨Nat.le_refl _, Nat.le_refl _⟩ next H locs ls hl hP hS)
      · exact lv_tableIn (off := 537) (tgt := 569) hx hb dL_law_32 (by decide) (by decide) (by decide) (by decide) (law_count X hi5 hB ⟨Nat.le_refl _, Nat.le_refl _⟩ next H locs ls hl hP hS)
      · exact lv_tableIn (off := 560) (tgt := 592) hx hb dL_law_32 (by decide) (by decide) (by decide) (by decide) (law_rest X hi5 hB ⟨Nat.le_refl _, Nat.le_refl _⟩ next H locs ls hl hP hS)
      · exact lv_tableIn (off := 583) (tgt := 615) hx hb dL_law_32 (by decide) (by decide) (by decide) (by decide) (law_bears X hi5 hB ⟨Nat.le_refl _, Nat.le_refl _⟩ next H locs ls hl hP hS)
      · exact lv_tableIn (off := 616) (tgt := 648) hx hb dL_law_32 (by decide) (by decide) (by decide) (by decide) (law_best X hi5 hB ⟨Nat.le_refl _, Nat.le_refl _⟩ next H locs ls hl hP hS)
      · exact lv_tableIn (off := 669) (tgt := 701) hx hb dL_law_32 (by decide) (by decide) (by decide) (by decide) (law_price X hi5 hB ⟨Nat.le_refl _, Nat.le_refl _⟩ next H locs ls hl hP hS)
/-- rows of the law's own makings -/
theorem law_new {R : Room} {args : Array Value} {H : Heap} {locs : List Loc} {cells slots : Nat} {Q : State → Prop} {fz : Nat} {A : Nat → Prop} {pc : Nat} {ls : Array Slot} {rest : List Value} {cc : ByteArray} {own : String} {ws : va_W} (hx : p.tables.exec = Jvm.exec) (hb : c.code = cc) (hown : s.vm.findClass own = some m.cls) (hts : ∀ w ∈ tblG, w.before args s = true) (hW : WI dC dI cI cS fz A s) (hA : ∀ q, s.heap.size ≤ q → A q) (h : Wd dC dI A s ws H locs) {ci idx : Nat} (hc : ci < 10) (l1 : Cond.classLink own idx (clT ci).1 ∈ tblG) (l2 : Cond.instantiable (clT ci).1 (cN ci) ∈ tblG) (l3 : Cond.initialized (clT ci).1 ∈ tblG) (hcells : cells + 1 ≤ R.cells) (hslots : slots + cN ci ≤ R.slots) (hd : decode cc pc = .ok (.new idx, 3))
    (kk : ∀ (q : Nat) (H1 : Heap), Wd dC dI A s (ws ++ [(q, .inr (ci, z0f ci))]) H1 locs → W p l e R s m args below meth c H1 locs (cells + 1) (slots + cN ci) Q (F0 m (pc + 3) ls (.ref q :: rest))) : W p l e R s m args below meth c H locs cells slots Q (F0 m pc ls rest) := by
  obtain ⟨hP, hD, hS⟩ := h
  refine va_new (D := (dC, dI)) (ci := ci) (fs := z0f ci) (C := (clT ci).1) (T := (clT ci).2.1) (N := cN ci) hx hb hts (lays_in ci hc) (tyK ci) (tyK_ok hc).1 hown (hts _ l1) (hts _ l2) (hts _ l3) hW.1 hP hD hS hA (cls_at hc) (fun j hj => ?_) hcells hslots hd (fun q H1 hP1 hD1 hS1 => kk q H1 ⟨hP1, hD1, hS1⟩)
  unfold vp_V z0f
  rw [List.getD_eq_getElem?_getD, List.getElem?_map, List.getElem?_range hj]
  rfl
theorem law_init {R : Room} {args : Array Value} {H : Heap} {locs : List Loc} {cells slots : Nat} {Q : State → Prop} {fz : Nat} {A : Nat → Prop} {pc : Nat} {ls : Array Slot} {rest : List Value} {cc : ByteArray} {own : String} {ws : va_W} (hx : p.tables.exec = Jvm.exec) (hb : c.code = cc) (hown : s.vm.findClass own = some m.cls) (hts : ∀ w ∈ tblG, w.before args s = true) (hW : WI dC dI cI cS fz A s) (hA : ∀ q, s.heap.size ≤ q → A q) {nL : Nat} (hml : c.maxLocals = nL) (hsz : ls.size = nL) {q ci idx nM : Nat} {y : MethodName} {cb : ByteArray} {rm : Room} {K : List (Nat × Nat × Nat)} {k0 : Nat × Nat × Nat} {μ : Mem} (h : Wd dC dI A s (ws ++ [(q, .inr (ci, z0f ci))]) H locs) (hM : CtM l dC dI cI cS fz y cb nM rm ci [] K k0 μ) (l0 : Cond.code y cb nM none ∈ tblG) (l1 : Cond.methodLink own idx y ∈ tblG) (l2 : Cond.instanceMethod y ∈ tblG) (l3 : Cond.initialized y.cls ∈ tblG) (hy : y.name = "<init>" ∧ y.cls ≠ "java/lang/invoke/MethodHandle" ∧ y.cls ≠ "java/lang/invoke/VarHandle" ∧ (parseMethodDescriptor y.desc).map (fun d => d.parameters.length) = some 0) (hR : rm.frames + 1 ≤ R.frames ∧ 8 + (nM + 11) + rm.locals ≤ R.locals) (hl : (rest.map fun v => v.category).sum ≤ 8) (hcs : cells + rm.cells ≤ R.cells ∧ slots + rm.slots ≤ R.slots) (hd : decode cc pc = .ok (.invokespecial idx, 3))
    (kk : ∀ (adv : Nat → Nat → Nat → Nat) (H1 : Heap) (locs1 : List Loc), adv k0.1 k0.2.1 k0.2.2 = q → Wd dC dI A s (ws ++ sw cI cS K adv μ) H1 locs1 → W p l e R s m args below meth c H1 locs1 (cells + rm.cells) (slots + rm.slots) Q (F0 m (pc + 3) ls rest)) : W p l e R s m args below meth c H locs cells slots Q (F0 m pc ls (.ref q :: rest)) := by
  obtain ⟨hP, hD, hS⟩ := h
  have hFc := k_free hD hS hA
  have hPc : va_P (dC, dI) cls10 [(q, .inr (ci, z0f ci))] H := vP_mem.mpr (fun x hx => vP_mem.mp hP x (List.mem_append_right _ hx))
  have hG : GoodIn tblG (Cond.code y cb nM none :: tblG) := by
    intro w hw
    rcases List.mem_cons.mp hw with rfl | hw
    · exact good_G _ l0
    · exact good_G _ hw
  refine va_callv (va_runI (nL := nL) (As := []) (rest := rest) (b := q) ⟨hx, hb, hml, hown, hts⟩ (hM q H.size) ⟨callB_of (Ts := tblG) 0 hts hG rfl rfl rfl (hts _ l3) (hts _ l1) ⟨hy.2.1, hy.2.2.1, hy.2.2.2⟩ hR, hy.1, hts _ l2⟩ ⟨PreI.blind, fun U hU hWa => ⟨rfl, by rw [hU], by rw [hU]; exact hPc, hW.go hS hU hWa hFc⟩⟩ rfl rfl hsz rfl (lv_room hl) hd hcs) hS (fun x _ z => hFc x z) hFc (fun adv t H1 locs1 ht hvm hw hB hz1 hk1 hS1 => ?_)
  obtain ⟨b1, b2, b3⟩ := hB
  rw [ht] at b2
  obtain ⟨j1, j2⟩ := k_join hP hD hk1 hFc b2 b3
  exact kk adv H1 locs1 b1 ⟨j1, j2, hS1⟩
end LAW3
set_option maxRecDepth 20000 in
theorem inst_in {ci : Nat} (hc : ci < 10) : Cond.instantiable (clT ci).1 (cN ci) ∈ tblG := by
  match ci, hc with
  | 0, _ => exact mem_G (q := 175) rfl rfl
  | 1, _ => exact mem_G (q := 79) rfl rfl
  | 2, _ => exact mem_G (q := 87) rfl rfl
  | 3, _ => exact mem_G (q := 93) rfl rfl
  | 4, _ => exact mem_G (q := 261) rfl rfl
  | 5, _ => exact mem_G (q := 281) rfl rfl
  | 6, _ => exact mem_G (q := 239) rfl rfl
  | 7, _ => exact mem_G (q := 71) rfl rfl
  | 8, _ => exact mem_G (q := 708) rfl rfl
  | 9, _ => exact mem_G (q := 702) rfl rfl
  | k + 10, hk => exact absurd hk (by omega)
theorem law_statics {b : Nat} {s : State} (hts : ∀ w ∈ lw_tbl, w.before #[Value.ref b] s = true) (hgv : (Jvm.Cond.and given_1 narrow_1).before #[Value.ref b] s = true) : ∃ fz lz mz', (va_T .int fz 10 (fun i => .int (imF i)) (fun q => s.heap.size ≤ q) s s.heap ∧ va_Z RX7 "FIRST_OF_RULE" "[I" (.ref fz) (fun q => s.heap.size ≤ q) s s.heap) ∧ (va_T .int lz 10 (fun i => .int (imC 90 i)) (fun q => s.heap.size ≤ q) s s.heap ∧ va_Z RX7 "LEAST_OF_RULE" "[I" (.ref lz) (fun q => s.heap.size ≤ q) s s.heap) ∧ va_T .int mz' 10 (fun i => .int (imC 91 i)) (fun q => s.heap.size ≤ q) s s.heap ∧ va_Z RX7 "MOST_OF_RULE" "[I" (.ref mz') (fun q => s.heap.size ≤ q) s s.heap := by
  have hs := flat_of_before _ hgv
  have hA : ∀ a : Nat, a < s.heap.size → ¬ (fun q : Nat => s.heap.size ≤ q) a := fun a ha => Nat.not_le.mpr ha
  have fe : ∀ j : Nat, j < 10 → (Term.elem (.static "StormBench" "FIRST_OF_RULE" "[I") (.int (Int32.ofNat j))).eval #[Value.ref b] s none [] s = some (.int (imF j)) := by
    intro j hj
    rcases (show j = 0 ∨ j = 1 ∨ j = 2 ∨ j = 3 ∨ j = 4 ∨ j = 5 ∨ j = 6 ∨ j = 7 ∨ j = 8 ∨ j = 9 by omega) with rfl | rfl | rfl | rfl | rfl | rfl | rfl | rfl | rfl | rfl <;> exact va_eqt (hs _ (by decide +kernel))
  obtain ⟨fz, f1, f2⟩ := va_Tof (ty := .int) (tm := (.static "StormBench" "FIRST_OF_RULE" "[I")) (N := 10) (A := fun q => s.heap.size ≤ q) (f := fun j => .int (imF j)) (by decide) (hs _ (by decide +kernel)) (va_eqt (z := 10) (hs _ (by decide +kernel))) fe hA
  have f3 := va_Zof (A := fun q => s.heap.size ≤ q) (hts _ (List.mem_of_getElem? (i := 287) rfl)) (hts _ (List.mem_of_getElem? (i := 57) rfl)) f1 hA
  have ge : ∀ j : Nat, j < 10 → (Term.elem (.static "StormBench" "LEAST_OF_RULE" "[I") (.int (Int32.ofNat j))).eval #[Value.ref b] s none [] s = some (.int (imC 90 j)) := by
    intro j hj
    rcases (show j = 0 ∨ j = 1 ∨ j = 2 ∨ j = 3 ∨ j = 4 ∨ j = 5 ∨ j = 6 ∨ j = 7 ∨ j = 8 ∨ j = 9 by omega) with rfl | rfl | rfl | rfl | rfl | rfl | rfl | rfl | rfl | rfl <;> exact va_eqt (hs _ (by decide +kernel))
  obtain ⟨gz, g1, g2⟩ := va_Tof (ty := .int) (tm := (.static "StormBench" "LEAST_OF_RULE" "[I")) (N := 10) (A := fun q => s.heap.size ≤ q) (f := fun j => .int (imC 90 j)) (by decide) (hs _ (by decide +kernel)) (va_eqt (z := 10) (hs _ (by decide +kernel))) ge hA
  have g3 := va_Zof (A := fun q => s.heap.size ≤ q) (hts _ (List.mem_of_getElem? (i := 403) rfl)) (hts _ (List.mem_of_getElem? (i := 57) rfl)) g1 hA
  have he : ∀ j : Nat, j < 10 → (Term.elem (.static "StormBench" "MOST_OF_RULE" "[I") (.int (Int32.ofNat j))).eval #[Value.ref b] s none [] s = some (.int (imC 91 j)) := by
    intro j hj
    rcases (show j = 0 ∨ j = 1 ∨ j = 2 ∨ j = 3 ∨ j = 4 ∨ j = 5 ∨ j = 6 ∨ j = 7 ∨ j = 8 ∨ j = 9 by omega) with rfl | rfl | rfl | rfl | rfl | rfl | rfl | rfl | rfl | rfl <;> exact va_eqt (hs _ (by decide +kernel))
  obtain ⟨hz, h1, h2⟩ := va_Tof (ty := .int) (tm := (.static "StormBench" "MOST_OF_RULE" "[I")) (N := 10) (A := fun q => s.heap.size ≤ q) (f := fun j => .int (imC 91 j)) (by decide) (hs _ (by decide +kernel)) (va_eqt (z := 10) (hs _ (by decide +kernel))) he hA
  have h3 := va_Zof (A := fun q => s.heap.size ≤ q) (hts _ (List.mem_of_getElem? (i := 405) rfl)) (hts _ (List.mem_of_getElem? (i := 57) rfl)) h1 hA
  exact ⟨fz, gz, hz, ⟨f2, f3⟩, ⟨g2, g3⟩, h2, h3⟩
