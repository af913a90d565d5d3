/-! CONSTRUCTORS, 7: a house -/
section KC7
variable {l : Launch} {dC : Nat → ClassId} {dI : Nat → Nat → Nat} {cI cS : ClassId} {fz : Nat}
theorem k_newq {p : Program} {e : Env} {R : Room} {s : State} {m : MethodId} {args : Array Value} {below : List Frame} {meth : Method} {c : Code} {H : Heap} {locs : List Loc} {cells slots : Nat} {Q : State → Prop} {A : Nat → Prop} {pc : Nat} {ls : Array Slot} {rest : List Value} {cc : ByteArray} {own : String} {ws : va_W} (X : CI dC dI cI cS fz A p s m args meth c cc own) (h : Wd dC dI A s ws H locs) {n : Int32} {N idx : Nat} (l1 : Cond.classLink own idx RX5 ∈ tblG) (hn : ¬ n < 0) (hN : n.toNatClampNeg = N) (hb4 : N * 4 ≤ 536870912) (hcells : cells + 1 ≤ R.cells) (hslots : slots + N ≤ R.slots) (hd : decode cc pc = .ok (.anewarray idx, 3))
    (kk : ∀ (q : Nat) (H1 : Heap), Wd dC dI A s (ws ++ [(q, .inl (cS, N, .inr (.inr (.inr (.inr (fun _ => none))))))]) H1 locs → W p l e R s m args below meth c H1 locs (cells + 1) (slots + N) Q (F0 m (pc + 3) ls (.ref q :: rest))) : W p l e R s m args below meth c H locs cells slots Q (F0 m pc ls (.int n :: rest)) := by
  obtain ⟨hx, hb, hown, hts, hW, hin, hA⟩ := X
  obtain ⟨hP, hD, hS⟩ := h
  refine va_newq (D := (dC, dI)) (C := RX5) hx hb hown (hts _ l1) hW.2.2.2.2 hW.1 hP hD hS hA hn hN hb4 hcells hslots hd (fun q cA H1 hK1 hP1 hD1 hS1 => ?_)
  obtain ⟨ka, ca, -, -, -, r1⟩ := (hW.1.2 1 (cS, .object RX5) rfl).2
  obtain ⟨kb, cb, -, -, -, r2⟩ := (hK1.2 2 (cA, .object RX5) rfl).2
  have r3 : cA = cS := Option.some.inj (r2.symm.trans r1)
  subst r3
  exact kk q H1 ⟨hP1, hD1, hS1⟩
theorem arrq_eq {cA : ClassId} {N : Nat} {f g : Nat → Option Nat} (h : ∀ i, i < N → f i = g i) : vp_cell cA (N, .inr (.inr (.inr (.inr f)))) = vp_cell cA (N, .inr (.inr (.inr (.inr g)))) := by
  show arrV cA N (fun j => va_rf (f j)) = arrV cA N (fun j => va_rf (g j))
  unfold arrV
  congr 1
  apply congrArg
  funext j
  show va_rf (f j.val) = va_rf (g j.val)
  rw [h j.val j.isLt]
theorem Wd.arrq {A : Nat → Prop} {s : State} {w1 w2 : va_W} {H : Heap} {locs : List Loc} {q N : Nat} {f g : Nat → Option Nat} (h : Wd dC dI A s (w1 ++ (q, .inl (cS, N, .inr (.inr (.inr (.inr f))))) :: w2) H locs) (hfg : ∀ i, i < N → f i = g i) : Wd dC dI A s (w1 ++ (q, .inl (cS, N, .inr (.inr (.inr (.inr g))))) :: w2) H locs := by
  obtain ⟨hP, hD, hS⟩ := h
  refine ⟨vP_mem.mpr (fun x hx => ?_), vD_mem.mpr ⟨?_, fun x hx => ?_⟩, hS⟩
  · rcases List.mem_append.mp hx with hx | hx
    · exact vP_mem.mp hP x (List.mem_append_left _ hx)
    · rcases List.mem_cons.mp hx with rfl | hx
      · have hq : H[q]? = some (vp_cell cS (N, .inr (.inr (.inr (.inr f))))) := vP_mem.mp hP (q, .inl (cS, N, .inr (.inr (.inr (.inr f))))) (List.mem_append_right _ List.mem_cons_self)
        show H[q]? = some (vp_cell cS (N, .inr (.inr (.inr (.inr g)))))
        rw [hq, arrq_eq hfg]
      · exact vP_mem.mp hP x (List.mem_append_right _ (List.mem_cons_of_mem _ hx))
  · have := (vD_mem.mp hD).1
    rw [List.map_append, List.map_cons] at this ⊢
    exact this
  · rcases List.mem_append.mp hx with hx | hx
    · exact (vD_mem.mp hD).2 x (List.mem_append_left _ hx)
    · rcases List.mem_cons.mp hx with rfl | hx
      · exact (vD_mem.mp hD).2 (q, .inl (cS, N, .inr (.inr (.inr (.inr f))))) (List.mem_append_right _ List.mem_cons_self)
      · exact (vD_mem.mp hD).2 x (List.mem_append_right _ (List.mem_cons_of_mem _ hx))
def keyH (r : Nat) : List (Nat × Nat × Nat) := [(r, 1, 0), (r, 2, 0), (r, 8, 0), (r, 9, 0), (r, 10, 0), (r, 11, 0), (r, 12, 0), (r, 13, 0), (r, 14, 0), (r, 15, 0), (r, 16, 0), (r, 17, 0), (r, 18, 0), (r, 19, 0), (r, 20, 0), (r, 21, 0), (r, 22, 0), (r, 23, 0), (r, 24, 0), (r, 25, 0), (r, 26, 0), (r, 27, 0), (r, 28, 0), (r, 29, 0), (r, 30, 0), (r, 31, 0), (r, 32, 0), (r, 33, 0), (r, 34, 0), (r, 35, 0), (r, 3, 0), (r, 4, 0), (r, 5, 0), (r, 7, 0), (r, 6, 0), (r, 3, 1), (r, 4, 1), (r, 5, 1), (r, 7, 1), (r, 6, 1), (r, 3, 2), (r, 4, 2), (r, 5, 2), (r, 7, 2), (r, 6, 2), (r, 3, 3), (r, 4, 3), (r, 5, 3), (r, 7, 3), (r, 6, 3), (r, 3, 4), (r, 4, 4), (r, 5, 4), (r, 7, 4), (r, 6, 4), (r, 3, 5), (r, 4, 5), (r, 5, 5), (r, 7, 5), (r, 6, 5)]
set_option maxRecDepth 20000 in
set_option maxHeartbeats 8000000 in
theorem c_X1_init (r : Nat) : CtM l dC dI cI cS fz yX1_init cX1_init 2 { frames := 3, cells := 59, slots := 2428, locals := 100 } 1 [] (keyH r) (r, 1, 0) μZ := by
  refine k_begin (by decide) rfl (by decide) rfl ?_
  intro p e s m below meth c q ls A X hml hr hlk hl ht h
  have hl := lh1 hl ht
  have hx := X.1
  have hb := X.2.1
  have X : CI dC dI cI cS fz A p s m _ meth c _ (ow 1) := X
  have h : Wd dC dI A s ((q, .inr (1, [.null, .int 0, .int 0, .int 0, .int 0, .null, .null, .null, .null, .null, .int 0, .int 0, .int 0])) :: []) s.heap [] := h
  refine lv_aload_n hx hb dX1_init_0 rfl (lv_at hl 0 rfl) ?_
  refine k_obj X hml hl.1 (mem_G (q := 83) rfl rfl) (Nat.le_of_ble_eq_true rfl) (Nat.le_of_ble_eq_true rfl) dX1_init_1 ?_
  refine lv_aload_n hx hb dX1_init_4 rfl (lv_at hl 0 rfl) ?_
  refine lv_bipush (v := 6) hx hb dX1_init_5 (by decide) ?_
  refine k_newq X h (N := 6) (mem_G (q := 84) rfl rfl) (by decide) (by decide) (by decide) (Nat.le_of_ble_eq_true rfl) (Nat.le_of_ble_eq_true rfl) dX1_init_7 (fun q1 H h => ?_)
  refine k_putR X h (ci := 1) (k := 0) (by decide) (by decide) (Nat.le_of_ble_eq_true rfl) (fl_in (w := 1) (j := 0) (q := 333) (by decide) (by decide)) rfl rfl rfl rfl dX1_init_10 (fun H locs h => ?_)
  have h : Wd dC dI A s ((q, .inr (1, [.ref q1, .int 0, .int 0, .int 0, .int 0, .null, .null, .null, .null, .null, .int 0, .int 0, .int 0])) :: _) H locs := h
  refine lv_aload_n hx hb dX1_init_13 rfl (lv_at hl 0 rfl) ?_
  refine lv_iconst (v := 0) hx hb dX1_init_14 (by decide) ?_
  refine k_putI X h (ci := 1) (k := 1) (by decide) (by decide) (Nat.le_of_ble_eq_true rfl) (fl_in (w := 1) (j := 1) (q := 335) (by decide) (by decide)) rfl rfl rfl dX1_init_15 (fun H locs h => ?_)
  have h : Wd dC dI A s ((q, .inr (1, [.ref q1, .int 0, .int 0, .int 0, .int 0, .null, .null, .null, .null, .null, .int 0, .int 0, .int 0])) :: _) H locs := h
  refine lv_aload_n hx hb dX1_init_18 rfl (lv_at hl 0 rfl) ?_
  refine lv_iconst (v := 0) hx hb dX1_init_19 (by decide) ?_
  refine k_putI X h (ci := 1) (k := 2) (by decide) (by decide) (Nat.le_of_ble_eq_true rfl) (fl_in (w := 1) (j := 2) (q := 337) (by decide) (by decide)) rfl rfl rfl dX1_init_20 (fun H locs h => ?_)
  have h : Wd dC dI A s ((q, .inr (1, [.ref q1, .int 0, .int 0, .int 0, .int 0, .null, .null, .null, .null, .null, .int 0, .int 0, .int 0])) :: _) H locs := h
  refine lv_aload_n hx hb dX1_init_23 rfl (lv_at hl 0 rfl) ?_
  refine lv_iconst (v := 1) hx hb dX1_init_24 (by decide) ?_
  refine k_putI X h (ci := 1) (k := 3) (by decide) (by decide) (Nat.le_of_ble_eq_true rfl) (fl_in (w := 1) (j := 3) (q := 339) (by decide) (by decide)) rfl rfl rfl dX1_init_25 (fun H locs h => ?_)
  have h : Wd dC dI A s ((q, .inr (1, [.ref q1, .int 0, .int 0, .int 1, .int 0, .null, .null, .null, .null, .null, .int 0, .int 0, .int 0])) :: _) H locs := h
  refine lv_aload_n hx hb dX1_init_28 rfl (lv_at hl 0 rfl) ?_
  refine lv_iconst (v := 0) hx hb dX1_init_29 (by decide) ?_
  refine k_putI X h (ci := 1) (k := 4) (by decide) (by decide) (Nat.le_of_ble_eq_true rfl) (fl_in (w := 1) (j := 4) (q := 341) (by decide) (by decide)) rfl rfl rfl dX1_init_30 (fun H locs h => ?_)
  have h : Wd dC dI A s ((q, .inr (1, [.ref q1, .int 0, .int 0, .int 1, .int 0, .null, .null, .null, .null, .null, .int 0, .int 0, .int 0])) :: _) H locs := h
  refine lv_aload_n hx hb dX1_init_33 rfl (lv_at hl 0 rfl) ?_
  refine k_new X h (ci := 2) (by decide) (mem_G (q := 86) rfl rfl) (mem_G (q := 87) rfl rfl) (mem_G (q := 59) rfl rfl) (Nat.le_of_ble_eq_true rfl) (Nat.le_of_ble_eq_true rfl) dX1_init_34 (fun q2 H h => ?_)
  refine lv_dup hx hb dX1_init_37 rfl ?_
  refine k_callN (rest := [.ref q2, .ref q]) (As := []) X hml hl.1 h (c_X2_init r) (mem_G (q := 90) rfl rfl) (List.mem_of_getElem? (i := 88) rfl) (mem_G (q := 89) rfl rfl) (mem_G (q := 59) rfl rfl) ⟨rfl, by decide +kernel, by decide +kernel, by decide +kernel⟩ ⟨Nat.le_of_ble_eq_true rfl, Nat.le_of_ble_eq_true rfl⟩ (Nat.le_of_ble_eq_true rfl) ⟨Nat.le_of_ble_eq_true rfl, Nat.le_of_ble_eq_true rfl⟩ dX1_init_38 (fun ad1 H locs ead1 h => ?_)
  refine k_putR X h (ci := 1) (k := 5) (by decide) (by decide) (Nat.le_of_ble_eq_true rfl) (fl_in (w := 1) (j := 5) (q := 343) (by decide) (by decide)) rfl rfl rfl rfl dX1_init_41 (fun H locs h => ?_)
  have h : Wd dC dI A s ((q, .inr (1, [.ref q1, .int 0, .int 0, .int 1, .int 0, .ref q2, .null, .null, .null, .null, .int 0, .int 0, .int 0])) :: _) H locs := h
  refine lv_aload_n hx hb dX1_init_44 rfl (lv_at hl 0 rfl) ?_
  refine k_new X h (ci := 0) (by decide) (mem_G (q := 174) rfl rfl) (mem_G (q := 175) rfl rfl) (mem_G (q := 62) rfl rfl) (Nat.le_of_ble_eq_true rfl) (Nat.le_of_ble_eq_true rfl) dX1_init_45 (fun q3 H h => ?_)
  refine lv_dup hx hb dX1_init_48 rfl ?_
  refine k_callN (rest := [.ref q3, .ref q]) (As := []) X hml hl.1 h (c_X0_init r) (mem_G (q := 178) rfl rfl) (List.mem_of_getElem? (i := 176) rfl) (mem_G (q := 177) rfl rfl) (mem_G (q := 62) rfl rfl) ⟨rfl, by decide +kernel, by decide +kernel, by decide +kernel⟩ ⟨Nat.le_of_ble_eq_true rfl, Nat.le_of_ble_eq_true rfl⟩ (Nat.le_of_ble_eq_true rfl) ⟨Nat.le_of_ble_eq_true rfl, Nat.le_of_ble_eq_true rfl⟩ dX1_init_49 (fun ad2 H locs ead2 h => ?_)
  refine k_putR X h (ci := 1) (k := 6) (by decide) (by decide) (Nat.le_of_ble_eq_true rfl) (fl_in (w := 1) (j := 6) (q := 345) (by decide) (by decide)) rfl rfl rfl rfl dX1_init_52 (fun H locs h => ?_)
  have h : Wd dC dI A s ((q, .inr (1, [.ref q1, .int 0, .int 0, .int 1, .int 0, .ref q2, .ref q3, .null, .null, .null, .int 0, .int 0, .int 0])) :: _) H locs := h
  refine lv_aload_n hx hb dX1_init_55 rfl (lv_at hl 0 rfl) ?_
  refine k_new X h (ci := 6) (by decide) (mem_G (q := 238) rfl rfl) (mem_G (q := 239) rfl rfl) (mem_G (q := 63) rfl rfl) (Nat.le_of_ble_eq_true rfl) (Nat.le_of_ble_eq_true rfl) dX1_init_56 (fun q4 H h => ?_)
  refine lv_dup hx hb dX1_init_59 rfl ?_
  refine k_callN (rest := [.ref q4, .ref q]) (As := []) X hml hl.1 h (c_X6_init r) (mem_G (q := 242) rfl rfl) (List.mem_of_getElem? (i := 240) rfl) (mem_G (q := 241) rfl rfl) (mem_G (q := 63) rfl rfl) ⟨rfl, by decide +kernel, by decide +kernel, by decide +kernel⟩ ⟨Nat.le_of_ble_eq_true rfl, Nat.le_of_ble_eq_true rfl⟩ (Nat.le_of_ble_eq_true rfl) ⟨Nat.le_of_ble_eq_true rfl, Nat.le_of_ble_eq_true rfl⟩ dX1_init_60 (fun ad3 H locs ead3 h => ?_)
  refine k_putR X h (ci := 1) (k := 7) (by decide) (by decide) (Nat.le_of_ble_eq_true rfl) (fl_in (w := 1) (j := 7) (q := 347) (by decide) (by decide)) rfl rfl rfl rfl dX1_init_63 (fun H locs h => ?_)
  have h : Wd dC dI A s ((q, .inr (1, [.ref q1, .int 0, .int 0, .int 1, .int 0, .ref q2, .ref q3, .ref q4, .null, .null, .int 0, .int 0, .int 0])) :: _) H locs := h
  refine lv_aload_n hx hb dX1_init_66 rfl (lv_at hl 0 rfl) ?_
  refine k_new X h (ci := 4) (by decide) (mem_G (q := 260) rfl rfl) (mem_G (q := 261) rfl rfl) (mem_G (q := 64) rfl rfl) (Nat.le_of_ble_eq_true rfl) (Nat.le_of_ble_eq_true rfl) dX1_init_67 (fun q5 H h => ?_)
  refine lv_dup hx hb dX1_init_70 rfl ?_
  refine k_callN (rest := [.ref q5, .ref q]) (As := []) X hml hl.1 h (c_X4_init r) (mem_G (q := 264) rfl rfl) (List.mem_of_getElem? (i := 262) rfl) (mem_G (q := 263) rfl rfl) (mem_G (q := 64) rfl rfl) ⟨rfl, by decide +kernel, by decide +kernel, by decide +kernel⟩ ⟨Nat.le_of_ble_eq_true rfl, Nat.le_of_ble_eq_true rfl⟩ (Nat.le_of_ble_eq_true rfl) ⟨Nat.le_of_ble_eq_true rfl, Nat.le_of_ble_eq_true rfl⟩ dX1_init_71 (fun ad4 H locs ead4 h => ?_)
  refine k_putR X h (ci := 1) (k := 8) (by decide) (by decide) (Nat.le_of_ble_eq_true rfl) (fl_in (w := 1) (j := 8) (q := 349) (by decide) (by decide)) rfl rfl rfl rfl dX1_init_74 (fun H locs h => ?_)
  have h : Wd dC dI A s ((q, .inr (1, [.ref q1, .int 0, .int 0, .int 1, .int 0, .ref q2, .ref q3, .ref q4, .ref q5, .null, .int 0, .int 0, .int 0])) :: _) H locs := h
  refine lv_aload_n hx hb dX1_init_77 rfl (lv_at hl 0 rfl) ?_
  refine lv_bipush (v := 120) hx hb dX1_init_78 (by decide) ?_
  refine k_newa X h (N := 120) (by decide) (by decide) (by decide) (Nat.le_of_ble_eq_true rfl) (Nat.le_of_ble_eq_true rfl) dX1_init_80 (fun q6 H h => ?_)
  refine k_putR X h (ci := 1) (k := 9) (by decide) (by decide) (Nat.le_of_ble_eq_true rfl) (fl_in (w := 1) (j := 9) (q := 351) (by decide) (by decide)) rfl rfl rfl rfl dX1_init_82 (fun H locs h => ?_)
  have h : Wd dC dI A s ((q, .inr (1, [.ref q1, .int 0, .int 0, .int 1, .int 0, .ref q2, .ref q3, .ref q4, .ref q5, .ref q6, .int 0, .int 0, .int 0])) :: _) H locs := h
  refine lv_aload_n hx hb dX1_init_85 rfl (lv_at hl 0 rfl) ?_
  refine lv_iconst (v := 0) hx hb dX1_init_86 (by decide) ?_
  refine k_putI X h (ci := 1) (k := 10) (by decide) (by decide) (Nat.le_of_ble_eq_true rfl) (fl_in (w := 1) (j := 10) (q := 352) (by decide) (by decide)) rfl rfl rfl dX1_init_87 (fun H locs h => ?_)
  have h : Wd dC dI A s ((q, .inr (1, [.ref q1, .int 0, .int 0, .int 1, .int 0, .ref q2, .ref q3, .ref q4, .ref q5, .ref q6, .int 0, .int 0, .int 0])) :: _) H locs := h
  refine lv_aload_n hx hb dX1_init_90 rfl (lv_at hl 0 rfl) ?_
  refine lv_iconst (v := -1) hx hb dX1_init_91 (by decide) ?_
  refine k_putI X h (ci := 1) (k := 11) (by decide) (by decide) (Nat.le_of_ble_eq_true rfl) (fl_in (w := 1) (j := 11) (q := 353) (by decide) (by decide)) rfl rfl rfl dX1_init_92 (fun H locs h => ?_)
  have h : Wd dC dI A s ((q, .inr (1, [.ref q1, .int 0, .int 0, .int 1, .int 0, .ref q2, .ref q3, .ref q4, .ref q5, .ref q6, .int 0, .int (-1), .int 0])) :: _) H locs := h
  refine lv_aload_n hx hb dX1_init_95 rfl (lv_at hl 0 rfl) ?_
  refine lv_iconst (v := 0) hx hb dX1_init_96 (by decide) ?_
  refine k_putI X h (ci := 1) (k := 12) (by decide) (by decide) (Nat.le_of_ble_eq_true rfl) (fl_in (w := 1) (j := 12) (q := 354) (by decide) (by decide)) rfl rfl rfl dX1_init_97 (fun H locs h => ?_)
  have h : Wd dC dI A s ((q, .inr (1, [.ref q1, .int 0, .int 0, .int 1, .int 0, .ref q2, .ref q3, .ref q4, .ref q5, .ref q6, .int 0, .int (-1), .int 0])) :: _) H locs := h
  refine lv_iconst (v := nI 0) hx hb dX1_init_100 (by decide) ?_
  refine lv_istore_n (lv' := [(1, .int (nI 0)), (0, .ref q)]) hx hb dX1_init_101 rfl hl (by decide) rfl (fun ls hl => ?_)
  refine lv_iload_n hx hb dX1_init_102 rfl (lv_at hl 0 rfl) ?_
  refine lv_bipush (v := 6) hx hb dX1_init_103 (by decide) ?_
  refine lv_icmp_ge (tgt := 127) hx hb dX1_init_105 (by decide) (fun g => absurd g (by decide)) (fun _ => ?_)
  refine lv_aload_n hx hb dX1_init_108 rfl (lv_at hl 1 rfl) ?_
  refine k_get X h (ci := 1) (k := 0) (v := .ref q1) (by decide) (by decide) (fl_in (w := 1) (j := 0) (q := 333) (by decide) (by decide)) rfl dX1_init_109 ?_
  refine lv_iload_n hx hb dX1_init_112 rfl (lv_at hl 0 rfl) ?_
  refine k_new X h (ci := 5) (by decide) (mem_G (q := 84) rfl rfl) (mem_G (q := 281) rfl rfl) (mem_G (q := 65) rfl rfl) (Nat.le_of_ble_eq_true rfl) (Nat.le_of_ble_eq_true rfl) dX1_init_113 (fun q7 H h => ?_)
  refine lv_dup hx hb dX1_init_116 rfl ?_
  refine k_callL (rest := [.ref q7, .int (nI 0), .ref q1]) (As := []) X hml hl.1 h (c_X5_init r 0) (mem_G (q := 284) rfl rfl) (mem_G (q := 282) rfl rfl) (mem_G (q := 283) rfl rfl) (mem_G (q := 65) rfl rfl) ⟨rfl, by decide +kernel, by decide +kernel, by decide +kernel⟩ ⟨Nat.le_of_ble_eq_true rfl, Nat.le_of_ble_eq_true rfl⟩ (Nat.le_of_ble_eq_true rfl) ⟨Nat.le_of_ble_eq_true rfl, Nat.le_of_ble_eq_true rfl⟩ dX1_init_117 (fun ad5 H locs ead5 h => ?_)
  rw [← (show ad5 r 3 0 = q7 from ead5)]
  refine va_astq (D := (dC, dI)) hx hb X.2.2.2.2.1.1 h.1 h.2.1 h.2.2 1 1 30 5 (cA := cS) (n := 6) (r := (RX5, TX5, 8)) (f := (fun _ => none)) rfl rfl rfl rfl (show vp_in (nI 0) 6 from vp_in_nI (by decide) (by decide)) dX1_init_120 (fun H locs hP1 hD1 hS1 => ?_)
  have h : Wd dC dI A s ((q, .inr (1, [.ref q1, .int 0, .int 0, .int 1, .int 0, .ref q2, .ref q3, .ref q4, .ref q5, .ref q6, .int 0, .int (-1), .int 0])) :: (q1, .inl (cS, 6, .inr (.inr (.inr (.inr (va_up (fun _ => none) (nI 0).toNatClampNeg (some (ad5 r 3 0)))))))) :: _) H locs := ⟨hP1, hD1, hS1⟩
  refine lv_iinc (k := 0) (v := nI 1) (lv' := [(1, .int (nI 1)), (0, .ref q)]) hx hb dX1_init_121 hl rfl (nI_1 0) (by decide) rfl (fun ls hl => ?_)
  refine lv_goto (tgt := 102) hx hb dX1_init_124 (by decide) ?_
  refine lv_iload_n hx hb dX1_init_102 rfl (lv_at hl 0 rfl) ?_
  refine lv_bipush (v := 6) hx hb dX1_init_103 (by decide) ?_
  refine lv_icmp_ge (tgt := 127) hx hb dX1_init_105 (by decide) (fun g => absurd g (by decide)) (fun _ => ?_)
  refine lv_aload_n hx hb dX1_init_108 rfl (lv_at hl 1 rfl) ?_
  refine k_get X h (ci := 1) (k := 0) (v := .ref q1) (by decide) (by decide) (fl_in (w := 1) (j := 0) (q := 333) (by decide) (by decide)) rfl dX1_init_109 ?_
  refine lv_iload_n hx hb dX1_init_112 rfl (lv_at hl 0 rfl) ?_
  refine k_new X h (ci := 5) (by decide) (mem_G (q := 84) rfl rfl) (mem_G (q := 281) rfl rfl) (mem_G (q := 65) rfl rfl) (Nat.le_of_ble_eq_true rfl) (Nat.le_of_ble_eq_true rfl) dX1_init_113 (fun q8 H h => ?_)
  refine lv_dup hx hb dX1_init_116 rfl ?_
  refine k_callL (rest := [.ref q8, .int (nI 1), .ref q1]) (As := []) X hml hl.1 h (c_X5_init r 1) (mem_G (q := 284) rfl rfl) (mem_G (q := 282) rfl rfl) (mem_G (q := 283) rfl rfl) (mem_G (q := 65) rfl rfl) ⟨rfl, by decide +kernel, by decide +kernel, by decide +kernel⟩ ⟨Nat.le_of_ble_eq_true rfl, Nat.le_of_ble_eq_true rfl⟩ (Nat.le_of_ble_eq_true rfl) ⟨Nat.le_of_ble_eq_true rfl, Nat.le_of_ble_eq_true rfl⟩ dX1_init_117 (fun ad6 H locs ead6 h => ?_)
  rw [← (show ad6 r 3 1 = q8 from ead6)]
  refine va_astq (D := (dC, dI)) hx hb X.2.2.2.2.1.1 h.1 h.2.1 h.2.2 1 1 35 5 (cA := cS) (n := 6) (r := (RX5, TX5, 8)) (f := (va_up (fun _ => none) (nI 0).toNatClampNeg (some (ad5 r 3 0)))) rfl rfl rfl rfl (show vp_in (nI 1) 6 from vp_in_nI (by decide) (by decide)) dX1_init_120 (fun H locs hP1 hD1 hS1 => ?_)
  have h : Wd dC dI A s ((q, .inr (1, [.ref q1, .int 0, .int 0, .int 1, .int 0, .ref q2, .ref q3, .ref q4, .ref q5, .ref q6, .int 0, .int (-1), .int 0])) :: (q1, .inl (cS, 6, .inr (.inr (.inr (.inr (va_up (va_up (fun _ => none) (nI 0).toNatClampNeg (some (ad5 r 3 0))) (nI 1).toNatClampNeg (some (ad6 r 3 1)))))))) :: _) H locs := ⟨hP1, hD1, hS1⟩
  refine lv_iinc (k := 0) (v := nI 2) (lv' := [(1, .int (nI 2)), (0, .ref q)]) hx hb dX1_init_121 hl rfl (nI_1 1) (by decide) rfl (fun ls hl => ?_)
  refine lv_goto (tgt := 102) hx hb dX1_init_124 (by decide) ?_
  refine lv_iload_n hx hb dX1_init_102 rfl (lv_at hl 0 rfl) ?_
  refine lv_bipush (v := 6) hx hb dX1_init_103 (by decide) ?_
  refine lv_icmp_ge (tgt := 127) hx hb dX1_init_105 (by decide) (fun g => absurd g (by decide)) (fun _ => ?_)
  refine lv_aload_n hx hb dX1_init_108 rfl (lv_at hl 1 rfl) ?_
  refine k_get X h (ci := 1) (k := 0) (v := .ref q1) (by decide) (by decide) (fl_in (w := 1) (j := 0) (q := 333) (by decide) (by decide)) rfl dX1_init_109 ?_
  refine lv_iload_n hx hb dX1_init_112 rfl (lv_at hl 0 rfl) ?_
  refine k_new X h (ci := 5) (by decide) (mem_G (q := 84) rfl rfl) (mem_G (q := 281) rfl rfl) (mem_G (q := 65) rfl rfl) (Nat.le_of_ble_eq_true rfl) (Nat.le_of_ble_eq_true rfl) dX1_init_113 (fun q9 H h => ?_)
  refine lv_dup hx hb dX1_init_116 rfl ?_
  refine k_callL (rest := [.ref q9, .int (nI 2), .ref q1]) (As := []) X hml hl.1 h (c_X5_init r 2) (mem_G (q := 284) rfl rfl) (mem_G (q := 282) rfl rfl) (mem_G (q := 283) rfl rfl) (mem_G (q := 65) rfl rfl) ⟨rfl, by decide +kernel, by decide +kernel, by decide +kernel⟩ ⟨Nat.le_of_ble_eq_true rfl, Nat.le_of_ble_eq_true rfl⟩ (Nat.le_of_ble_eq_true rfl) ⟨Nat.le_of_ble_eq_true rfl, Nat.le_of_ble_eq_true rfl⟩ dX1_init_117 (fun ad7 H locs ead7 h => ?_)
  rw [← (show ad7 r 3 2 = q9 from ead7)]
  refine va_astq (D := (dC, dI)) hx hb X.2.2.2.2.1.1 h.1 h.2.1 h.2.2 1 1 40 5 (cA := cS) (n := 6) (r := (RX5, TX5, 8)) (f := (va_up (va_up (fun _ => none) (nI 0).toNatClampNeg (some (ad5 r 3 0))) (nI 1).toNatClampNeg (some (ad6 r 3 1)))) rfl rfl rfl rfl (show vp_in (nI 2) 6 from vp_in_nI (by decide) (by decide)) dX1_init_120 (fun H locs hP1 hD1 hS1 => ?_)
  have h : Wd dC dI A s ((q, .inr (1, [.ref q1, .int 0, .int 0, .int 1, .int 0, .ref q2, .ref q3, .ref q4, .ref q5, .ref q6, .int 0, .int (-1), .int 0])) :: (q1, .inl (cS, 6, .inr (.inr (.inr (.inr (va_up (va_up (va_up (fun _ => none) (nI 0).toNatClampNeg (some (ad5 r 3 0))) (nI 1).toNatClampNeg (some (ad6 r 3 1))) (nI 2).toNatClampNeg (some (ad7 r 3 2)))))))) :: _) H locs := ⟨hP1, hD1, hS1⟩
  refine lv_iinc (k := 0) (v := nI 3) (lv' := [(1, .int (nI 3)), (0, .ref q)]) hx hb dX1_init_121 hl rfl (nI_1 2) (by decide) rfl (fun ls hl => ?_)
  refine lv_goto (tgt := 102) hx hb dX1_init_124 (by decide) ?_
  refine lv_iload_n hx hb dX1_init_102 rfl (lv_at hl 0 rfl) ?_
  refine lv_bipush (v := 6) hx hb dX1_init_103 (by decide) ?_
  refine lv_icmp_ge (tgt := 127) hx hb dX1_init_105 (by decide) (fun g => absurd g (by decide)) (fun _ => ?_)
  refine lv_aload_n hx hb dX1_init_108 rfl (lv_at hl 1 rfl) ?_
  refine k_get X h (ci := 1) (k := 0) (v := .ref q1) (by decide) (by decide) (fl_in (w := 1) (j := 0) (q := 333) (by decide) (by decide)) rfl dX1_init_109 ?_
  refine lv_iload_n hx hb dX1_init_112 rfl (lv_at hl 0 rfl) ?_
  refine k_new X h (ci := 5) (by decide) (mem_G (q := 84) rfl rfl) (mem_G (q := 281) rfl rfl) (mem_G (q := 65) rfl rfl) (Nat.le_of_ble_eq_true rfl) (Nat.le_of_ble_eq_true rfl) dX1_init_113 (fun q10 H h => ?_)
  refine lv_dup hx hb dX1_init_116 rfl ?_
  refine k_callL (rest := [.ref q10, .int (nI 3), .ref q1]) (As := []) X hml hl.1 h (c_X5_init r 3) (mem_G (q := 284) rfl rfl) (mem_G (q := 282) rfl rfl) (mem_G (q := 283) rfl rfl) (mem_G (q := 65) rfl rfl) ⟨rfl, by decide +kernel, by decide +kernel, by decide +kernel⟩ ⟨Nat.le_of_ble_eq_true rfl, Nat.le_of_ble_eq_true rfl⟩ (Nat.le_of_ble_eq_true rfl) ⟨Nat.le_of_ble_eq_true rfl, Nat.le_of_ble_eq_true rfl⟩ dX1_init_117 (fun ad8 H locs ead8 h => ?_)
  rw [← (show ad8 r 3 3 = q10 from ead8)]
  refine va_astq (D := (dC, dI)) hx hb X.2.2.2.2.1.1 h.1 h.2.1 h.2.2 1 1 45 5 (cA := cS) (n := 6) (r := (RX5, TX5, 8)) (f := (va_up (va_up (va_up (fun _ => none) (nI 0).toNatClampNeg (some (ad5 r 3 0))) (nI 1).toNatClampNeg (some (ad6 r 3 1))) (nI 2).toNatClampNeg (some (ad7 r 3 2)))) rfl rfl rfl rfl (show vp_in (nI 3) 6 from vp_in_nI (by decide) (by decide)) dX1_init_120 (fun H locs hP1 hD1 hS1 => ?_)
  have h : Wd dC dI A s ((q, .inr (1, [.ref q1, .int 0, .int 0, .int 1, .int 0, .ref q2, .ref q3, .ref q4, .ref q5, .ref q6, .int 0, .int (-1), .int 0])) :: (q1, .inl (cS, 6, .inr (.inr (.inr (.inr (va_up (va_up (va_up (va_up (fun _ => none) (nI 0).toNatClampNeg (some (ad5 r 3 0))) (nI 1).toNatClampNeg (some (ad6 r 3 1))) (nI 2).toNatClampNeg (some (ad7 r 3 2))) (nI 3).toNatClampNeg (some (ad8 r 3 3)))))))) :: _) H locs := ⟨hP1, hD1, hS1⟩
  refine lv_iinc (k := 0) (v := nI 4) (lv' := [(1, .int (nI 4)), (0, .ref q)]) hx hb dX1_init_121 hl rfl (nI_1 3) (by decide) rfl (fun ls hl => ?_)
  refine lv_goto (tgt := 102) hx hb dX1_init_124 (by decide) ?_
  refine lv_iload_n hx hb dX1_init_102 rfl (lv_at hl 0 rfl) ?_
  refine lv_bipush (v := 6) hx hb dX1_init_103 (by decide) ?_
  refine lv_icmp_ge (tgt := 127) hx hb dX1_init_105 (by decide) (fun g => absurd g (by decide)) (fun _ => ?_)
  refine lv_aload_n hx hb dX1_init_108 rfl (lv_at hl 1 rfl) ?_
  refine k_get X h (ci := 1) (k := 0) (v := .ref q1) (by decide) (by decide) (fl_in (w := 1) (j := 0) (q := 333) (by decide) (by decide)) rfl dX1_init_109 ?_
  refine lv_iload_n hx hb dX1_init_112 rfl (lv_at hl 0 rfl) ?_
  refine k_new X h (ci := 5) (by decide) (mem_G (q := 84) rfl rfl) (mem_G (q := 281) rfl rfl) (mem_G (q := 65) rfl rfl) (Nat.le_of_ble_eq_true rfl) (Nat.le_of_ble_eq_true rfl) dX1_init_113 (fun q11 H h => ?_)
  refine lv_dup hx hb dX1_init_116 rfl ?_
  refine k_callL (rest := [.ref q11, .int (nI 4), .ref q1]) (As := []) X hml hl.1 h (c_X5_init r 4) (mem_G (q := 284) rfl rfl) (mem_G (q := 282) rfl rfl) (mem_G (q := 283) rfl rfl) (mem_G (q := 65) rfl rfl) ⟨rfl, by decide +kernel, by decide +kernel, by decide +kernel⟩ ⟨Nat.le_of_ble_eq_true rfl, Nat.le_of_ble_eq_true rfl⟩ (Nat.le_of_ble_eq_true rfl) ⟨Nat.le_of_ble_eq_true rfl, Nat.le_of_ble_eq_true rfl⟩ dX1_init_117 (fun ad9 H locs ead9 h => ?_)
  rw [← (show ad9 r 3 4 = q11 from ead9)]
  refine va_astq (D := (dC, dI)) hx hb X.2.2.2.2.1.1 h.1 h.2.1 h.2.2 1 1 50 5 (cA := cS) (n := 6) (r := (RX5, TX5, 8)) (f := (va_up (va_up (va_up (va_up (fun _ => none) (nI 0).toNatClampNeg (some (ad5 r 3 0))) (nI 1).toNatClampNeg (some (ad6 r 3 1))) (nI 2).toNatClampNeg (some (ad7 r 3 2))) (nI 3).toNatClampNeg (some (ad8 r 3 3)))) rfl rfl rfl rfl (show vp_in (nI 4) 6 from vp_in_nI (by decide) (by decide)) dX1_init_120 (fun H locs hP1 hD1 hS1 => ?_)
  have h : Wd dC dI A s ((q, .inr (1, [.ref q1, .int 0, .int 0, .int 1, .int 0, .ref q2, .ref q3, .ref q4, .ref q5, .ref q6, .int 0, .int (-1), .int 0])) :: (q1, .inl (cS, 6, .inr (.inr (.inr (.inr (va_up (va_up (va_up (va_up (va_up (fun _ => none) (nI 0).toNatClampNeg (some (ad5 r 3 0))) (nI 1).toNatClampNeg (some (ad6 r 3 1))) (nI 2).toNatClampNeg (some (ad7 r 3 2))) (nI 3).toNatClampNeg (some (ad8 r 3 3))) (nI 4).toNatClampNeg (some (ad9 r 3 4)))))))) :: _) H locs := ⟨hP1, hD1, hS1⟩
  refine lv_iinc (k := 0) (v := nI 5) (lv' := [(1, .int (nI 5)), (0, .ref q)]) hx hb dX1_init_121 hl rfl (nI_1 4) (by decide) rfl (fun ls hl => ?_)
  refine lv_goto (tgt := 102) hx hb dX1_init_124 (by decide) ?_
  refine lv_iload_n hx hb dX1_init_102 rfl (lv_at hl 0 rfl) ?_
  refine lv_bipush (v := 6) hx hb dX1_init_103 (by decide) ?_
  refine lv_icmp_ge (tgt := 127) hx hb dX1_init_105 (by decide) (fun g => absurd g (by decide)) (fun _ => ?_)
  refine lv_aload_n hx hb dX1_init_108 rfl (lv_at hl 1 rfl) ?_
  refine k_get X h (ci := 1) (k := 0) (v := .ref q1) (by decide) (by decide) (fl_in (w := 1) (j := 0) (q := 333) (by decide) (by decide)) rfl dX1_init_109 ?_
  refine lv_iload_n hx hb dX1_init_112 rfl (lv_at hl 0 rfl) ?_
  refine k_new X h (ci := 5) (by decide) (mem_G (q := 84) rfl rfl) (mem_G (q := 281) rfl rfl) (mem_G (q := 65) rfl rfl) (Nat.le_of_ble_eq_true rfl) (Nat.le_of_ble_eq_true rfl) dX1_init_113 (fun q12 H h => ?_)
  refine lv_dup hx hb dX1_init_116 rfl ?_
  refine k_callL (rest := [.ref q12, .int (nI 5), .ref q1]) (As := []) X hml hl.1 h (c_X5_init r 5) (mem_G (q := 284) rfl rfl) (mem_G (q := 282) rfl rfl) (mem_G (q := 283) rfl rfl) (mem_G (q := 65) rfl rfl) ⟨rfl, by decide +kernel, by decide +kernel, by decide +kernel⟩ ⟨Nat.le_of_ble_eq_true rfl, Nat.le_of_ble_eq_true rfl⟩ (Nat.le_of_ble_eq_true rfl) ⟨Nat.le_of_ble_eq_true rfl, Nat.le_of_ble_eq_true rfl⟩ dX1_init_117 (fun ad10 H locs ead10 h => ?_)
  rw [← (show ad10 r 3 5 = q12 from ead10)]
  refine va_astq (D := (dC, dI)) hx hb X.2.2.2.2.1.1 h.1 h.2.1 h.2.2 1 1 55 5 (cA := cS) (n := 6) (r := (RX5, TX5, 8)) (f := (va_up (va_up (va_up (va_up (va_up (fun _ => none) (nI 0).toNatClampNeg (some (ad5 r 3 0))) (nI 1).toNatClampNeg (some (ad6 r 3 1))) (nI 2).toNatClampNeg (some (ad7 r 3 2))) (nI 3).toNatClampNeg (some (ad8 r 3 3))) (nI 4).toNatClampNeg (some (ad9 r 3 4)))) rfl rfl rfl rfl (show vp_in (nI 5) 6 from vp_in_nI (by decide) (by decide)) dX1_init_120 (fun H locs hP1 hD1 hS1 => ?_)
  have h : Wd dC dI A s ((q, .inr (1, [.ref q1, .int 0, .int 0, .int 1, .int 0, .ref q2, .ref q3, .ref q4, .ref q5, .ref q6, .int 0, .int (-1), .int 0])) :: (q1, .inl (cS, 6, .inr (.inr (.inr (.inr (va_up (va_up (va_up (va_up (va_up (va_up (fun _ => none) (nI 0).toNatClampNeg (some (ad5 r 3 0))) (nI 1).toNatClampNeg (some (ad6 r 3 1))) (nI 2).toNatClampNeg (some (ad7 r 3 2))) (nI 3).toNatClampNeg (some (ad8 r 3 3))) (nI 4).toNatClampNeg (some (ad9 r 3 4))) (nI 5).toNatClampNeg (some (ad10 r 3 5)))))))) :: _) H locs := ⟨hP1, hD1, hS1⟩
  refine lv_iinc (k := 0) (v := nI 6) (lv' := [(1, .int (nI 6)), (0, .ref q)]) hx hb dX1_init_121 hl rfl (nI_1 5) (by decide) rfl (fun ls hl => ?_)
  refine lv_goto (tgt := 102) hx hb dX1_init_124 (by decide) ?_
  refine lv_iload_n hx hb dX1_init_102 rfl (lv_at hl 0 rfl) ?_
  refine lv_bipush (v := 6) hx hb dX1_init_103 (by decide) ?_
  refine lv_icmp_ge (tgt := 127) hx hb dX1_init_105 (by decide) (fun _ => ?_) (fun g => absurd (by decide) g)
  rw [← (show ad1 r 8 0 = q2 from ead1)] at h
  rw [← (show ad2 r 20 0 = q3 from ead2)] at h
  rw [← (show ad3 r 28 0 = q4 from ead3)] at h
  rw [← (show ad4 r 32 0 = q5 from ead4)] at h
  have h := Wd.arrq (w1 := [_]) (g := fun i => some ((fun x a o => if o = 0 then ad5 x a o else if o = 1 then ad6 x a o else if o = 2 then ad7 x a o else if o = 3 then ad8 x a o else if o = 4 then ad9 x a o else if o = 5 then ad10 x a o else 0 : Nat → Nat → Nat → Nat) r 3 i)) h (fun i hi => by
    rcases (show i = 0 ∨ i = 1 ∨ i = 2 ∨ i = 3 ∨ i = 4 ∨ i = 5 by omega) with z | z | z | z | z | z <;> subst z <;> rfl)
  refine W.widen (k := 59) (n := 2428) (Nat.le_of_ble_eq_true rfl) (Nat.le_of_ble_eq_true rfl) ?_
  exact k_end X hr hlk dX1_init_127 (fun x a o => if a = 1 then q else if a = 2 then q1 else if a < 8 then (if o = 0 then ad5 x a o else if o = 1 then ad6 x a o else if o = 2 then ad7 x a o else if o = 3 then ad8 x a o else if o = 4 then ad9 x a o else if o = 5 then ad10 x a o else 0) else if a < 20 then ad1 x a o else if a < 28 then ad2 x a o else if a < 32 then ad3 x a o else if a < 35 then ad4 x a o else q6) rfl h
end KC7
