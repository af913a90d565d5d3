/-! CONSTRUCTORS, 5: jobs, guests -/
section KC5
variable {l : Launch} {dC : Nat → ClassId} {dI : Nat → Nat → Nat} {cI cS : ClassId} {fz : Nat}
set_option maxRecDepth 20000 in
theorem c_X2_init (r : Nat) : CtM l dC dI cI cS fz yX2_init cX2_init 1 { frames := 2, cells := 11, slots := 1206, locals := 40 } 2 [] [(r, 8, 0), (r, 9, 0), (r, 10, 0), (r, 11, 0), (r, 12, 0), (r, 13, 0), (r, 14, 0), (r, 15, 0), (r, 16, 0), (r, 17, 0), (r, 18, 0), (r, 19, 0)] (r, 8, 0) μZ := by
  refine k_begin (by decide) rfl (by decide) rfl ?_
  intro p e s m below meth c q ls A X hml hr hlk hl ht h
  have hl := lh1 hl ht
  have hx := X.1
  have hb := X.2.1
  have X : CI dC dI cI cS fz A p s m _ meth c _ (ow 2) := X
  have h : Wd dC dI A s ((q, .inr (2, [.null, .null, .null, .null, .null, .null, .null, .null, .null, .int 0])) :: []) s.heap [] := h
  refine lv_aload_n hx hb dX2_init_0 rfl (lv_at hl 0 rfl) ?_
  refine k_obj X hml hl.1 (mem_G (q := 91) rfl rfl) (Nat.le_of_ble_eq_true rfl) (Nat.le_of_ble_eq_true rfl) dX2_init_1 ?_
  refine lv_aload_n hx hb dX2_init_4 rfl (lv_at hl 0 rfl) ?_
  refine k_new X h (ci := 3) (by decide) (mem_G (q := 92) rfl rfl) (mem_G (q := 93) rfl rfl) (mem_G (q := 60) rfl rfl) (Nat.le_of_ble_eq_true rfl) (Nat.le_of_ble_eq_true rfl) dX2_init_5 (fun q1 H h => ?_)
  refine lv_dup hx hb dX2_init_8 rfl ?_
  refine lv_bipush (v := 120) hx hb dX2_init_9 (by decide) ?_
  refine k_callL (rest := [.ref q1, .ref q]) (As := [.int (nI 120)]) X hml hl.1 h (c_Line9 r) (mem_G (q := 96) rfl rfl) (mem_G (q := 94) rfl rfl) (mem_G (q := 95) rfl rfl) (mem_G (q := 60) rfl rfl) ⟨rfl, by decide +kernel, by decide +kernel, by decide +kernel⟩ ⟨Nat.le_of_ble_eq_true rfl, Nat.le_of_ble_eq_true rfl⟩ (Nat.le_of_ble_eq_true rfl) ⟨Nat.le_of_ble_eq_true rfl, Nat.le_of_ble_eq_true rfl⟩ dX2_init_11 (fun ad1 H locs ead1 h => ?_)
  refine k_putR X h (ci := 2) (k := 0) (by decide) (by decide) (Nat.le_of_ble_eq_true rfl) (fl_in (w := 2) (j := 0) (q := 127) (by decide) (by decide)) rfl rfl rfl rfl dX2_init_14 (fun H locs h => ?_)
  have h : Wd dC dI A s ((q, .inr (2, [.ref q1, .null, .null, .null, .null, .null, .null, .null, .null, .int 0])) :: _) H locs := h
  refine lv_aload_n hx hb dX2_init_17 rfl (lv_at hl 0 rfl) ?_
  refine lv_bipush (v := 120) hx hb dX2_init_18 (by decide) ?_
  refine k_newa X h (N := 120) (by decide) (by decide) (by decide) (Nat.le_of_ble_eq_true rfl) (Nat.le_of_ble_eq_true rfl) dX2_init_20 (fun q2 H h => ?_)
  refine k_putR X h (ci := 2) (k := 1) (by decide) (by decide) (Nat.le_of_ble_eq_true rfl) (fl_in (w := 2) (j := 1) (q := 130) (by decide) (by decide)) rfl rfl rfl rfl dX2_init_22 (fun H locs h => ?_)
  have h : Wd dC dI A s ((q, .inr (2, [.ref q1, .ref q2, .null, .null, .null, .null, .null, .null, .null, .int 0])) :: _) H locs := h
  refine lv_aload_n hx hb dX2_init_25 rfl (lv_at hl 0 rfl) ?_
  refine lv_bipush (v := 120) hx hb dX2_init_26 (by decide) ?_
  refine k_newa X h (N := 120) (by decide) (by decide) (by decide) (Nat.le_of_ble_eq_true rfl) (Nat.le_of_ble_eq_true rfl) dX2_init_28 (fun q3 H h => ?_)
  refine k_putR X h (ci := 2) (k := 2) (by decide) (by decide) (Nat.le_of_ble_eq_true rfl) (fl_in (w := 2) (j := 2) (q := 132) (by decide) (by decide)) rfl rfl rfl rfl dX2_init_30 (fun H locs h => ?_)
  have h : Wd dC dI A s ((q, .inr (2, [.ref q1, .ref q2, .ref q3, .null, .null, .null, .null, .null, .null, .int 0])) :: _) H locs := h
  refine lv_aload_n hx hb dX2_init_33 rfl (lv_at hl 0 rfl) ?_
  refine lv_bipush (v := 120) hx hb dX2_init_34 (by decide) ?_
  refine k_newa X h (N := 120) (by decide) (by decide) (by decide) (Nat.le_of_ble_eq_true rfl) (Nat.le_of_ble_eq_true rfl) dX2_init_36 (fun q4 H h => ?_)
  refine k_putR X h (ci := 2) (k := 3) (by decide) (by decide) (Nat.le_of_ble_eq_true rfl) (fl_in (w := 2) (j := 3) (q := 135) (by decide) (by decide)) rfl rfl rfl rfl dX2_init_38 (fun H locs h => ?_)
  have h : Wd dC dI A s ((q, .inr (2, [.ref q1, .ref q2, .ref q3, .ref q4, .null, .null, .null, .null, .null, .int 0])) :: _) H locs := h
  refine lv_aload_n hx hb dX2_init_41 rfl (lv_at hl 0 rfl) ?_
  refine lv_bipush (v := 120) hx hb dX2_init_42 (by decide) ?_
  refine k_newa X h (N := 120) (by decide) (by decide) (by decide) (Nat.le_of_ble_eq_true rfl) (Nat.le_of_ble_eq_true rfl) dX2_init_44 (fun q5 H h => ?_)
  refine k_putR X h (ci := 2) (k := 4) (by decide) (by decide) (Nat.le_of_ble_eq_true rfl) (fl_in (w := 2) (j := 4) (q := 138) (by decide) (by decide)) rfl rfl rfl rfl dX2_init_46 (fun H locs h => ?_)
  have h : Wd dC dI A s ((q, .inr (2, [.ref q1, .ref q2, .ref q3, .ref q4, .ref q5, .null, .null, .null, .null, .int 0])) :: _) H locs := h
  refine lv_aload_n hx hb dX2_init_49 rfl (lv_at hl 0 rfl) ?_
  refine lv_bipush (v := 120) hx hb dX2_init_50 (by decide) ?_
  refine k_newa X h (N := 120) (by decide) (by decide) (by decide) (Nat.le_of_ble_eq_true rfl) (Nat.le_of_ble_eq_true rfl) dX2_init_52 (fun q6 H h => ?_)
  refine k_putR X h (ci := 2) (k := 5) (by decide) (by decide) (Nat.le_of_ble_eq_true rfl) (fl_in (w := 2) (j := 5) (q := 140) (by decide) (by decide)) rfl rfl rfl rfl dX2_init_54 (fun H locs h => ?_)
  have h : Wd dC dI A s ((q, .inr (2, [.ref q1, .ref q2, .ref q3, .ref q4, .ref q5, .ref q6, .null, .null, .null, .int 0])) :: _) H locs := h
  refine lv_aload_n hx hb dX2_init_57 rfl (lv_at hl 0 rfl) ?_
  refine lv_bipush (v := 120) hx hb dX2_init_58 (by decide) ?_
  refine k_newa X h (N := 120) (by decide) (by decide) (by decide) (Nat.le_of_ble_eq_true rfl) (Nat.le_of_ble_eq_true rfl) dX2_init_60 (fun q7 H h => ?_)
  refine k_putR X h (ci := 2) (k := 6) (by decide) (by decide) (Nat.le_of_ble_eq_true rfl) (fl_in (w := 2) (j := 6) (q := 143) (by decide) (by decide)) rfl rfl rfl rfl dX2_init_62 (fun H locs h => ?_)
  have h : Wd dC dI A s ((q, .inr (2, [.ref q1, .ref q2, .ref q3, .ref q4, .ref q5, .ref q6, .ref q7, .null, .null, .int 0])) :: _) H locs := h
  refine lv_aload_n hx hb dX2_init_65 rfl (lv_at hl 0 rfl) ?_
  refine lv_bipush (v := 120) hx hb dX2_init_66 (by decide) ?_
  refine k_newa X h (N := 120) (by decide) (by decide) (by decide) (Nat.le_of_ble_eq_true rfl) (Nat.le_of_ble_eq_true rfl) dX2_init_68 (fun q8 H h => ?_)
  refine k_putR X h (ci := 2) (k := 7) (by decide) (by decide) (Nat.le_of_ble_eq_true rfl) (fl_in (w := 2) (j := 7) (q := 145) (by decide) (by decide)) rfl rfl rfl rfl dX2_init_70 (fun H locs h => ?_)
  have h : Wd dC dI A s ((q, .inr (2, [.ref q1, .ref q2, .ref q3, .ref q4, .ref q5, .ref q6, .ref q7, .ref q8, .null, .int 0])) :: _) H locs := h
  refine lv_aload_n hx hb dX2_init_73 rfl (lv_at hl 0 rfl) ?_
  refine lv_bipush (v := 120) hx hb dX2_init_74 (by decide) ?_
  refine k_newa X h (N := 120) (by decide) (by decide) (by decide) (Nat.le_of_ble_eq_true rfl) (Nat.le_of_ble_eq_true rfl) dX2_init_76 (fun q9 H h => ?_)
  refine k_putR X h (ci := 2) (k := 8) (by decide) (by decide) (Nat.le_of_ble_eq_true rfl) (fl_in (w := 2) (j := 8) (q := 148) (by decide) (by decide)) rfl rfl rfl rfl dX2_init_78 (fun H locs h => ?_)
  have h : Wd dC dI A s ((q, .inr (2, [.ref q1, .ref q2, .ref q3, .ref q4, .ref q5, .ref q6, .ref q7, .ref q8, .ref q9, .int 0])) :: _) H locs := h
  refine lv_aload_n hx hb dX2_init_81 rfl (lv_at hl 0 rfl) ?_
  refine lv_iconst (v := 0) hx hb dX2_init_82 (by decide) ?_
  refine k_putI X h (ci := 2) (k := 9) (by decide) (by decide) (Nat.le_of_ble_eq_true rfl) (fl_in (w := 2) (j := 9) (q := 151) (by decide) (by decide)) rfl rfl rfl dX2_init_83 (fun H locs h => ?_)
  have h : Wd dC dI A s ((q, .inr (2, [.ref q1, .ref q2, .ref q3, .ref q4, .ref q5, .ref q6, .ref q7, .ref q8, .ref q9, .int 0])) :: _) H locs := h
  subst ead1
  refine W.widen (k := 11) (n := 1206) (Nat.le_of_ble_eq_true rfl) (Nat.le_of_ble_eq_true rfl) ?_
  exact k_end X hr hlk dX2_init_86 (fun x a y => if a = 8 then q else if a < 12 then ad1 x a y else [q2, q3, q4, q5, q6, q7, q8, q9].getD (a - 12) 0) rfl h
set_option maxRecDepth 20000 in
theorem c_X0_init (r : Nat) : CtM l dC dI cI cS fz yX0_init cX0_init 1 { frames := 2, cells := 7, slots := 606, locals := 40 } 0 [] [(r, 20, 0), (r, 21, 0), (r, 22, 0), (r, 23, 0), (r, 24, 0), (r, 25, 0), (r, 26, 0), (r, 27, 0)] (r, 20, 0) μZ := by
  refine k_begin (by decide) rfl (by decide) rfl ?_
  intro p e s m below meth c q ls A X hml hr hlk hl ht h
  have hl := lh1 hl ht
  have hx := X.1
  have hb := X.2.1
  have X : CI dC dI cI cS fz A p s m _ meth c _ (ow 0) := X
  have h : Wd dC dI A s ((q, .inr (0, [.null, .null, .null, .null, .null, .int 0, .int 0, .int 0, .int 0, .int 0, .int 0])) :: []) s.heap [] := h
  refine lv_aload_n hx hb dX0_init_0 rfl (lv_at hl 0 rfl) ?_
  refine k_obj X hml hl.1 (mem_G (q := 179) rfl rfl) (Nat.le_of_ble_eq_true rfl) (Nat.le_of_ble_eq_true rfl) dX0_init_1 ?_
  refine lv_aload_n hx hb dX0_init_4 rfl (lv_at hl 0 rfl) ?_
  refine k_new X h (ci := 3) (by decide) (mem_G (q := 180) rfl rfl) (mem_G (q := 93) rfl rfl) (mem_G (q := 60) rfl rfl) (Nat.le_of_ble_eq_true rfl) (Nat.le_of_ble_eq_true rfl) dX0_init_5 (fun q1 H h => ?_)
  refine lv_dup hx hb dX0_init_8 rfl ?_
  refine lv_bipush (v := 100) hx hb dX0_init_9 (by decide) ?_
  refine k_callL (rest := [.ref q1, .ref q]) (As := [.int (nI 100)]) X hml hl.1 h (c_Line21 r) (mem_G (q := 96) rfl rfl) (mem_G (q := 181) rfl rfl) (mem_G (q := 95) rfl rfl) (mem_G (q := 60) rfl rfl) ⟨rfl, by decide +kernel, by decide +kernel, by decide +kernel⟩ ⟨Nat.le_of_ble_eq_true rfl, Nat.le_of_ble_eq_true rfl⟩ (Nat.le_of_ble_eq_true rfl) ⟨Nat.le_of_ble_eq_true rfl, Nat.le_of_ble_eq_true rfl⟩ dX0_init_11 (fun ad1 H locs ead1 h => ?_)
  refine k_putR X h (ci := 0) (k := 0) (by decide) (by decide) (Nat.le_of_ble_eq_true rfl) (fl_in (w := 0) (j := 0) (q := 182) (by decide) (by decide)) rfl rfl rfl rfl dX0_init_14 (fun H locs h => ?_)
  have h : Wd dC dI A s ((q, .inr (0, [.ref q1, .null, .null, .null, .null, .int 0, .int 0, .int 0, .int 0, .int 0, .int 0])) :: _) H locs := h
  refine lv_aload_n hx hb dX0_init_17 rfl (lv_at hl 0 rfl) ?_
  refine lv_bipush (v := 100) hx hb dX0_init_18 (by decide) ?_
  refine k_newa X h (N := 100) (by decide) (by decide) (by decide) (Nat.le_of_ble_eq_true rfl) (Nat.le_of_ble_eq_true rfl) dX0_init_20 (fun q2 H h => ?_)
  refine k_putR X h (ci := 0) (k := 1) (by decide) (by decide) (Nat.le_of_ble_eq_true rfl) (fl_in (w := 0) (j := 1) (q := 185) (by decide) (by decide)) rfl rfl rfl rfl dX0_init_22 (fun H locs h => ?_)
  have h : Wd dC dI A s ((q, .inr (0, [.ref q1, .ref q2, .null, .null, .null, .int 0, .int 0, .int 0, .int 0, .int 0, .int 0])) :: _) H locs := h
  refine lv_aload_n hx hb dX0_init_25 rfl (lv_at hl 0 rfl) ?_
  refine lv_bipush (v := 100) hx hb dX0_init_26 (by decide) ?_
  refine k_newa X h (N := 100) (by decide) (by decide) (by decide) (Nat.le_of_ble_eq_true rfl) (Nat.le_of_ble_eq_true rfl) dX0_init_28 (fun q3 H h => ?_)
  refine k_putR X h (ci := 0) (k := 2) (by decide) (by decide) (Nat.le_of_ble_eq_true rfl) (fl_in (w := 0) (j := 2) (q := 188) (by decide) (by decide)) rfl rfl rfl rfl dX0_init_30 (fun H locs h => ?_)
  have h : Wd dC dI A s ((q, .inr (0, [.ref q1, .ref q2, .ref q3, .null, .null, .int 0, .int 0, .int 0, .int 0, .int 0, .int 0])) :: _) H locs := h
  refine lv_aload_n hx hb dX0_init_33 rfl (lv_at hl 0 rfl) ?_
  refine lv_bipush (v := 100) hx hb dX0_init_34 (by decide) ?_
  refine k_newa X h (N := 100) (by decide) (by decide) (by decide) (Nat.le_of_ble_eq_true rfl) (Nat.le_of_ble_eq_true rfl) dX0_init_36 (fun q4 H h => ?_)
  refine k_putR X h (ci := 0) (k := 3) (by decide) (by decide) (Nat.le_of_ble_eq_true rfl) (fl_in (w := 0) (j := 3) (q := 191) (by decide) (by decide)) rfl rfl rfl rfl dX0_init_38 (fun H locs h => ?_)
  have h : Wd dC dI A s ((q, .inr (0, [.ref q1, .ref q2, .ref q3, .ref q4, .null, .int 0, .int 0, .int 0, .int 0, .int 0, .int 0])) :: _) H locs := h
  refine lv_aload_n hx hb dX0_init_41 rfl (lv_at hl 0 rfl) ?_
  refine lv_bipush (v := 100) hx hb dX0_init_42 (by decide) ?_
  refine k_newa X h (N := 100) (by decide) (by decide) (by decide) (Nat.le_of_ble_eq_true rfl) (Nat.le_of_ble_eq_true rfl) dX0_init_44 (fun q5 H h => ?_)
  refine k_putR X h (ci := 0) (k := 4) (by decide) (by decide) (Nat.le_of_ble_eq_true rfl) (fl_in (w := 0) (j := 4) (q := 194) (by decide) (by decide)) rfl rfl rfl rfl dX0_init_46 (fun H locs h => ?_)
  have h : Wd dC dI A s ((q, .inr (0, [.ref q1, .ref q2, .ref q3, .ref q4, .ref q5, .int 0, .int 0, .int 0, .int 0, .int 0, .int 0])) :: _) H locs := h
  refine lv_aload_n hx hb dX0_init_49 rfl (lv_at hl 0 rfl) ?_
  refine lv_bipush (v := 20) hx hb dX0_init_50 (by decide) ?_
  refine k_putI X h (ci := 0) (k := 5) (by decide) (by decide) (Nat.le_of_ble_eq_true rfl) (fl_in (w := 0) (j := 5) (q := 197) (by decide) (by decide)) rfl rfl rfl dX0_init_52 (fun H locs h => ?_)
  have h : Wd dC dI A s ((q, .inr (0, [.ref q1, .ref q2, .ref q3, .ref q4, .ref q5, .int 20, .int 0, .int 0, .int 0, .int 0, .int 0])) :: _) H locs := h
  refine lv_aload_n hx hb dX0_init_55 rfl (lv_at hl 0 rfl) ?_
  refine lv_iconst (v := 0) hx hb dX0_init_56 (by decide) ?_
  refine k_putI X h (ci := 0) (k := 6) (by decide) (by decide) (Nat.le_of_ble_eq_true rfl) (fl_in (w := 0) (j := 6) (q := 200) (by decide) (by decide)) rfl rfl rfl dX0_init_57 (fun H locs h => ?_)
  have h : Wd dC dI A s ((q, .inr (0, [.ref q1, .ref q2, .ref q3, .ref q4, .ref q5, .int 20, .int 0, .int 0, .int 0, .int 0, .int 0])) :: _) H locs := h
  refine lv_aload_n hx hb dX0_init_60 rfl (lv_at hl 0 rfl) ?_
  refine lv_iconst (v := 0) hx hb dX0_init_61 (by decide) ?_
  refine k_putI X h (ci := 0) (k := 7) (by decide) (by decide) (Nat.le_of_ble_eq_true rfl) (fl_in (w := 0) (j := 7) (q := 203) (by decide) (by decide)) rfl rfl rfl dX0_init_62 (fun H locs h => ?_)
  have h : Wd dC dI A s ((q, .inr (0, [.ref q1, .ref q2, .ref q3, .ref q4, .ref q5, .int 20, .int 0, .int 0, .int 0, .int 0, .int 0])) :: _) H locs := h
  refine lv_aload_n hx hb dX0_init_65 rfl (lv_at hl 0 rfl) ?_
  refine lv_iconst (v := 0) hx hb dX0_init_66 (by decide) ?_
  refine k_putI X h (ci := 0) (k := 8) (by decide) (by decide) (Nat.le_of_ble_eq_true rfl) (fl_in (w := 0) (j := 8) (q := 206) (by decide) (by decide)) rfl rfl rfl dX0_init_67 (fun H locs h => ?_)
  have h : Wd dC dI A s ((q, .inr (0, [.ref q1, .ref q2, .ref q3, .ref q4, .ref q5, .int 20, .int 0, .int 0, .int 0, .int 0, .int 0])) :: _) H locs := h
  refine lv_aload_n hx hb dX0_init_70 rfl (lv_at hl 0 rfl) ?_
  refine lv_iconst (v := 0) hx hb dX0_init_71 (by decide) ?_
  refine k_putI X h (ci := 0) (k := 9) (by decide) (by decide) (Nat.le_of_ble_eq_true rfl) (fl_in (w := 0) (j := 9) (q := 209) (by decide) (by decide)) rfl rfl rfl dX0_init_72 (fun H locs h => ?_)
  have h : Wd dC dI A s ((q, .inr (0, [.ref q1, .ref q2, .ref q3, .ref q4, .ref q5, .int 20, .int 0, .int 0, .int 0, .int 0, .int 0])) :: _) H locs := h
  refine lv_aload_n hx hb dX0_init_75 rfl (lv_at hl 0 rfl) ?_
  refine lv_iconst (v := 0) hx hb dX0_init_76 (by decide) ?_
  refine k_putI X h (ci := 0) (k := 10) (by decide) (by decide) (Nat.le_of_ble_eq_true rfl) (fl_in (w := 0) (j := 10) (q := 212) (by decide) (by decide)) rfl rfl rfl dX0_init_77 (fun H locs h => ?_)
  have h : Wd dC dI A s ((q, .inr (0, [.ref q1, .ref q2, .ref q3, .ref q4, .ref q5, .int 20, .int 0, .int 0, .int 0, .int 0, .int 0])) :: _) H locs := h
  subst ead1
  refine W.widen (k := 7) (n := 606) (Nat.le_of_ble_eq_true rfl) (Nat.le_of_ble_eq_true rfl) ?_
  exact k_end X hr hlk dX0_init_80 (fun x a y => if a = 20 then q else if a < 24 then ad1 x a y else [q2, q3, q4, q5].getD (a - 24) 0) rfl h
end KC5
