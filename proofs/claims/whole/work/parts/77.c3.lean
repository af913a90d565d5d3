/-! CONSTRUCTORS, 3: the simple ones -/
theorem lh1 {ls : Array Slot} {nL : Nat} {v : Value} (hl : lv_has ls nL []) (ht : ls.toList.take 1 = [Slot.val v]) : lv_has ls nL [(0, v)] := by
  refine ⟨hl.1, hl.2.1, fun x hx => ?_⟩
  rw [List.mem_singleton] at hx
  subst hx
  have : (ls.toList.take 1)[0]? = some (Slot.val v) := by rw [ht]; rfl
  rw [List.getElem?_take_of_lt (by decide), Array.getElem?_toList] at this
  exact this
theorem lh2 {ls : Array Slot} {nL : Nat} {v w : Value} (hl : lv_has ls nL []) (ht : ls.toList.take 2 = [Slot.val v, Slot.val w]) : lv_has ls nL [(0, v), (1, w)] := by
  refine ⟨hl.1, hl.2.1, fun x hx => ?_⟩
  rcases List.mem_cons.mp hx with rfl | hx
  · have : (ls.toList.take 2)[0]? = some (Slot.val v) := by rw [ht]; rfl
    rw [List.getElem?_take_of_lt (by decide), Array.getElem?_toList] at this
    exact this
  · rw [List.mem_singleton] at hx
    subst hx
    have : (ls.toList.take 2)[1]? = some (Slot.val w) := by rw [ht]; rfl
    rw [List.getElem?_take_of_lt (by decide), Array.getElem?_toList] at this
    exact this
theorem fl_in {w i ci j q : Nat} (hw : w < 13) (h : fT w i = some (ci, j, false, q)) : Cond.fieldLink (ow w) i ((clT ci).2.1 j).1 ((clT ci).2.1 j).2.1 ((clT ci).2.1 j).2.2.1 ∈ tblG := mem_G (fT_spec hw h).1 rfl
/-- what the constructors leave, by kinds -/
def mzL : List (Nat → Int32) := [fun _ => 0, fun i => if i = 3 then 1 else if i = 11 then -1 else 0, fun _ => 0, fun i => if i = 6 then -4 else 0, imF, fun _ => 0, fun _ => -4, fun _ => 0, fun _ => 0, fun i => if i = 2 then -1 else if i = 3 then -1 else 0, fun _ => 0, fun i => if i + 1 < 120 then nI (i + 1) else -1, fun _ => 0, fun _ => 0, fun _ => 0, fun _ => 0, fun _ => 0, fun _ => 0, fun _ => 0, fun _ => 0, fun i => if i = 5 then 20 else 0, fun i => if i = 2 then -1 else if i = 3 then -1 else 0, fun _ => 0, fun i => if i + 1 < 100 then nI (i + 1) else -1, fun _ => 0, fun _ => 0, fun _ => 0, fun _ => 0, fun _ => 0, fun _ => 0, fun _ => 0, fun _ => 0, fun _ => 0, fun _ => 0, fun _ => 0, fun _ => 0, fun _ => 0, fun _ => 0, fun _ => 0, fun _ => 0, fun i => if i = 3 then 20 else 0]
def mz (a : Nat) : Nat → Int32 := mzL.getD a (fun _ => 0)
def μZ : Mem := fun _ a _ => mz a
section KC3
variable {l : Launch} {dC : Nat → ClassId} {dI : Nat → Nat → Nat} {cI cS : ClassId} {fz : Nat}
theorem k_end {p : Program} {e : Env} {R : Room} {s : State} {m : MethodId} {args : Array Value} {below : List Frame} {meth : Method} {c : Code} {H : Heap} {locs : List Loc} {mc ms : Nat} {A : Nat → Prop} {pc : Nat} {ls : Array Slot} {cc : ByteArray} {own : String} {K : List (Nat × Nat × Nat)} {k0 : Nat × Nat × Nat} {μ : Mem} {q : Nat} (X : CI dC dI cI cS fz A p s m args meth c cc own) (hr : meth.sig.returnType = none) (hlk : meth.locks = false) (hd : decode cc pc = .ok (.return_, 1)) (ad : Nat → Nat → Nat → Nat) (had : ad k0.1 k0.2.1 k0.2.2 = q) (h : Wd dC dI A s (sw cI cS K ad μ) H locs) :
    W p l e R s m args below meth c H locs mc ms (MQ below (va_Qv (fun _ : Nat → Nat → Nat → Nat => True) (fun ad t => ad k0.1 k0.2.1 k0.2.2 = q ∧ va_P (dC, dI) cls10 (sw cI cS K ad μ) t.heap ∧ va_D A (sw cI cS K ad μ)) A) args s mc ms A) (F0 m pc ls []) :=
  W.vret X.1 X.2.1 hr (fun t ht hW => ⟨⟨ad, rfl, trivial, had, by rw [ht]; exact h.1, h.2.1⟩, h.2.2.F ht⟩) h.2.2.2.2 hd hlk
set_option maxRecDepth 20000 in
theorem c_X6_init (r : Nat) : CtM l dC dI cI cS fz yX6_init cX6_init 1 { frames := 1, cells := 3, slots := 120, locals := 12 } 6 [] [(r, 28, 0), (r, 29, 0), (r, 30, 0), (r, 31, 0)] (r, 28, 0) μZ := by
  refine k_begin (by decide) rfl (by decide) rfl ?_
  intro p e s m below meth c q ls A X hml hr hlk hl ht h
  have hl := lh1 hl ht
  have hx := X.1
  have hb := X.2.1
  have X : CI dC dI cI cS fz A p s m _ meth c _ (ow 6) := X
  have h : Wd dC dI A s ((q, .inr (6, [.null, .null, .null, .int 0])) :: []) s.heap [] := h
  refine lv_aload_n hx hb dX6_init_0 rfl (lv_at hl 0 rfl) ?_
  refine k_obj X hml hl.1 (mem_G (q := 243) rfl rfl) (Nat.le_of_ble_eq_true rfl) (Nat.le_of_ble_eq_true rfl) dX6_init_1 ?_
  refine lv_aload_n hx hb dX6_init_4 rfl (lv_at hl 0 rfl) ?_
  refine lv_bipush (v := 40) hx hb dX6_init_5 (by decide) ?_
  refine k_newa X h (N := 40) (by decide) (by decide) (by decide) (Nat.le_of_ble_eq_true rfl) (Nat.le_of_ble_eq_true rfl) dX6_init_7 (fun q1 H h => ?_)
  refine k_putR X h (ci := 6) (k := 0) (by decide) (by decide) (Nat.le_of_ble_eq_true rfl) (fl_in (w := 6) (j := 0) (q := 244) (by decide) (by decide)) rfl rfl rfl rfl dX6_init_9 (fun H locs h => ?_)
  have h : Wd dC dI A s ((q, .inr (6, [.ref q1, .null, .null, .int 0])) :: _) H locs := h
  refine lv_aload_n hx hb dX6_init_12 rfl (lv_at hl 0 rfl) ?_
  refine lv_bipush (v := 40) hx hb dX6_init_13 (by decide) ?_
  refine k_newa X h (N := 40) (by decide) (by decide) (by decide) (Nat.le_of_ble_eq_true rfl) (Nat.le_of_ble_eq_true rfl) dX6_init_15 (fun q2 H h => ?_)
  refine k_putR X h (ci := 6) (k := 1) (by decide) (by decide) (Nat.le_of_ble_eq_true rfl) (fl_in (w := 6) (j := 1) (q := 245) (by decide) (by decide)) rfl rfl rfl rfl dX6_init_17 (fun H locs h => ?_)
  have h : Wd dC dI A s ((q, .inr (6, [.ref q1, .ref q2, .null, .int 0])) :: _) H locs := h
  refine lv_aload_n hx hb dX6_init_20 rfl (lv_at hl 0 rfl) ?_
  refine lv_bipush (v := 40) hx hb dX6_init_21 (by decide) ?_
  refine k_newa X h (N := 40) (by decide) (by decide) (by decide) (Nat.le_of_ble_eq_true rfl) (Nat.le_of_ble_eq_true rfl) dX6_init_23 (fun q3 H h => ?_)
  refine k_putR X h (ci := 6) (k := 2) (by decide) (by decide) (Nat.le_of_ble_eq_true rfl) (fl_in (w := 6) (j := 2) (q := 247) (by decide) (by decide)) rfl rfl rfl rfl dX6_init_25 (fun H locs h => ?_)
  have h : Wd dC dI A s ((q, .inr (6, [.ref q1, .ref q2, .ref q3, .int 0])) :: _) H locs := h
  refine lv_aload_n hx hb dX6_init_28 rfl (lv_at hl 0 rfl) ?_
  refine lv_iconst (v := 0) hx hb dX6_init_29 (by decide) ?_
  refine k_putI X h (ci := 6) (k := 3) (by decide) (by decide) (Nat.le_of_ble_eq_true rfl) (fl_in (w := 6) (j := 3) (q := 248) (by decide) (by decide)) rfl rfl rfl dX6_init_30 (fun H locs h => ?_)
  have h : Wd dC dI A s ((q, .inr (6, [.ref q1, .ref q2, .ref q3, .int 0])) :: _) H locs := h
  refine W.widen (k := 3) (n := 120) (Nat.le_of_ble_eq_true rfl) (Nat.le_of_ble_eq_true rfl) ?_
  exact k_end X hr hlk dX6_init_33 (fun _ a _ => [q, q1, q2, q3].getD (a - 28) 0) rfl h
set_option maxRecDepth 20000 in
theorem c_X4_init (r : Nat) : CtM l dC dI cI cS fz yX4_init cX4_init 1 { frames := 1, cells := 2, slots := 24, locals := 12 } 4 [] [(r, 32, 0), (r, 33, 0), (r, 34, 0)] (r, 32, 0) μZ := by
  refine k_begin (by decide) rfl (by decide) rfl ?_
  intro p e s m below meth c q ls A X hml hr hlk hl ht h
  have hl := lh1 hl ht
  have hx := X.1
  have hb := X.2.1
  have X : CI dC dI cI cS fz A p s m _ meth c _ (ow 4) := X
  have h : Wd dC dI A s ((q, .inr (4, [.null, .null, .int 0])) :: []) s.heap [] := h
  refine lv_aload_n hx hb dX4_init_0 rfl (lv_at hl 0 rfl) ?_
  refine k_obj X hml hl.1 (mem_G (q := 265) rfl rfl) (Nat.le_of_ble_eq_true rfl) (Nat.le_of_ble_eq_true rfl) dX4_init_1 ?_
  refine lv_aload_n hx hb dX4_init_4 rfl (lv_at hl 0 rfl) ?_
  refine lv_bipush (v := 12) hx hb dX4_init_5 (by decide) ?_
  refine k_newa X h (N := 12) (by decide) (by decide) (by decide) (Nat.le_of_ble_eq_true rfl) (Nat.le_of_ble_eq_true rfl) dX4_init_7 (fun q1 H h => ?_)
  refine k_putR X h (ci := 4) (k := 0) (by decide) (by decide) (Nat.le_of_ble_eq_true rfl) (fl_in (w := 4) (j := 0) (q := 266) (by decide) (by decide)) rfl rfl rfl rfl dX4_init_9 (fun H locs h => ?_)
  have h : Wd dC dI A s ((q, .inr (4, [.ref q1, .null, .int 0])) :: _) H locs := h
  refine lv_aload_n hx hb dX4_init_12 rfl (lv_at hl 0 rfl) ?_
  refine lv_bipush (v := 12) hx hb dX4_init_13 (by decide) ?_
  refine k_newa X h (N := 12) (by decide) (by decide) (by decide) (Nat.le_of_ble_eq_true rfl) (Nat.le_of_ble_eq_true rfl) dX4_init_15 (fun q2 H h => ?_)
  refine k_putR X h (ci := 4) (k := 1) (by decide) (by decide) (Nat.le_of_ble_eq_true rfl) (fl_in (w := 4) (j := 1) (q := 269) (by decide) (by decide)) rfl rfl rfl rfl dX4_init_17 (fun H locs h => ?_)
  have h : Wd dC dI A s ((q, .inr (4, [.ref q1, .ref q2, .int 0])) :: _) H locs := h
  refine lv_aload_n hx hb dX4_init_20 rfl (lv_at hl 0 rfl) ?_
  refine lv_iconst (v := 0) hx hb dX4_init_21 (by decide) ?_
  refine k_putI X h (ci := 4) (k := 2) (by decide) (by decide) (Nat.le_of_ble_eq_true rfl) (fl_in (w := 4) (j := 2) (q := 272) (by decide) (by decide)) rfl rfl rfl dX4_init_22 (fun H locs h => ?_)
  have h : Wd dC dI A s ((q, .inr (4, [.ref q1, .ref q2, .int 0])) :: _) H locs := h
  refine W.widen (k := 2) (n := 24) (Nat.le_of_ble_eq_true rfl) (Nat.le_of_ble_eq_true rfl) ?_
  exact k_end X hr hlk dX4_init_25 (fun _ a _ => [q, q1, q2].getD (a - 32) 0) rfl h
set_option maxRecDepth 20000 in
theorem c_X8_init (r : Nat) : CtM l dC dI cI cS fz yX8_init cX8_init 1 { frames := 1, cells := 19, slots := 1724, locals := 12 } 8 [] [(r, 60, 0), (r, 61, 0), (r, 62, 0), (r, 63, 0), (r, 64, 0), (r, 65, 0), (r, 66, 0), (r, 67, 0), (r, 68, 0), (r, 69, 0), (r, 70, 0), (r, 71, 0), (r, 72, 0), (r, 73, 0), (r, 74, 0), (r, 75, 0), (r, 76, 0), (r, 77, 0), (r, 78, 0), (r, 79, 0)] (r, 60, 0) μZ := by
  refine k_begin (by decide) rfl (by decide) rfl ?_
  intro p e s m below meth c q ls A X hml hr hlk hl ht h
  have hl := lh1 hl ht
  have hx := X.1
  have hb := X.2.1
  have X : CI dC dI cI cS fz A p s m _ meth c _ (ow 8) := X
  have h : Wd dC dI A s ((q, .inr (8, [.int 0, .null, .null, .null, .null, .null, .null, .null, .null, .null, .null, .null, .null, .null, .null, .int 0, .int 0, .null, .null, .null, .null, .null, .int 0, .int 0, .int 0, .int 0, .int 0, .int 0, .int 0])) :: []) s.heap [] := h
  refine lv_aload_n hx hb dX8_init_0 rfl (lv_at hl 0 rfl) ?_
  refine k_obj X hml hl.1 (mem_G (q := 712) rfl rfl) (Nat.le_of_ble_eq_true rfl) (Nat.le_of_ble_eq_true rfl) dX8_init_1 ?_
  refine lv_aload_n hx hb dX8_init_4 rfl (lv_at hl 0 rfl) ?_
  refine lv_bipush (v := 6) hx hb dX8_init_5 (by decide) ?_
  refine k_newa X h (N := 6) (by decide) (by decide) (by decide) (Nat.le_of_ble_eq_true rfl) (Nat.le_of_ble_eq_true rfl) dX8_init_7 (fun q1 H h => ?_)
  refine k_putR X h (ci := 8) (k := 1) (by decide) (by decide) (Nat.le_of_ble_eq_true rfl) (fl_in (w := 8) (j := 1) (q := 715) (by decide) (by decide)) rfl rfl rfl rfl dX8_init_9 (fun H locs h => ?_)
  have h : Wd dC dI A s ((q, .inr (8, [.int 0, .ref q1, .null, .null, .null, .null, .null, .null, .null, .null, .null, .null, .null, .null, .null, .int 0, .int 0, .null, .null, .null, .null, .null, .int 0, .int 0, .int 0, .int 0, .int 0, .int 0, .int 0])) :: _) H locs := h
  refine lv_aload_n hx hb dX8_init_12 rfl (lv_at hl 0 rfl) ?_
  refine lv_bipush (v := 6) hx hb dX8_init_13 (by decide) ?_
  refine k_newa X h (N := 6) (by decide) (by decide) (by decide) (Nat.le_of_ble_eq_true rfl) (Nat.le_of_ble_eq_true rfl) dX8_init_15 (fun q2 H h => ?_)
  refine k_putR X h (ci := 8) (k := 2) (by decide) (by decide) (Nat.le_of_ble_eq_true rfl) (fl_in (w := 8) (j := 2) (q := 717) (by decide) (by decide)) rfl rfl rfl rfl dX8_init_17 (fun H locs h => ?_)
  have h : Wd dC dI A s ((q, .inr (8, [.int 0, .ref q1, .ref q2, .null, .null, .null, .null, .null, .null, .null, .null, .null, .null, .null, .null, .int 0, .int 0, .null, .null, .null, .null, .null, .int 0, .int 0, .int 0, .int 0, .int 0, .int 0, .int 0])) :: _) H locs := h
  refine lv_aload_n hx hb dX8_init_20 rfl (lv_at hl 0 rfl) ?_
  refine lv_bipush (v := 78) hx hb dX8_init_21 (by decide) ?_
  refine k_newa X h (N := 78) (by decide) (by decide) (by decide) (Nat.le_of_ble_eq_true rfl) (Nat.le_of_ble_eq_true rfl) dX8_init_23 (fun q3 H h => ?_)
  refine k_putR X h (ci := 8) (k := 3) (by decide) (by decide) (Nat.le_of_ble_eq_true rfl) (fl_in (w := 8) (j := 3) (q := 719) (by decide) (by decide)) rfl rfl rfl rfl dX8_init_25 (fun H locs h => ?_)
  have h : Wd dC dI A s ((q, .inr (8, [.int 0, .ref q1, .ref q2, .ref q3, .null, .null, .null, .null, .null, .null, .null, .null, .null, .null, .null, .int 0, .int 0, .null, .null, .null, .null, .null, .int 0, .int 0, .int 0, .int 0, .int 0, .int 0, .int 0])) :: _) H locs := h
  refine lv_aload_n hx hb dX8_init_28 rfl (lv_at hl 0 rfl) ?_
  refine lv_bipush (v := 48) hx hb dX8_init_29 (by decide) ?_
  refine k_newa X h (N := 48) (by decide) (by decide) (by decide) (Nat.le_of_ble_eq_true rfl) (Nat.le_of_ble_eq_true rfl) dX8_init_31 (fun q4 H h => ?_)
  refine k_putR X h (ci := 8) (k := 4) (by decide) (by decide) (Nat.le_of_ble_eq_true rfl) (fl_in (w := 8) (j := 4) (q := 721) (by decide) (by decide)) rfl rfl rfl rfl dX8_init_33 (fun H locs h => ?_)
  have h : Wd dC dI A s ((q, .inr (8, [.int 0, .ref q1, .ref q2, .ref q3, .ref q4, .null, .null, .null, .null, .null, .null, .null, .null, .null, .null, .int 0, .int 0, .null, .null, .null, .null, .null, .int 0, .int 0, .int 0, .int 0, .int 0, .int 0, .int 0])) :: _) H locs := h
  refine lv_aload_n hx hb dX8_init_36 rfl (lv_at hl 0 rfl) ?_
  refine lv_bipush (v := 120) hx hb dX8_init_37 (by decide) ?_
  refine k_newa X h (N := 120) (by decide) (by decide) (by decide) (Nat.le_of_ble_eq_true rfl) (Nat.le_of_ble_eq_true rfl) dX8_init_39 (fun q5 H h => ?_)
  refine k_putR X h (ci := 8) (k := 5) (by decide) (by decide) (Nat.le_of_ble_eq_true rfl) (fl_in (w := 8) (j := 5) (q := 723) (by decide) (by decide)) rfl rfl rfl rfl dX8_init_41 (fun H locs h => ?_)
  have h : Wd dC dI A s ((q, .inr (8, [.int 0, .ref q1, .ref q2, .ref q3, .ref q4, .ref q5, .null, .null, .null, .null, .null, .null, .null, .null, .null, .int 0, .int 0, .null, .null, .null, .null, .null, .int 0, .int 0, .int 0, .int 0, .int 0, .int 0, .int 0])) :: _) H locs := h
  refine lv_aload_n hx hb dX8_init_44 rfl (lv_at hl 0 rfl) ?_
  refine lv_bipush (v := 6) hx hb dX8_init_45 (by decide) ?_
  refine k_newa X h (N := 6) (by decide) (by decide) (by decide) (Nat.le_of_ble_eq_true rfl) (Nat.le_of_ble_eq_true rfl) dX8_init_47 (fun q6 H h => ?_)
  refine k_putR X h (ci := 8) (k := 6) (by decide) (by decide) (Nat.le_of_ble_eq_true rfl) (fl_in (w := 8) (j := 6) (q := 725) (by decide) (by decide)) rfl rfl rfl rfl dX8_init_49 (fun H locs h => ?_)
  have h : Wd dC dI A s ((q, .inr (8, [.int 0, .ref q1, .ref q2, .ref q3, .ref q4, .ref q5, .ref q6, .null, .null, .null, .null, .null, .null, .null, .null, .int 0, .int 0, .null, .null, .null, .null, .null, .int 0, .int 0, .int 0, .int 0, .int 0, .int 0, .int 0])) :: _) H locs := h
  refine lv_aload_n hx hb dX8_init_52 rfl (lv_at hl 0 rfl) ?_
  refine lv_bipush (v := 120) hx hb dX8_init_53 (by decide) ?_
  refine k_newa X h (N := 120) (by decide) (by decide) (by decide) (Nat.le_of_ble_eq_true rfl) (Nat.le_of_ble_eq_true rfl) dX8_init_55 (fun q7 H h => ?_)
  refine k_putR X h (ci := 8) (k := 7) (by decide) (by decide) (Nat.le_of_ble_eq_true rfl) (fl_in (w := 8) (j := 7) (q := 727) (by decide) (by decide)) rfl rfl rfl rfl dX8_init_57 (fun H locs h => ?_)
  have h : Wd dC dI A s ((q, .inr (8, [.int 0, .ref q1, .ref q2, .ref q3, .ref q4, .ref q5, .ref q6, .ref q7, .null, .null, .null, .null, .null, .null, .null, .int 0, .int 0, .null, .null, .null, .null, .null, .int 0, .int 0, .int 0, .int 0, .int 0, .int 0, .int 0])) :: _) H locs := h
  refine lv_aload_n hx hb dX8_init_60 rfl (lv_at hl 0 rfl) ?_
  refine lv_bipush (v := 120) hx hb dX8_init_61 (by decide) ?_
  refine k_newa X h (N := 120) (by decide) (by decide) (by decide) (Nat.le_of_ble_eq_true rfl) (Nat.le_of_ble_eq_true rfl) dX8_init_63 (fun q8 H h => ?_)
  refine k_putR X h (ci := 8) (k := 8) (by decide) (by decide) (Nat.le_of_ble_eq_true rfl) (fl_in (w := 8) (j := 8) (q := 729) (by decide) (by decide)) rfl rfl rfl rfl dX8_init_65 (fun H locs h => ?_)
  have h : Wd dC dI A s ((q, .inr (8, [.int 0, .ref q1, .ref q2, .ref q3, .ref q4, .ref q5, .ref q6, .ref q7, .ref q8, .null, .null, .null, .null, .null, .null, .int 0, .int 0, .null, .null, .null, .null, .null, .int 0, .int 0, .int 0, .int 0, .int 0, .int 0, .int 0])) :: _) H locs := h
  refine lv_aload_n hx hb dX8_init_68 rfl (lv_at hl 0 rfl) ?_
  refine lv_bipush (v := 120) hx hb dX8_init_69 (by decide) ?_
  refine k_newa X h (N := 120) (by decide) (by decide) (by decide) (Nat.le_of_ble_eq_true rfl) (Nat.le_of_ble_eq_true rfl) dX8_init_71 (fun q9 H h => ?_)
  refine k_putR X h (ci := 8) (k := 9) (by decide) (by decide) (Nat.le_of_ble_eq_true rfl) (fl_in (w := 8) (j := 9) (q := 731) (by decide) (by decide)) rfl rfl rfl rfl dX8_init_73 (fun H locs h => ?_)
  have h : Wd dC dI A s ((q, .inr (8, [.int 0, .ref q1, .ref q2, .ref q3, .ref q4, .ref q5, .ref q6, .ref q7, .ref q8, .ref q9, .null, .null, .null, .null, .null, .int 0, .int 0, .null, .null, .null, .null, .null, .int 0, .int 0, .int 0, .int 0, .int 0, .int 0, .int 0])) :: _) H locs := h
  refine lv_aload_n hx hb dX8_init_76 rfl (lv_at hl 0 rfl) ?_
  refine lv_bipush (v := 120) hx hb dX8_init_77 (by decide) ?_
  refine k_newa X h (N := 120) (by decide) (by decide) (by decide) (Nat.le_of_ble_eq_true rfl) (Nat.le_of_ble_eq_true rfl) dX8_init_79 (fun q10 H h => ?_)
  refine k_putR X h (ci := 8) (k := 10) (by decide) (by decide) (Nat.le_of_ble_eq_true rfl) (fl_in (w := 8) (j := 10) (q := 733) (by decide) (by decide)) rfl rfl rfl rfl dX8_init_81 (fun H locs h => ?_)
  have h : Wd dC dI A s ((q, .inr (8, [.int 0, .ref q1, .ref q2, .ref q3, .ref q4, .ref q5, .ref q6, .ref q7, .ref q8, .ref q9, .ref q10, .null, .null, .null, .null, .int 0, .int 0, .null, .null, .null, .null, .null, .int 0, .int 0, .int 0, .int 0, .int 0, .int 0, .int 0])) :: _) H locs := h
  refine lv_aload_n hx hb dX8_init_84 rfl (lv_at hl 0 rfl) ?_
  refine lv_bipush (v := 120) hx hb dX8_init_85 (by decide) ?_
  refine k_newa X h (N := 120) (by decide) (by decide) (by decide) (Nat.le_of_ble_eq_true rfl) (Nat.le_of_ble_eq_true rfl) dX8_init_87 (fun q11 H h => ?_)
  refine k_putR X h (ci := 8) (k := 11) (by decide) (by decide) (Nat.le_of_ble_eq_true rfl) (fl_in (w := 8) (j := 11) (q := 735) (by decide) (by decide)) rfl rfl rfl rfl dX8_init_89 (fun H locs h => ?_)
  have h : Wd dC dI A s ((q, .inr (8, [.int 0, .ref q1, .ref q2, .ref q3, .ref q4, .ref q5, .ref q6, .ref q7, .ref q8, .ref q9, .ref q10, .ref q11, .null, .null, .null, .int 0, .int 0, .null, .null, .null, .null, .null, .int 0, .int 0, .int 0, .int 0, .int 0, .int 0, .int 0])) :: _) H locs := h
  refine lv_aload_n hx hb dX8_init_92 rfl (lv_at hl 0 rfl) ?_
  refine lv_bipush (v := 120) hx hb dX8_init_93 (by decide) ?_
  refine k_newa X h (N := 120) (by decide) (by decide) (by decide) (Nat.le_of_ble_eq_true rfl) (Nat.le_of_ble_eq_true rfl) dX8_init_95 (fun q12 H h => ?_)
  refine k_putR X h (ci := 8) (k := 12) (by decide) (by decide) (Nat.le_of_ble_eq_true rfl) (fl_in (w := 8) (j := 12) (q := 737) (by decide) (by decide)) rfl rfl rfl rfl dX8_init_97 (fun H locs h => ?_)
  have h : Wd dC dI A s ((q, .inr (8, [.int 0, .ref q1, .ref q2, .ref q3, .ref q4, .ref q5, .ref q6, .ref q7, .ref q8, .ref q9, .ref q10, .ref q11, .ref q12, .null, .null, .int 0, .int 0, .null, .null, .null, .null, .null, .int 0, .int 0, .int 0, .int 0, .int 0, .int 0, .int 0])) :: _) H locs := h
  refine lv_aload_n hx hb dX8_init_100 rfl (lv_at hl 0 rfl) ?_
  refine lv_bipush (v := 120) hx hb dX8_init_101 (by decide) ?_
  refine k_newa X h (N := 120) (by decide) (by decide) (by decide) (Nat.le_of_ble_eq_true rfl) (Nat.le_of_ble_eq_true rfl) dX8_init_103 (fun q13 H h => ?_)
  refine k_putR X h (ci := 8) (k := 13) (by decide) (by decide) (Nat.le_of_ble_eq_true rfl) (fl_in (w := 8) (j := 13) (q := 739) (by decide) (by decide)) rfl rfl rfl rfl dX8_init_105 (fun H locs h => ?_)
  have h : Wd dC dI A s ((q, .inr (8, [.int 0, .ref q1, .ref q2, .ref q3, .ref q4, .ref q5, .ref q6, .ref q7, .ref q8, .ref q9, .ref q10, .ref q11, .ref q12, .ref q13, .null, .int 0, .int 0, .null, .null, .null, .null, .null, .int 0, .int 0, .int 0, .int 0, .int 0, .int 0, .int 0])) :: _) H locs := h
  refine lv_aload_n hx hb dX8_init_108 rfl (lv_at hl 0 rfl) ?_
  refine lv_bipush (v := 120) hx hb dX8_init_109 (by decide) ?_
  refine k_newa X h (N := 120) (by decide) (by decide) (by decide) (Nat.le_of_ble_eq_true rfl) (Nat.le_of_ble_eq_true rfl) dX8_init_111 (fun q14 H h => ?_)
  refine k_putR X h (ci := 8) (k := 14) (by decide) (by decide) (Nat.le_of_ble_eq_true rfl) (fl_in (w := 8) (j := 14) (q := 741) (by decide) (by decide)) rfl rfl rfl rfl dX8_init_113 (fun H locs h => ?_)
  have h : Wd dC dI A s ((q, .inr (8, [.int 0, .ref q1, .ref q2, .ref q3, .ref q4, .ref q5, .ref q6, .ref q7, .ref q8, .ref q9, .ref q10, .ref q11, .ref q12, .ref q13, .ref q14, .int 0, .int 0, .null, .null, .null, .null, .null, .int 0, .int 0, .int 0, .int 0, .int 0, .int 0, .int 0])) :: _) H locs := h
  refine lv_aload_n hx hb dX8_init_116 rfl (lv_at hl 0 rfl) ?_
  refine lv_bipush (v := 100) hx hb dX8_init_117 (by decide) ?_
  refine k_newa X h (N := 100) (by decide) (by decide) (by decide) (Nat.le_of_ble_eq_true rfl) (Nat.le_of_ble_eq_true rfl) dX8_init_119 (fun q15 H h => ?_)
  refine k_putR X h (ci := 8) (k := 17) (by decide) (by decide) (Nat.le_of_ble_eq_true rfl) (fl_in (w := 8) (j := 17) (q := 747) (by decide) (by decide)) rfl rfl rfl rfl dX8_init_121 (fun H locs h => ?_)
  have h : Wd dC dI A s ((q, .inr (8, [.int 0, .ref q1, .ref q2, .ref q3, .ref q4, .ref q5, .ref q6, .ref q7, .ref q8, .ref q9, .ref q10, .ref q11, .ref q12, .ref q13, .ref q14, .int 0, .int 0, .ref q15, .null, .null, .null, .null, .int 0, .int 0, .int 0, .int 0, .int 0, .int 0, .int 0])) :: _) H locs := h
  refine lv_aload_n hx hb dX8_init_124 rfl (lv_at hl 0 rfl) ?_
  refine lv_bipush (v := 100) hx hb dX8_init_125 (by decide) ?_
  refine k_newa X h (N := 100) (by decide) (by decide) (by decide) (Nat.le_of_ble_eq_true rfl) (Nat.le_of_ble_eq_true rfl) dX8_init_127 (fun q16 H h => ?_)
  refine k_putR X h (ci := 8) (k := 18) (by decide) (by decide) (Nat.le_of_ble_eq_true rfl) (fl_in (w := 8) (j := 18) (q := 749) (by decide) (by decide)) rfl rfl rfl rfl dX8_init_129 (fun H locs h => ?_)
  have h : Wd dC dI A s ((q, .inr (8, [.int 0, .ref q1, .ref q2, .ref q3, .ref q4, .ref q5, .ref q6, .ref q7, .ref q8, .ref q9, .ref q10, .ref q11, .ref q12, .ref q13, .ref q14, .int 0, .int 0, .ref q15, .ref q16, .null, .null, .null, .int 0, .int 0, .int 0, .int 0, .int 0, .int 0, .int 0])) :: _) H locs := h
  refine lv_aload_n hx hb dX8_init_132 rfl (lv_at hl 0 rfl) ?_
  refine lv_bipush (v := 100) hx hb dX8_init_133 (by decide) ?_
  refine k_newa X h (N := 100) (by decide) (by decide) (by decide) (Nat.le_of_ble_eq_true rfl) (Nat.le_of_ble_eq_true rfl) dX8_init_135 (fun q17 H h => ?_)
  refine k_putR X h (ci := 8) (k := 19) (by decide) (by decide) (Nat.le_of_ble_eq_true rfl) (fl_in (w := 8) (j := 19) (q := 751) (by decide) (by decide)) rfl rfl rfl rfl dX8_init_137 (fun H locs h => ?_)
  have h : Wd dC dI A s ((q, .inr (8, [.int 0, .ref q1, .ref q2, .ref q3, .ref q4, .ref q5, .ref q6, .ref q7, .ref q8, .ref q9, .ref q10, .ref q11, .ref q12, .ref q13, .ref q14, .int 0, .int 0, .ref q15, .ref q16, .ref q17, .null, .null, .int 0, .int 0, .int 0, .int 0, .int 0, .int 0, .int 0])) :: _) H locs := h
  refine lv_aload_n hx hb dX8_init_140 rfl (lv_at hl 0 rfl) ?_
  refine lv_bipush (v := 100) hx hb dX8_init_141 (by decide) ?_
  refine k_newa X h (N := 100) (by decide) (by decide) (by decide) (Nat.le_of_ble_eq_true rfl) (Nat.le_of_ble_eq_true rfl) dX8_init_143 (fun q18 H h => ?_)
  refine k_putR X h (ci := 8) (k := 20) (by decide) (by decide) (Nat.le_of_ble_eq_true rfl) (fl_in (w := 8) (j := 20) (q := 753) (by decide) (by decide)) rfl rfl rfl rfl dX8_init_145 (fun H locs h => ?_)
  have h : Wd dC dI A s ((q, .inr (8, [.int 0, .ref q1, .ref q2, .ref q3, .ref q4, .ref q5, .ref q6, .ref q7, .ref q8, .ref q9, .ref q10, .ref q11, .ref q12, .ref q13, .ref q14, .int 0, .int 0, .ref q15, .ref q16, .ref q17, .ref q18, .null, .int 0, .int 0, .int 0, .int 0, .int 0, .int 0, .int 0])) :: _) H locs := h
  refine lv_aload_n hx hb dX8_init_148 rfl (lv_at hl 0 rfl) ?_
  refine lv_bipush (v := 100) hx hb dX8_init_149 (by decide) ?_
  refine k_newa X h (N := 100) (by decide) (by decide) (by decide) (Nat.le_of_ble_eq_true rfl) (Nat.le_of_ble_eq_true rfl) dX8_init_151 (fun q19 H h => ?_)
  refine k_putR X h (ci := 8) (k := 21) (by decide) (by decide) (Nat.le_of_ble_eq_true rfl) (fl_in (w := 8) (j := 21) (q := 755) (by decide) (by decide)) rfl rfl rfl rfl dX8_init_153 (fun H locs h => ?_)
  have h : Wd dC dI A s ((q, .inr (8, [.int 0, .ref q1, .ref q2, .ref q3, .ref q4, .ref q5, .ref q6, .ref q7, .ref q8, .ref q9, .ref q10, .ref q11, .ref q12, .ref q13, .ref q14, .int 0, .int 0, .ref q15, .ref q16, .ref q17, .ref q18, .ref q19, .int 0, .int 0, .int 0, .int 0, .int 0, .int 0, .int 0])) :: _) H locs := h
  refine W.widen (k := 19) (n := 1724) (Nat.le_of_ble_eq_true rfl) (Nat.le_of_ble_eq_true rfl) ?_
  exact k_end X hr hlk dX8_init_156 (fun _ a _ => [q, q1, q2, q3, q4, q5, q6, q7, q8, q9, q10, q11, q12, q13, q14, q15, q16, q17, q18, q19].getD (a - 60) 0) rfl h
end KC3
