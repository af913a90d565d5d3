/-! CONSTRUCTORS, 8: the bench -/
section KC8
variable {l : Launch} {dC : Nat → ClassId} {dI : Nat → Nat → Nat} {cI cS : ClassId} {fz : Nat}
def keyB : List (Nat × Nat × Nat) := (0, 0, 0) :: (keyH 1 ++ keyH 2)
set_option maxRecDepth 20000 in
set_option maxHeartbeats 8000000 in
theorem c_X7_init : CtM l dC dI cI cS fz yX7_init cX7_init 1 { frames := 4, cells := 120, slots := 4882, locals := 140 } 7 [] keyB (0, 0, 0) μZ := by
  refine k_begin (by decide) rfl (by decide) rfl ?_
  intro p e s m below meth c q ls A X hml hr hlk hl ht h
  have hl := lh1 hl ht
  have hx := X.1
  have hb := X.2.1
  have X : CI dC dI cI cS fz A p s m _ meth c _ (ow 7) := X
  have h : Wd dC dI A s ((q, .inr (7, [.null, .null, .int 0])) :: []) s.heap [] := h
  refine lv_aload_n hx hb dX7_init_0 rfl (lv_at hl 0 rfl) ?_
  refine k_obj X hml hl.1 (mem_G (q := 75) rfl rfl) (Nat.le_of_ble_eq_true rfl) (Nat.le_of_ble_eq_true rfl) dX7_init_1 ?_
  refine lv_aload_n hx hb dX7_init_4 rfl (lv_at hl 0 rfl) ?_
  refine k_new X h (ci := 1) (by decide) (mem_G (q := 78) rfl rfl) (mem_G (q := 79) rfl rfl) (mem_G (q := 58) rfl rfl) (Nat.le_of_ble_eq_true rfl) (Nat.le_of_ble_eq_true rfl) dX7_init_5 (fun q1 H h => ?_)
  refine lv_dup hx hb dX7_init_8 rfl ?_
  refine k_callL (rest := [.ref q1, .ref q]) (As := []) X hml hl.1 h (c_X1_init 1) (mem_G (q := 82) rfl rfl) (mem_G (q := 80) rfl rfl) (mem_G (q := 81) rfl rfl) (mem_G (q := 58) rfl rfl) ⟨rfl, by decide +kernel, by decide +kernel, by decide +kernel⟩ ⟨Nat.le_of_ble_eq_true rfl, Nat.le_of_ble_eq_true rfl⟩ (Nat.le_of_ble_eq_true rfl) ⟨Nat.le_of_ble_eq_true rfl, Nat.le_of_ble_eq_true rfl⟩ dX7_init_9 (fun ad1 H locs ead1 h => ?_)
  refine k_putR X h (ci := 7) (k := 0) (by decide) (by decide) (Nat.le_of_ble_eq_true rfl) (fl_in (w := 7) (j := 0) (q := 382) (by decide) (by decide)) rfl rfl rfl rfl dX7_init_12 (fun H locs h => ?_)
  have h : Wd dC dI A s ((q, .inr (7, [.ref q1, .null, .int 0])) :: _) H locs := h
  refine lv_aload_n hx hb dX7_init_15 rfl (lv_at hl 0 rfl) ?_
  refine k_new X h (ci := 1) (by decide) (mem_G (q := 78) rfl rfl) (mem_G (q := 79) rfl rfl) (mem_G (q := 58) rfl rfl) (Nat.le_of_ble_eq_true rfl) (Nat.le_of_ble_eq_true rfl) dX7_init_16 (fun q2 H h => ?_)
  refine lv_dup hx hb dX7_init_19 rfl ?_
  refine k_callL (rest := [.ref q2, .ref q]) (As := []) X hml hl.1 h (c_X1_init 2) (mem_G (q := 82) rfl rfl) (mem_G (q := 80) rfl rfl) (mem_G (q := 81) rfl rfl) (mem_G (q := 58) rfl rfl) ⟨rfl, by decide +kernel, by decide +kernel, by decide +kernel⟩ ⟨Nat.le_of_ble_eq_true rfl, Nat.le_of_ble_eq_true rfl⟩ (Nat.le_of_ble_eq_true rfl) ⟨Nat.le_of_ble_eq_true rfl, Nat.le_of_ble_eq_true rfl⟩ dX7_init_20 (fun ad2 H locs ead2 h => ?_)
  refine k_putR X h (ci := 7) (k := 1) (by decide) (by decide) (Nat.le_of_ble_eq_true rfl) (fl_in (w := 7) (j := 1) (q := 383) (by decide) (by decide)) rfl rfl rfl rfl dX7_init_23 (fun H locs h => ?_)
  have h : Wd dC dI A s ((q, .inr (7, [.ref q1, .ref q2, .int 0])) :: _) H locs := h
  refine lv_aload_n hx hb dX7_init_26 rfl (lv_at hl 0 rfl) ?_
  refine lv_iconst (v := 0) hx hb dX7_init_27 (by decide) ?_
  refine k_putI X h (ci := 7) (k := 2) (by decide) (by decide) (Nat.le_of_ble_eq_true rfl) (fl_in (w := 7) (j := 2) (q := 384) (by decide) (by decide)) rfl rfl rfl dX7_init_28 (fun H locs h => ?_)
  have h : Wd dC dI A s ((q, .inr (7, [.ref q1, .ref q2, .int 0])) :: _) H locs := h
  rw [← (show ad1 1 1 0 = q1 from ead1)] at h
  rw [← (show ad2 2 1 0 = q2 from ead2)] at h
  refine W.widen (k := 120) (n := 4882) (Nat.le_of_ble_eq_true rfl) (Nat.le_of_ble_eq_true rfl) ?_
  exact k_end X hr hlk dX7_init_31 (fun x a o => if x = 0 then q else if x = 1 then ad1 x a o else ad2 x a o) rfl h
end KC8
