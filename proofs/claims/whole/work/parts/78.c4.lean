/-! CONSTRUCTORS, 4: a line -/
section KC4
variable {l : Launch} {dC : Nat → ClassId} {dI : Nat → Nat → Nat} {cI cS : ClassId} {fz : Nat}
theorem Wd.arr {A : Nat → Prop} {s : State} {w1 w2 : va_W} {H : Heap} {locs : List Loc} {q N : Nat} {f g : Nat → Int32} (h : Wd dC dI A s (w1 ++ (q, .inl (cI, N, .inl f)) :: w2) H locs) (hfg : ∀ i, i < N → f i = g i) : Wd dC dI A s (w1 ++ (q, .inl (cI, N, .inl g)) :: w2) H locs := by
  obtain ⟨hP, hD, hS⟩ := h
  refine ⟨vP_mem.mpr (fun x hx => ?_), vD_mem.mpr ⟨?_, fun x hx => ?_⟩, hS⟩
  · rcases List.mem_append.mp hx with hx | hx
    · exact vP_mem.mp hP x (List.mem_append_left _ hx)
    · rcases List.mem_cons.mp hx with rfl | hx
      · have hq : H[q]? = some (vp_cell cI (N, .inl f)) := vP_mem.mp hP (q, .inl (cI, N, .inl f)) (List.mem_append_right _ List.mem_cons_self)
        show H[q]? = some (vp_cell cI (N, .inl g))
        rw [hq, arr_eq hfg]
      · exact vP_mem.mp hP x (List.mem_append_right _ (List.mem_cons_of_mem _ hx))
  · have := (vD_mem.mp hD).1
    rw [List.map_append, List.map_cons] at this ⊢
    exact this
  · rcases List.mem_append.mp hx with hx | hx
    · exact (vD_mem.mp hD).2 x (List.mem_append_left _ hx)
    · rcases List.mem_cons.mp hx with rfl | hx
      · exact (vD_mem.mp hD).2 (q, .inl (cI, N, .inl f)) (List.mem_append_right _ List.mem_cons_self)
      · exact (vD_mem.mp hD).2 x (List.mem_append_right _ (List.mem_cons_of_mem _ hx))
theorem line_loop9 {p : Program} {e : Env} {R : Room} {s : State} {m : MethodId} {args : Array Value} {below : List Frame} {meth : Method} {c : Code} {A : Nat → Prop} {q q1 q2 r : Nat} (X : CI dC dI cI cS fz A p s m args meth c cX3_init (ow 3)) (hr : meth.sig.returnType = none) (hlk : meth.locks = false) :
    ∀ (z k : Nat), z + k = 120 → ∀ (f : Nat → Int32), (∀ i, i < k → f i = mz 11 i) → ∀ (H : Heap) (locs : List Loc) (ls : Array Slot), lv_has ls 4 [(3, .int (nI k)), (2, .int (nI 120)), (0, .ref q), (1, .int (nI 120))] → Wd dC dI A s [(q, .inr (3, [.ref q1, .ref q2, .int (-1), .int (-1), .int 0, .int 0])), (q1, .inl (cI, 120, .inl (fun _ => 0))), (q2, .inl (cI, 120, .inl f))] H locs → W p l e R s m args below meth c H locs 2 240 (MQ below (va_Qv (fun _ : Nat → Nat → Nat → Nat => True) (fun ad t => ad r 9 0 = q ∧ va_P (dC, dI) cls10 (sw cI cS [(r, 9, 0), (r, 10, 0), (r, 11, 0)] ad μZ) t.heap ∧ va_D A (sw cI cS [(r, 9, 0), (r, 10, 0), (r, 11, 0)] ad μZ)) A) args s 2 240 A) (F0 m 46 ls []) := by
  have hx := X.1
  have hb := X.2.1
  intro z
  induction z with
  | zero =>
    intro k hk f hf H locs ls hl h
    have hk2 : k = 120 := by omega
    subst hk2
    refine lv_iload_n hx hb dX3_init_46 rfl (lv_at hl 0 rfl) ?_
    refine lv_iload_n hx hb dX3_init_47 rfl (lv_at hl 1 rfl) ?_
    refine lv_icmp_ge (tgt := 77) hx hb dX3_init_48 (by decide) (fun _ => ?_) (fun g => absurd ((nI_leI (by decide) (by decide)).mpr (Nat.le_refl 120)) g)
    have h := Wd.arr (w1 := [_, _]) (w2 := []) h hf
    exact k_end (k0 := (r, 9, 0)) X hr hlk dX3_init_77 (fun _ a _ => [q, q1, q2].getD (a - 9) 0) rfl h
  | succ z ih =>
    intro k hk f hf H locs ls hl h
    refine lv_iload_n hx hb dX3_init_46 rfl (lv_at hl 0 rfl) ?_
    refine lv_iload_n hx hb dX3_init_47 rfl (lv_at hl 1 rfl) ?_
    refine lv_icmp_ge (tgt := 77) hx hb dX3_init_48 (by decide) (fun g => absurd ((nI_leI (by decide) (by omega)).mp g) (by omega)) (fun _ => ?_)
    refine lv_aload_n hx hb dX3_init_51 rfl (lv_at hl 2 rfl) ?_
    refine k_get X h (ci := 3) (k := 1) (v := .ref q2) (by decide) (by decide) (fl_in (w := 3) (j := 1) (q := 102) (by decide) (by decide)) rfl dX3_init_52 ?_
    refine lv_iload_n hx hb dX3_init_55 rfl (lv_at hl 0 rfl) ?_
    refine lv_iload_n hx hb dX3_init_56 rfl (lv_at hl 0 rfl) ?_
    refine lv_iconst (v := 1) hx hb dX3_init_57 (by decide) ?_
    refine lv_iadd hx hb dX3_init_58 ?_
    refine lv_iload_n hx hb dX3_init_59 rfl (lv_at hl 1 rfl) ?_
    have go : ∀ v : Int32, v = mz 11 k → W p l e R s m args below meth c H locs 2 240 (MQ below (va_Qv (fun _ : Nat → Nat → Nat → Nat => True) (fun ad t => ad r 9 0 = q ∧ va_P (dC, dI) cls10 (sw cI cS [(r, 9, 0), (r, 10, 0), (r, 11, 0)] ad μZ) t.heap ∧ va_D A (sw cI cS [(r, 9, 0), (r, 10, 0), (r, 11, 0)] ad μZ)) A) args s 2 240 A) (F0 m 70 ls [.int v, .int (nI k), .ref q2]) := by
      intro v hv
      refine va_iast (D := (dC, dI)) hx hb X.2.2.2.2.1.1 h.1 h.2.1 h.2.2 2 0 (cA := cI) (n := 120) (f := f) rfl rfl (vp_in_nI (by omega) (by decide)) dX3_init_70 (fun H1 locs1 hP1 hD1 hS1 => ?_)
      refine lv_iinc (k := 0) (v := nI (k + 1)) (lv' := [(3, .int (nI (k + 1))), (2, .int (nI 120)), (0, .ref q), (1, .int (nI 120))]) hx hb dX3_init_71 hl rfl (nI_1 k) (by decide) rfl (fun ls hl => ?_)
      refine lv_goto (tgt := 46) hx hb dX3_init_74 (by decide) ?_
      refine ih (k + 1) (by omega) (upd f (nI k).toNatClampNeg v) (fun i hi => ?_) H1 locs1 ls hl ⟨hP1, hD1, hS1⟩
      rw [nI_cl (by omega)]
      unfold upd
      by_cases hik : i = k
      · rw [if_pos hik, hik, hv]
      · rw [if_neg hik]; exact hf i (by omega)
    refine lv_icmp_ge (tgt := 69) hx hb dX3_init_60 (by decide) (fun g => ?_) (fun g => ?_)
    · rw [nI_1, nI_le' (by decide) (by omega)] at g
      refine lv_iconst (v := -1) hx hb dX3_init_69 (by decide) ?_
      refine go (-1) ?_
      show _ = if k + 1 < 120 then nI (k + 1) else -1
      rw [if_neg (by omega)]
    · rw [nI_1, nI_le' (by decide) (by omega)] at g
      refine lv_iload_n hx hb dX3_init_63 rfl (lv_at hl 0 rfl) ?_
      refine lv_iconst (v := 1) hx hb dX3_init_64 (by decide) ?_
      refine lv_iadd hx hb dX3_init_65 ?_
      refine lv_goto (tgt := 70) hx hb dX3_init_66 (by decide) ?_
      refine go _ ?_
      show _ = if k + 1 < 120 then nI (k + 1) else -1
      rw [if_pos (by omega), nI_1]
set_option maxRecDepth 20000 in
theorem c_Line9 (r : Nat) : CtM l dC dI cI cS fz yX3_init cX3_init 4 { frames := 1, cells := 2, slots := 240, locals := 13 } 3 [.int (nI 120)] [(r, 9, 0), (r, 10, 0), (r, 11, 0)] (r, 9, 0) μZ := by
  refine k_begin (by decide) rfl (by decide) rfl ?_
  intro p e s m below meth c q ls A X hml hr hlk hl ht h
  have hl := lh2 hl ht
  have hx := X.1
  have hb := X.2.1
  have X : CI dC dI cI cS fz A p s m _ meth c _ (ow 3) := X
  have h : Wd dC dI A s ((q, .inr (3, [.null, .null, .int 0, .int 0, .int 0, .int 0])) :: []) s.heap [] := h
  refine lv_aload_n hx hb dX3_init_0 rfl (lv_at hl 0 rfl) ?_
  refine k_obj X hml hl.1 (mem_G (q := 97) rfl rfl) (Nat.le_of_ble_eq_true rfl) (Nat.le_of_ble_eq_true rfl) dX3_init_1 ?_
  refine lv_aload_n hx hb dX3_init_4 rfl (lv_at hl 0 rfl) ?_
  refine lv_iconst (v := -1) hx hb dX3_init_5 (by decide) ?_
  refine k_putI X h (ci := 3) (k := 2) (by decide) (by decide) (Nat.le_of_ble_eq_true rfl) (fl_in (w := 3) (j := 2) (q := 105) (by decide) (by decide)) rfl rfl rfl dX3_init_6 (fun H locs h => ?_)
  have h : Wd dC dI A s ((q, .inr (3, [.null, .null, .int (-1), .int 0, .int 0, .int 0])) :: _) H locs := h
  refine lv_aload_n hx hb dX3_init_9 rfl (lv_at hl 0 rfl) ?_
  refine lv_iconst (v := -1) hx hb dX3_init_10 (by decide) ?_
  refine k_putI X h (ci := 3) (k := 3) (by decide) (by decide) (Nat.le_of_ble_eq_true rfl) (fl_in (w := 3) (j := 3) (q := 108) (by decide) (by decide)) rfl rfl rfl dX3_init_11 (fun H locs h => ?_)
  have h : Wd dC dI A s ((q, .inr (3, [.null, .null, .int (-1), .int (-1), .int 0, .int 0])) :: _) H locs := h
  refine lv_aload_n hx hb dX3_init_14 rfl (lv_at hl 0 rfl) ?_
  refine lv_iconst (v := 0) hx hb dX3_init_15 (by decide) ?_
  refine k_putI X h (ci := 3) (k := 4) (by decide) (by decide) (Nat.le_of_ble_eq_true rfl) (fl_in (w := 3) (j := 4) (q := 109) (by decide) (by decide)) rfl rfl rfl dX3_init_16 (fun H locs h => ?_)
  have h : Wd dC dI A s ((q, .inr (3, [.null, .null, .int (-1), .int (-1), .int 0, .int 0])) :: _) H locs := h
  refine lv_aload_n hx hb dX3_init_19 rfl (lv_at hl 0 rfl) ?_
  refine lv_iconst (v := 0) hx hb dX3_init_20 (by decide) ?_
  refine k_putI X h (ci := 3) (k := 5) (by decide) (by decide) (Nat.le_of_ble_eq_true rfl) (fl_in (w := 3) (j := 5) (q := 110) (by decide) (by decide)) rfl rfl rfl dX3_init_21 (fun H locs h => ?_)
  have h : Wd dC dI A s ((q, .inr (3, [.null, .null, .int (-1), .int (-1), .int 0, .int 0])) :: _) H locs := h
  refine lv_iconst (v := 1) hx hb dX3_init_24 (by decide) ?_
  refine lv_iload_n hx hb dX3_init_25 rfl (lv_at hl 1 rfl) ?_
  refine va_mmax hx hb (hml.trans hl.1.symm) X.2.2.1 (X.2.2.2.1 _ (mem_G (q := 98) rfl rfl)) (X.2.2.2.1 _ (mem_G (q := 99) rfl rfl)) (X.2.2.2.1 _ (mem_G (q := 61) rfl rfl)) (X.2.2.2.1 _ (mem_G (q := 100) rfl rfl)) (Nat.le_of_ble_eq_true rfl) (Nat.le_of_ble_eq_true rfl) (Nat.zero_le _) (Nat.zero_le _) dX3_init_26 ?_
  have em : (if (1 : Int32) < nI 120 then nI 120 else 1) = nI 120 := by decide
  rw [em]
  refine lv_istore_n (lv' := [(2, .int (nI 120)), (0, .ref q), (1, .int (nI 120))]) hx hb dX3_init_29 rfl hl (by decide) rfl (fun ls hl => ?_)
  refine lv_aload_n hx hb dX3_init_30 rfl (lv_at hl 1 rfl) ?_
  refine lv_iload_n hx hb dX3_init_31 rfl (lv_at hl 0 rfl) ?_
  refine k_newa X h (N := 120) (by decide) (by decide) (by decide) (Nat.le_of_ble_eq_true rfl) (Nat.le_of_ble_eq_true rfl) dX3_init_32 (fun q1 H h => ?_)
  refine k_putR X h (ci := 3) (k := 0) (by decide) (by decide) (Nat.le_of_ble_eq_true rfl) (fl_in (w := 3) (j := 0) (q := 101) (by decide) (by decide)) rfl rfl rfl rfl dX3_init_34 (fun H locs h => ?_)
  refine lv_aload_n hx hb dX3_init_37 rfl (lv_at hl 1 rfl) ?_
  refine lv_iload_n hx hb dX3_init_38 rfl (lv_at hl 0 rfl) ?_
  refine k_newa X h (N := 120) (by decide) (by decide) (by decide) (Nat.le_of_ble_eq_true rfl) (Nat.le_of_ble_eq_true rfl) dX3_init_39 (fun q2 H h => ?_)
  refine k_putR X h (ci := 3) (k := 1) (by decide) (by decide) (Nat.le_of_ble_eq_true rfl) (fl_in (w := 3) (j := 1) (q := 102) (by decide) (by decide)) rfl rfl rfl rfl dX3_init_41 (fun H locs h => ?_)
  refine lv_iconst (v := nI 0) hx hb dX3_init_44 (by decide) ?_
  refine lv_istore_n (lv' := [(3, .int (nI 0)), (2, .int (nI 120)), (0, .ref q), (1, .int (nI 120))]) hx hb dX3_init_45 rfl hl (by decide) rfl (fun ls hl => ?_)
  refine W.widen (k := 2) (n := 240) (Nat.le_of_ble_eq_true rfl) (Nat.le_of_ble_eq_true rfl) ?_
  exact line_loop9 X hr hlk 120 0 (by omega) (fun _ => 0) (fun i hi => absurd hi (by omega)) H locs ls hl h
theorem line_loop21 {p : Program} {e : Env} {R : Room} {s : State} {m : MethodId} {args : Array Value} {below : List Frame} {meth : Method} {c : Code} {A : Nat → Prop} {q q1 q2 r : Nat} (X : CI dC dI cI cS fz A p s m args meth c cX3_init (ow 3)) (hr : meth.sig.returnType = none) (hlk : meth.locks = false) :
    ∀ (z k : Nat), z + k = 100 → ∀ (f : Nat → Int32), (∀ i, i < k → f i = mz 23 i) → ∀ (H : Heap) (locs : List Loc) (ls : Array Slot), lv_has ls 4 [(3, .int (nI k)), (2, .int (nI 100)), (0, .ref q), (1, .int (nI 100))] → Wd dC dI A s [(q, .inr (3, [.ref q1, .ref q2, .int (-1), .int (-1), .int 0, .int 0])), (q1, .inl (cI, 100, .inl (fun _ => 0))), (q2, .inl (cI, 100, .inl f))] H locs → W p l e R s m args below meth c H locs 2 200 (MQ below (va_Qv (fun _ : Nat → Nat → Nat → Nat => True) (fun ad t => ad r 21 0 = q ∧ va_P (dC, dI) cls10 (sw cI cS [(r, 21, 0), (r, 22, 0), (r, 23, 0)] ad μZ) t.heap ∧ va_D A (sw cI cS [(r, 21, 0), (r, 22, 0), (r, 23, 0)] ad μZ)) A) args s 2 200 A) (F0 m 46 ls []) := by
  have hx := X.1
  have hb := X.2.1
  intro z
  induction z with
  | zero =>
    intro k hk f hf H locs ls hl h
    have hk2 : k = 100 := by omega
    subst hk2
    refine lv_iload_n hx hb dX3_init_46 rfl (lv_at hl 0 rfl) ?_
    refine lv_iload_n hx hb dX3_init_47 rfl (lv_at hl 1 rfl) ?_
    refine lv_icmp_ge (tgt := 77) hx hb dX3_init_48 (by decide) (fun _ => ?_) (fun g => absurd ((nI_leI (by decide) (by decide)).mpr (Nat.le_refl 100)) g)
    have h := Wd.arr (w1 := [_, _]) (w2 := []) h hf
    exact k_end (k0 := (r, 21, 0)) X hr hlk dX3_init_77 (fun _ a _ => [q, q1, q2].getD (a - 21) 0) rfl h
  | succ z ih =>
    intro k hk f hf H locs ls hl h
    refine lv_iload_n hx hb dX3_init_46 rfl (lv_at hl 0 rfl) ?_
    refine lv_iload_n hx hb dX3_init_47 rfl (lv_at hl 1 rfl) ?_
    refine lv_icmp_ge (tgt := 77) hx hb dX3_init_48 (by decide) (fun g => absurd ((nI_leI (by decide) (by omega)).mp g) (by omega)) (fun _ => ?_)
    refine lv_aload_n hx hb dX3_init_51 rfl (lv_at hl 2 rfl) ?_
    refine k_get X h (ci := 3) (k := 1) (v := .ref q2) (by decide) (by decide) (fl_in (w := 3) (j := 1) (q := 102) (by decide) (by decide)) rfl dX3_init_52 ?_
    refine lv_iload_n hx hb dX3_init_55 rfl (lv_at hl 0 rfl) ?_
    refine lv_iload_n hx hb dX3_init_56 rfl (lv_at hl 0 rfl) ?_
    refine lv_iconst (v := 1) hx hb dX3_init_57 (by decide) ?_
    refine lv_iadd hx hb dX3_init_58 ?_
    refine lv_iload_n hx hb dX3_init_59 rfl (lv_at hl 1 rfl) ?_
    have go : ∀ v : Int32, v = mz 23 k → W p l e R s m args below meth c H locs 2 200 (MQ below (va_Qv (fun _ : Nat → Nat → Nat → Nat => True) (fun ad t => ad r 21 0 = q ∧ va_P (dC, dI) cls10 (sw cI cS [(r, 21, 0), (r, 22, 0), (r, 23, 0)] ad μZ) t.heap ∧ va_D A (sw cI cS [(r, 21, 0), (r, 22, 0), (r, 23, 0)] ad μZ)) A) args s 2 200 A) (F0 m 70 ls [.int v, .int (nI k), .ref q2]) := by
      intro v hv
      refine va_iast (D := (dC, dI)) hx hb X.2.2.2.2.1.1 h.1 h.2.1 h.2.2 2 0 (cA := cI) (n := 100) (f := f) rfl rfl (vp_in_nI (by omega) (by decide)) dX3_init_70 (fun H1 locs1 hP1 hD1 hS1 => ?_)
      refine lv_iinc (k := 0) (v := nI (k + 1)) (lv' := [(3, .int (nI (k + 1))), (2, .int (nI 100)), (0, .ref q), (1, .int (nI 100))]) hx hb dX3_init_71 hl rfl (nI_1 k) (by decide) rfl (fun ls hl => ?_)
      refine lv_goto (tgt := 46) hx hb dX3_init_74 (by decide) ?_
      refine ih (k + 1) (by omega) (upd f (nI k).toNatClampNeg v) (fun i hi => ?_) H1 locs1 ls hl ⟨hP1, hD1, hS1⟩
      rw [nI_cl (by omega)]
      unfold upd
      by_cases hik : i = k
      · rw [if_pos hik, hik, hv]
      · rw [if_neg hik]; exact hf i (by omega)
    refine lv_icmp_ge (tgt := 69) hx hb dX3_init_60 (by decide) (fun g => ?_) (fun g => ?_)
    · rw [nI_1, nI_le' (by decide) (by omega)] at g
      refine lv_iconst (v := -1) hx hb dX3_init_69 (by decide) ?_
      refine go (-1) ?_
      show _ = if k + 1 < 100 then nI (k + 1) else -1
      rw [if_neg (by omega)]
    · rw [nI_1, nI_le' (by decide) (by omega)] at g
      refine lv_iload_n hx hb dX3_init_63 rfl (lv_at hl 0 rfl) ?_
      refine lv_iconst (v := 1) hx hb dX3_init_64 (by decide) ?_
      refine lv_iadd hx hb dX3_init_65 ?_
      refine lv_goto (tgt := 70) hx hb dX3_init_66 (by decide) ?_
      refine go _ ?_
      show _ = if k + 1 < 100 then nI (k + 1) else -1
      rw [if_pos (by omega), nI_1]
set_option maxRecDepth 20000 in
theorem c_Line21 (r : Nat) : CtM l dC dI cI cS fz yX3_init cX3_init 4 { frames := 1, cells := 2, slots := 200, locals := 13 } 3 [.int (nI 100)] [(r, 21, 0), (r, 22, 0), (r, 23, 0)] (r, 21, 0) μZ := by
  refine k_begin (by decide) rfl (by decide) rfl ?_
  intro p e s m below meth c q ls A X hml hr hlk hl ht h
  have hl := lh2 hl ht
  have hx := X.1
  have hb := X.2.1
  have X : CI dC dI cI cS fz A p s m _ meth c _ (ow 3) := X
  have h : Wd dC dI A s ((q, .inr (3, [.null, .null, .int 0, .int 0, .int 0, .int 0])) :: []) s.heap [] := h
  refine lv_aload_n hx hb dX3_init_0 rfl (lv_at hl 0 rfl) ?_
  refine k_obj X hml hl.1 (mem_G (q := 97) rfl rfl) (Nat.le_of_ble_eq_true rfl) (Nat.le_of_ble_eq_true rfl) dX3_init_1 ?_
  refine lv_aload_n hx hb dX3_init_4 rfl (lv_at hl 0 rfl) ?_
  refine lv_iconst (v := -1) hx hb dX3_init_5 (by decide) ?_
  refine k_putI X h (ci := 3) (k := 2) (by decide) (by decide) (Nat.le_of_ble_eq_true rfl) (fl_in (w := 3) (j := 2) (q := 105) (by decide) (by decide)) rfl rfl rfl dX3_init_6 (fun H locs h => ?_)
  have h : Wd dC dI A s ((q, .inr (3, [.null, .null, .int (-1), .int 0, .int 0, .int 0])) :: _) H locs := h
  refine lv_aload_n hx hb dX3_init_9 rfl (lv_at hl 0 rfl) ?_
  refine lv_iconst (v := -1) hx hb dX3_init_10 (by decide) ?_
  refine k_putI X h (ci := 3) (k := 3) (by decide) (by decide) (Nat.le_of_ble_eq_true rfl) (fl_in (w := 3) (j := 3) (q := 108) (by decide) (by decide)) rfl rfl rfl dX3_init_11 (fun H locs h => ?_)
  have h : Wd dC dI A s ((q, .inr (3, [.null, .null, .int (-1), .int (-1), .int 0, .int 0])) :: _) H locs := h
  refine lv_aload_n hx hb dX3_init_14 rfl (lv_at hl 0 rfl) ?_
  refine lv_iconst (v := 0) hx hb dX3_init_15 (by decide) ?_
  refine k_putI X h (ci := 3) (k := 4) (by decide) (by decide) (Nat.le_of_ble_eq_true rfl) (fl_in (w := 3) (j := 4) (q := 109) (by decide) (by decide)) rfl rfl rfl dX3_init_16 (fun H locs h => ?_)
  have h : Wd dC dI A s ((q, .inr (3, [.null, .null, .int (-1), .int (-1), .int 0, .int 0])) :: _) H locs := h
  refine lv_aload_n hx hb dX3_init_19 rfl (lv_at hl 0 rfl) ?_
  refine lv_iconst (v := 0) hx hb dX3_init_20 (by decide) ?_
  refine k_putI X h (ci := 3) (k := 5) (by decide) (by decide) (Nat.le_of_ble_eq_true rfl) (fl_in (w := 3) (j := 5) (q := 110) (by decide) (by decide)) rfl rfl rfl dX3_init_21 (fun H locs h => ?_)
  have h : Wd dC dI A s ((q, .inr (3, [.null, .null, .int (-1), .int (-1), .int 0, .int 0])) :: _) H locs := h
  refine lv_iconst (v := 1) hx hb dX3_init_24 (by decide) ?_
  refine lv_iload_n hx hb dX3_init_25 rfl (lv_at hl 1 rfl) ?_
  refine va_mmax hx hb (hml.trans hl.1.symm) X.2.2.1 (X.2.2.2.1 _ (mem_G (q := 98) rfl rfl)) (X.2.2.2.1 _ (mem_G (q := 99) rfl rfl)) (X.2.2.2.1 _ (mem_G (q := 61) rfl rfl)) (X.2.2.2.1 _ (mem_G (q := 100) rfl rfl)) (Nat.le_of_ble_eq_true rfl) (Nat.le_of_ble_eq_true rfl) (Nat.zero_le _) (Nat.zero_le _) dX3_init_26 ?_
  have em : (if (1 : Int32) < nI 100 then nI 100 else 1) = nI 100 := by decide
  rw [em]
  refine lv_istore_n (lv' := [(2, .int (nI 100)), (0, .ref q), (1, .int (nI 100))]) hx hb dX3_init_29 rfl hl (by decide) rfl (fun ls hl => ?_)
  refine lv_aload_n hx hb dX3_init_30 rfl (lv_at hl 1 rfl) ?_
  refine lv_iload_n hx hb dX3_init_31 rfl (lv_at hl 0 rfl) ?_
  refine k_newa X h (N := 100) (by decide) (by decide) (by decide) (Nat.le_of_ble_eq_true rfl) (Nat.le_of_ble_eq_true rfl) dX3_init_32 (fun q1 H h => ?_)
  refine k_putR X h (ci := 3) (k := 0) (by decide) (by decide) (Nat.le_of_ble_eq_true rfl) (fl_in (w := 3) (j := 0) (q := 101) (by decide) (by decide)) rfl rfl rfl rfl dX3_init_34 (fun H locs h => ?_)
  refine lv_aload_n hx hb dX3_init_37 rfl (lv_at hl 1 rfl) ?_
  refine lv_iload_n hx hb dX3_init_38 rfl (lv_at hl 0 rfl) ?_
  refine k_newa X h (N := 100) (by decide) (by decide) (by decide) (Nat.le_of_ble_eq_true rfl) (Nat.le_of_ble_eq_true rfl) dX3_init_39 (fun q2 H h => ?_)
  refine k_putR X h (ci := 3) (k := 1) (by decide) (by decide) (Nat.le_of_ble_eq_true rfl) (fl_in (w := 3) (j := 1) (q := 102) (by decide) (by decide)) rfl rfl rfl rfl dX3_init_41 (fun H locs h => ?_)
  refine lv_iconst (v := nI 0) hx hb dX3_init_44 (by decide) ?_
  refine lv_istore_n (lv' := [(3, .int (nI 0)), (2, .int (nI 100)), (0, .ref q), (1, .int (nI 100))]) hx hb dX3_init_45 rfl hl (by decide) rfl (fun ls hl => ?_)
  refine W.widen (k := 2) (n := 200) (Nat.le_of_ble_eq_true rfl) (Nat.le_of_ble_eq_true rfl) ?_
  exact line_loop21 X hr hlk 100 0 (by omega) (fun _ => 0) (fun i hi => absurd hi (by omega)) H locs ls hl h
end KC4
