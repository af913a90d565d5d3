/-! CONSTRUCTORS, 9: the model -/
def μ0 : Mem := fun r a _ => if r = 4 then (if a = 60 then (fun i => if i = 28 then 1 else 0) else if a = 61 then (fun _ => -1) else if a = 64 then (fun _ => -4) else mz a) else mz a
def keyM : List (Nat × Nat × Nat) := [(3, 40, 0), (3, 41, 0), (3, 42, 0), (3, 43, 0), (3, 44, 0), (3, 45, 0), (3, 46, 0), (3, 47, 0), (4, 60, 0), (4, 61, 0), (4, 62, 0), (4, 63, 0), (4, 64, 0), (4, 65, 0), (4, 66, 0), (4, 67, 0), (4, 68, 0), (4, 69, 0), (4, 70, 0), (4, 71, 0), (4, 72, 0), (4, 73, 0), (4, 74, 0), (4, 75, 0), (4, 76, 0), (4, 77, 0), (4, 78, 0), (4, 79, 0), (5, 60, 0), (5, 61, 0), (5, 62, 0), (5, 63, 0), (5, 64, 0), (5, 65, 0), (5, 66, 0), (5, 67, 0), (5, 68, 0), (5, 69, 0), (5, 70, 0), (5, 71, 0), (5, 72, 0), (5, 73, 0), (5, 74, 0), (5, 75, 0), (5, 76, 0), (5, 77, 0), (5, 78, 0), (5, 79, 0), (3, 48, 0), (3, 49, 0)]
theorem set_mid {α : Type} {w1 w2 : List α} {x y : α} {n : Nat} (h : w1.length = n) : (w1 ++ x :: w2).set n y = w1 ++ y :: w2 := by
  subst h
  rw [List.set_append_right _ _ (Nat.le_refl _), Nat.sub_self, List.set_cons_zero]
section KC9
variable {l : Launch} {dC : Nat → ClassId} {dI : Nat → Nat → Nat} {cI cS : ClassId} {fz : Nat}
theorem m_loop1 {p : Program} {e : Env} {R : Room} {s : State} {m : MethodId} {args : Array Value} {below : List Frame} {meth : Method} {c : Code} {cells slots : Nat} {Q : State → Prop} {A : Nat → Prop} {q qh qk : Nat} {FM FH : List Value} {w1 w2 : va_W} (X : CI dC dI cI cS fz A p s m args meth c cX9_init (ow 9)) (hw : w1.length = 12) (g0 : w1[0]? = some (q, .inr (9, FM))) (g8 : w1[8]? = some (qh, .inr (8, FH))) (gm : FM[12]? = some (.ref qh)) (gh : FH[4]? = some (.ref qk))
    (kk : ∀ (H : Heap) (locs : List Loc) (ls : Array Slot), lv_has ls 2 [(1, .int (nI 48)), (0, .ref q)] → Wd dC dI A s (w1 ++ (qk, .inl (cI, 48, .inl (fun _ => -4))) :: w2) H locs → W p l e R s m args below meth c H locs cells slots Q (F0 m 137 ls [])) :
    ∀ (z k : Nat), z + k = 48 → ∀ (f : Nat → Int32), (∀ i, i < k → f i = -4) → ∀ (H : Heap) (locs : List Loc) (ls : Array Slot), lv_has ls 2 [(1, .int (nI k)), (0, .ref q)] → Wd dC dI A s (w1 ++ (qk, .inl (cI, 48, .inl f)) :: w2) H locs → W p l e R s m args below meth c H locs cells slots Q (F0 m 114 ls []) := by
  have hx := X.1
  have hb := X.2.1
  intro z
  induction z with
  | zero =>
    intro k hk f hf H locs ls hl h
    have hk2 : k = 48 := by omega
    subst hk2
    refine lv_iload_n hx hb dX9_init_114 rfl (lv_at hl 0 rfl) ?_
    refine lv_bipush (v := nI 48) hx hb dX9_init_115 (by decide) ?_
    refine lv_icmp_ge (tgt := 137) hx hb dX9_init_117 (by decide) (fun _ => ?_) (fun g => absurd ((nI_leI (by decide) (by decide)).mpr (Nat.le_refl 48)) g)
    exact kk H locs ls hl (Wd.arr h hf)
  | succ z ih =>
    intro k hk f hf H locs ls hl h
    have t0 : (w1 ++ (qk, .inl (cI, 48, .inl f)) :: w2)[0]? = some (q, .inr (9, FM)) := by rw [List.getElem?_append_left (by omega)]; exact g0
    have t8 : (w1 ++ (qk, .inl (cI, 48, .inl f)) :: w2)[8]? = some (qh, .inr (8, FH)) := by rw [List.getElem?_append_left (by omega)]; exact g8
    have tk : (w1 ++ (qk, .inl (cI, 48, .inl f)) :: w2)[12]? = some (qk, .inl (cI, 48, .inl f)) := by rw [List.getElem?_append_right (by omega), hw]; rfl
    refine lv_iload_n hx hb dX9_init_114 rfl (lv_at hl 0 rfl) ?_
    refine lv_bipush (v := nI 48) hx hb dX9_init_115 (by decide) ?_
    refine lv_icmp_ge (tgt := 137) hx hb dX9_init_117 (by decide) (fun g => absurd ((nI_leI (by decide) (by omega)).mp g) (by omega)) (fun _ => ?_)
    refine lv_aload_n hx hb dX9_init_120 rfl (lv_at hl 1 rfl) ?_
    refine va_get (D := (dC, dI)) (ci := 9) (v := .ref qh) (C := (clT 9).1) (T := (clT 9).2.1) (N := cN 9) hx hb X.2.2.2.1 (lays_in 9 (by decide)) X.2.2.1 X.2.2.2.2.1.1 h.1 0 t0 (cls_at (by decide)) 12 (by decide) (X.2.2.2.1 _ (fl_in (w := 9) (j := 12) (q := 842) (by decide) (by decide))) (fun _ z => z) gm dX9_init_121 ?_
    refine va_getN (D := (dC, dI)) (ci := 8) (v := .ref qk) (C := (clT 8).1) (T := (clT 8).2.1) (N := cN 8) hx hb X.2.2.2.1 (lays_in 8 (by decide)) X.2.2.1 X.2.2.2.2.1.1 h.1 8 t8 (cls_at (by decide)) 4 (by decide) (va_Nw.use rfl (X.2.2.2.2.1.2.2.2.1 _ (List.mem_of_getElem? (fT_spec (w := 9) (i := 55) (c := 8) (j := 4) (b := true) (q := 722) (by decide) (by decide)).1) rfl)) (fun _ z => z) gh dX9_init_124 ?_
    refine lv_iload_n hx hb dX9_init_127 rfl (lv_at hl 0 rfl) ?_
    refine lv_bipush (v := -4) hx hb dX9_init_128 (by decide) ?_
    refine va_iast (D := (dC, dI)) hx hb X.2.2.2.2.1.1 h.1 h.2.1 h.2.2 12 0 (cA := cI) (n := 48) (f := f) tk rfl (vp_in_nI (by omega) (by decide)) dX9_init_130 (fun H1 locs1 hP1 hD1 hS1 => ?_)
    rw [set_mid hw] at hP1 hD1
    refine lv_iinc (k := 0) (v := nI (k + 1)) (lv' := [(1, .int (nI (k + 1))), (0, .ref q)]) hx hb dX9_init_131 hl rfl (nI_1 k) (by decide) rfl (fun ls hl => ?_)
    refine lv_goto (tgt := 114) hx hb dX9_init_134 (by decide) ?_
    refine ih (k + 1) (by omega) (upd f (nI k).toNatClampNeg (-4)) (fun i hi => ?_) H1 locs1 ls hl ⟨hP1, hD1, hS1⟩
    rw [nI_cl (by omega)]
    unfold upd
    by_cases hik : i = k
    · rw [if_pos hik]
    · rw [if_neg hik]; exact hf i (by omega)
theorem m_loop2 {p : Program} {e : Env} {R : Room} {s : State} {m : MethodId} {args : Array Value} {below : List Frame} {meth : Method} {c : Code} {cells slots : Nat} {Q : State → Prop} {A : Nat → Prop} {q qh qk : Nat} {FM FH : List Value} {w1 w2 : va_W} (X : CI dC dI cI cS fz A p s m args meth c cX9_init (ow 9)) (hw : w1.length = 9) (g0 : w1[0]? = some (q, .inr (9, FM))) (g8 : w1[8]? = some (qh, .inr (8, FH))) (gm : FM[12]? = some (.ref qh)) (gh : FH[1]? = some (.ref qk))
    (kk : ∀ (H : Heap) (locs : List Loc) (ls : Array Slot), lv_has ls 2 [(1, .int (nI 6)), (0, .ref q)] → Wd dC dI A s (w1 ++ (qk, .inl (cI, 6, .inl (fun _ => -1))) :: w2) H locs → W p l e R s m args below meth c H locs cells slots Q (F0 m 161 ls [])) :
    ∀ (z k : Nat), z + k = 6 → ∀ (f : Nat → Int32), (∀ i, i < k → f i = -1) → ∀ (H : Heap) (locs : List Loc) (ls : Array Slot), lv_has ls 2 [(1, .int (nI k)), (0, .ref q)] → Wd dC dI A s (w1 ++ (qk, .inl (cI, 6, .inl f)) :: w2) H locs → W p l e R s m args below meth c H locs cells slots Q (F0 m 139 ls []) := by
  have hx := X.1
  have hb := X.2.1
  intro z
  induction z with
  | zero =>
    intro k hk f hf H locs ls hl h
    have hk2 : k = 6 := by omega
    subst hk2
    refine lv_iload_n hx hb dX9_init_139 rfl (lv_at hl 0 rfl) ?_
    refine lv_bipush (v := nI 6) hx hb dX9_init_140 (by decide) ?_
    refine lv_icmp_ge (tgt := 161) hx hb dX9_init_142 (by decide) (fun _ => ?_) (fun g => absurd ((nI_leI (by decide) (by decide)).mpr (Nat.le_refl 6)) g)
    exact kk H locs ls hl (Wd.arr h hf)
  | succ z ih =>
    intro k hk f hf H locs ls hl h
    have t0 : (w1 ++ (qk, .inl (cI, 6, .inl f)) :: w2)[0]? = some (q, .inr (9, FM)) := by rw [List.getElem?_append_left (by omega)]; exact g0
    have t8 : (w1 ++ (qk, .inl (cI, 6, .inl f)) :: w2)[8]? = some (qh, .inr (8, FH)) := by rw [List.getElem?_append_left (by omega)]; exact g8
    have tk : (w1 ++ (qk, .inl (cI, 6, .inl f)) :: w2)[9]? = some (qk, .inl (cI, 6, .inl f)) := by rw [List.getElem?_append_right (by omega), hw]; rfl
    refine lv_iload_n hx hb dX9_init_139 rfl (lv_at hl 0 rfl) ?_
    refine lv_bipush (v := nI 6) hx hb dX9_init_140 (by decide) ?_
    refine lv_icmp_ge (tgt := 161) hx hb dX9_init_142 (by decide) (fun g => absurd ((nI_leI (by decide) (by omega)).mp g) (by omega)) (fun _ => ?_)
    refine lv_aload_n hx hb dX9_init_145 rfl (lv_at hl 1 rfl) ?_
    refine va_get (D := (dC, dI)) (ci := 9) (v := .ref qh) (C := (clT 9).1) (T := (clT 9).2.1) (N := cN 9) hx hb X.2.2.2.1 (lays_in 9 (by decide)) X.2.2.1 X.2.2.2.2.1.1 h.1 0 t0 (cls_at (by decide)) 12 (by decide) (X.2.2.2.1 _ (fl_in (w := 9) (j := 12) (q := 842) (by decide) (by decide))) (fun _ z => z) gm dX9_init_146 ?_
    refine va_getN (D := (dC, dI)) (ci := 8) (v := .ref qk) (C := (clT 8).1) (T := (clT 8).2.1) (N := cN 8) hx hb X.2.2.2.1 (lays_in 8 (by decide)) X.2.2.1 X.2.2.2.2.1.1 h.1 8 t8 (cls_at (by decide)) 1 (by decide) (va_Nw.use rfl (X.2.2.2.2.1.2.2.2.1 _ (List.mem_of_getElem? (fT_spec (w := 9) (i := 58) (c := 8) (j := 1) (b := true) (q := 716) (by decide) (by decide)).1) rfl)) (fun _ z => z) gh dX9_init_149 ?_
    refine lv_iload_n hx hb dX9_init_152 rfl (lv_at hl 0 rfl) ?_
    refine lv_iconst (v := -1) hx hb dX9_init_153 (by decide) ?_
    refine va_iast (D := (dC, dI)) hx hb X.2.2.2.2.1.1 h.1 h.2.1 h.2.2 9 0 (cA := cI) (n := 6) (f := f) tk rfl (vp_in_nI (by omega) (by decide)) dX9_init_154 (fun H1 locs1 hP1 hD1 hS1 => ?_)
    rw [set_mid hw] at hP1 hD1
    refine lv_iinc (k := 0) (v := nI (k + 1)) (lv' := [(1, .int (nI (k + 1))), (0, .ref q)]) hx hb dX9_init_155 hl rfl (nI_1 k) (by decide) rfl (fun ls hl => ?_)
    refine lv_goto (tgt := 139) hx hb dX9_init_158 (by decide) ?_
    refine ih (k + 1) (by omega) (upd f (nI k).toNatClampNeg (-1)) (fun i hi => ?_) H1 locs1 ls hl ⟨hP1, hD1, hS1⟩
    rw [nI_cl (by omega)]
    unfold upd
    by_cases hik : i = k
    · rw [if_pos hik]
    · rw [if_neg hik]; exact hf i (by omega)
set_option maxRecDepth 20000 in
set_option maxHeartbeats 8000000 in
theorem c_X9_init : CtM l dC dI cI cS fz yX9_init cX9_init 2 { frames := 2, cells := 49, slots := 3930, locals := 60 } 9 [] keyM (3, 40, 0) μ0 := by
  refine k_begin (by decide) rfl (by decide) rfl ?_
  intro p e s m below meth c q ls A X hml hr hlk hl ht h
  have hl := lh1 hl ht
  have hx := X.1
  have hb := X.2.1
  have X : CI dC dI cI cS fz A p s m _ meth c _ (ow 9) := X
  have h : Wd dC dI A s ((q, .inr (9, [.null, .null, .int 0, .int 0, .int 0, .null, .null, .null, .int 0, .int 0, .null, .null, .null, .null, .int 0, .int 0, .int 0, .int 0, .null, .int 0, .null, .int 0])) :: []) s.heap [] := h
  refine lv_aload_n hx hb dX9_init_0 rfl (lv_at hl 0 rfl) ?_
  refine k_obj X hml hl.1 (mem_G (q := 706) rfl rfl) (Nat.le_of_ble_eq_true rfl) (Nat.le_of_ble_eq_true rfl) dX9_init_1 ?_
  refine lv_aload_n hx hb dX9_init_4 rfl (lv_at hl 0 rfl) ?_
  refine lv_bipush (v := 54) hx hb dX9_init_5 (by decide) ?_
  refine k_newa X h (N := 54) (by decide) (by decide) (by decide) (Nat.le_of_ble_eq_true rfl) (Nat.le_of_ble_eq_true rfl) dX9_init_7 (fun q1 H h => ?_)
  refine k_putR X h (ci := 9) (k := 0) (by decide) (by decide) (Nat.le_of_ble_eq_true rfl) (fl_in (w := 9) (j := 0) (q := 830) (by decide) (by decide)) rfl rfl rfl rfl dX9_init_9 (fun H locs h => ?_)
  have h : Wd dC dI A s ((q, .inr (9, [.ref q1, .null, .int 0, .int 0, .int 0, .null, .null, .null, .int 0, .int 0, .null, .null, .null, .null, .int 0, .int 0, .int 0, .int 0, .null, .int 0, .null, .int 0])) :: _) H locs := h
  refine lv_aload_n hx hb dX9_init_12 rfl (lv_at hl 0 rfl) ?_
  refine lv_bipush (v := 6) hx hb dX9_init_13 (by decide) ?_
  refine k_newa X h (N := 6) (by decide) (by decide) (by decide) (Nat.le_of_ble_eq_true rfl) (Nat.le_of_ble_eq_true rfl) dX9_init_15 (fun q2 H h => ?_)
  refine k_putR X h (ci := 9) (k := 1) (by decide) (by decide) (Nat.le_of_ble_eq_true rfl) (fl_in (w := 9) (j := 1) (q := 831) (by decide) (by decide)) rfl rfl rfl rfl dX9_init_17 (fun H locs h => ?_)
  have h : Wd dC dI A s ((q, .inr (9, [.ref q1, .ref q2, .int 0, .int 0, .int 0, .null, .null, .null, .int 0, .int 0, .null, .null, .null, .null, .int 0, .int 0, .int 0, .int 0, .null, .int 0, .null, .int 0])) :: _) H locs := h
  refine lv_aload_n hx hb dX9_init_20 rfl (lv_at hl 0 rfl) ?_
  refine lv_bipush (v := 20) hx hb dX9_init_21 (by decide) ?_
  refine k_putI X h (ci := 9) (k := 3) (by decide) (by decide) (Nat.le_of_ble_eq_true rfl) (fl_in (w := 9) (j := 3) (q := 833) (by decide) (by decide)) rfl rfl rfl dX9_init_23 (fun H locs h => ?_)
  have h : Wd dC dI A s ((q, .inr (9, [.ref q1, .ref q2, .int 0, .int 20, .int 0, .null, .null, .null, .int 0, .int 0, .null, .null, .null, .null, .int 0, .int 0, .int 0, .int 0, .null, .int 0, .null, .int 0])) :: _) H locs := h
  refine lv_aload_n hx hb dX9_init_26 rfl (lv_at hl 0 rfl) ?_
  refine lv_bipush (v := 40) hx hb dX9_init_27 (by decide) ?_
  refine k_newa X h (N := 40) (by decide) (by decide) (by decide) (Nat.le_of_ble_eq_true rfl) (Nat.le_of_ble_eq_true rfl) dX9_init_29 (fun q3 H h => ?_)
  refine k_putR X h (ci := 9) (k := 5) (by decide) (by decide) (Nat.le_of_ble_eq_true rfl) (fl_in (w := 9) (j := 5) (q := 835) (by decide) (by decide)) rfl rfl rfl rfl dX9_init_31 (fun H locs h => ?_)
  have h : Wd dC dI A s ((q, .inr (9, [.ref q1, .ref q2, .int 0, .int 20, .int 0, .ref q3, .null, .null, .int 0, .int 0, .null, .null, .null, .null, .int 0, .int 0, .int 0, .int 0, .null, .int 0, .null, .int 0])) :: _) H locs := h
  refine lv_aload_n hx hb dX9_init_34 rfl (lv_at hl 0 rfl) ?_
  refine lv_bipush (v := 40) hx hb dX9_init_35 (by decide) ?_
  refine k_newa X h (N := 40) (by decide) (by decide) (by decide) (Nat.le_of_ble_eq_true rfl) (Nat.le_of_ble_eq_true rfl) dX9_init_37 (fun q4 H h => ?_)
  refine k_putR X h (ci := 9) (k := 6) (by decide) (by decide) (Nat.le_of_ble_eq_true rfl) (fl_in (w := 9) (j := 6) (q := 836) (by decide) (by decide)) rfl rfl rfl rfl dX9_init_39 (fun H locs h => ?_)
  have h : Wd dC dI A s ((q, .inr (9, [.ref q1, .ref q2, .int 0, .int 20, .int 0, .ref q3, .ref q4, .null, .int 0, .int 0, .null, .null, .null, .null, .int 0, .int 0, .int 0, .int 0, .null, .int 0, .null, .int 0])) :: _) H locs := h
  refine lv_aload_n hx hb dX9_init_42 rfl (lv_at hl 0 rfl) ?_
  refine lv_bipush (v := 40) hx hb dX9_init_43 (by decide) ?_
  refine k_newa X h (N := 40) (by decide) (by decide) (by decide) (Nat.le_of_ble_eq_true rfl) (Nat.le_of_ble_eq_true rfl) dX9_init_45 (fun q5 H h => ?_)
  refine k_putR X h (ci := 9) (k := 7) (by decide) (by decide) (Nat.le_of_ble_eq_true rfl) (fl_in (w := 9) (j := 7) (q := 837) (by decide) (by decide)) rfl rfl rfl rfl dX9_init_47 (fun H locs h => ?_)
  have h : Wd dC dI A s ((q, .inr (9, [.ref q1, .ref q2, .int 0, .int 20, .int 0, .ref q3, .ref q4, .ref q5, .int 0, .int 0, .null, .null, .null, .null, .int 0, .int 0, .int 0, .int 0, .null, .int 0, .null, .int 0])) :: _) H locs := h
  refine lv_aload_n hx hb dX9_init_50 rfl (lv_at hl 0 rfl) ?_
  refine lv_bipush (v := 12) hx hb dX9_init_51 (by decide) ?_
  refine k_newa X h (N := 12) (by decide) (by decide) (by decide) (Nat.le_of_ble_eq_true rfl) (Nat.le_of_ble_eq_true rfl) dX9_init_53 (fun q6 H h => ?_)
  refine k_putR X h (ci := 9) (k := 10) (by decide) (by decide) (Nat.le_of_ble_eq_true rfl) (fl_in (w := 9) (j := 10) (q := 840) (by decide) (by decide)) rfl rfl rfl rfl dX9_init_55 (fun H locs h => ?_)
  have h : Wd dC dI A s ((q, .inr (9, [.ref q1, .ref q2, .int 0, .int 20, .int 0, .ref q3, .ref q4, .ref q5, .int 0, .int 0, .ref q6, .null, .null, .null, .int 0, .int 0, .int 0, .int 0, .null, .int 0, .null, .int 0])) :: _) H locs := h
  refine lv_aload_n hx hb dX9_init_58 rfl (lv_at hl 0 rfl) ?_
  refine lv_bipush (v := 12) hx hb dX9_init_59 (by decide) ?_
  refine k_newa X h (N := 12) (by decide) (by decide) (by decide) (Nat.le_of_ble_eq_true rfl) (Nat.le_of_ble_eq_true rfl) dX9_init_61 (fun q7 H h => ?_)
  refine k_putR X h (ci := 9) (k := 11) (by decide) (by decide) (Nat.le_of_ble_eq_true rfl) (fl_in (w := 9) (j := 11) (q := 841) (by decide) (by decide)) rfl rfl rfl rfl dX9_init_63 (fun H locs h => ?_)
  have h : Wd dC dI A s ((q, .inr (9, [.ref q1, .ref q2, .int 0, .int 20, .int 0, .ref q3, .ref q4, .ref q5, .int 0, .int 0, .ref q6, .ref q7, .null, .null, .int 0, .int 0, .int 0, .int 0, .null, .int 0, .null, .int 0])) :: _) H locs := h
  refine lv_aload_n hx hb dX9_init_66 rfl (lv_at hl 0 rfl) ?_
  refine k_new X h (ci := 8) (by decide) (mem_G (q := 707) rfl rfl) (mem_G (q := 708) rfl rfl) (mem_G (q := 69) rfl rfl) (Nat.le_of_ble_eq_true rfl) (Nat.le_of_ble_eq_true rfl) dX9_init_67 (fun q8 H h => ?_)
  refine lv_dup hx hb dX9_init_70 rfl ?_
  refine k_callN (rest := [.ref q8, .ref q]) (As := []) X hml hl.1 h (c_X8_init 4) (mem_G (q := 711) rfl rfl) (List.mem_of_getElem? (i := 709) rfl) (mem_G (q := 710) rfl rfl) (mem_G (q := 69) rfl rfl) ⟨rfl, by decide +kernel, by decide +kernel, by decide +kernel⟩ ⟨Nat.le_of_ble_eq_true rfl, Nat.le_of_ble_eq_true rfl⟩ (Nat.le_of_ble_eq_true rfl) ⟨Nat.le_of_ble_eq_true rfl, Nat.le_of_ble_eq_true rfl⟩ dX9_init_71 (fun ad1 H locs ead1 h => ?_)
  refine k_putR X h (ci := 9) (k := 12) (by decide) (by decide) (Nat.le_of_ble_eq_true rfl) (fl_in (w := 9) (j := 12) (q := 842) (by decide) (by decide)) rfl rfl rfl rfl dX9_init_74 (fun H locs h => ?_)
  have h : Wd dC dI A s ((q, .inr (9, [.ref q1, .ref q2, .int 0, .int 20, .int 0, .ref q3, .ref q4, .ref q5, .int 0, .int 0, .ref q6, .ref q7, .ref q8, .null, .int 0, .int 0, .int 0, .int 0, .null, .int 0, .null, .int 0])) :: _) H locs := h
  refine lv_aload_n hx hb dX9_init_77 rfl (lv_at hl 0 rfl) ?_
  refine k_new X h (ci := 8) (by decide) (mem_G (q := 707) rfl rfl) (mem_G (q := 708) rfl rfl) (mem_G (q := 69) rfl rfl) (Nat.le_of_ble_eq_true rfl) (Nat.le_of_ble_eq_true rfl) dX9_init_78 (fun q9 H h => ?_)
  refine lv_dup hx hb dX9_init_81 rfl ?_
  refine k_callN (rest := [.ref q9, .ref q]) (As := []) X hml hl.1 h (c_X8_init 5) (mem_G (q := 711) rfl rfl) (List.mem_of_getElem? (i := 709) rfl) (mem_G (q := 710) rfl rfl) (mem_G (q := 69) rfl rfl) ⟨rfl, by decide +kernel, by decide +kernel, by decide +kernel⟩ ⟨Nat.le_of_ble_eq_true rfl, Nat.le_of_ble_eq_true rfl⟩ (Nat.le_of_ble_eq_true rfl) ⟨Nat.le_of_ble_eq_true rfl, Nat.le_of_ble_eq_true rfl⟩ dX9_init_82 (fun ad2 H locs ead2 h => ?_)
  refine k_putR X h (ci := 9) (k := 13) (by decide) (by decide) (Nat.le_of_ble_eq_true rfl) (fl_in (w := 9) (j := 13) (q := 843) (by decide) (by decide)) rfl rfl rfl rfl dX9_init_85 (fun H locs h => ?_)
  have h : Wd dC dI A s ((q, .inr (9, [.ref q1, .ref q2, .int 0, .int 20, .int 0, .ref q3, .ref q4, .ref q5, .int 0, .int 0, .ref q6, .ref q7, .ref q8, .ref q9, .int 0, .int 0, .int 0, .int 0, .null, .int 0, .null, .int 0])) :: _) H locs := h
  refine lv_aload_n hx hb dX9_init_88 rfl (lv_at hl 0 rfl) ?_
  refine lv_bipush (v := 120) hx hb dX9_init_89 (by decide) ?_
  refine k_newa X h (N := 120) (by decide) (by decide) (by decide) (Nat.le_of_ble_eq_true rfl) (Nat.le_of_ble_eq_true rfl) dX9_init_91 (fun q10 H h => ?_)
  refine k_putR X h (ci := 9) (k := 18) (by decide) (by decide) (Nat.le_of_ble_eq_true rfl) (fl_in (w := 9) (j := 18) (q := 848) (by decide) (by decide)) rfl rfl rfl rfl dX9_init_93 (fun H locs h => ?_)
  have h : Wd dC dI A s ((q, .inr (9, [.ref q1, .ref q2, .int 0, .int 20, .int 0, .ref q3, .ref q4, .ref q5, .int 0, .int 0, .ref q6, .ref q7, .ref q8, .ref q9, .int 0, .int 0, .int 0, .int 0, .ref q10, .int 0, .null, .int 0])) :: _) H locs := h
  refine lv_aload_n hx hb dX9_init_96 rfl (lv_at hl 0 rfl) ?_
  refine lv_bipush (v := 100) hx hb dX9_init_97 (by decide) ?_
  refine k_newa X h (N := 100) (by decide) (by decide) (by decide) (Nat.le_of_ble_eq_true rfl) (Nat.le_of_ble_eq_true rfl) dX9_init_99 (fun q11 H h => ?_)
  refine k_putR X h (ci := 9) (k := 20) (by decide) (by decide) (Nat.le_of_ble_eq_true rfl) (fl_in (w := 9) (j := 20) (q := 850) (by decide) (by decide)) rfl rfl rfl rfl dX9_init_101 (fun H locs h => ?_)
  have h : Wd dC dI A s ((q, .inr (9, [.ref q1, .ref q2, .int 0, .int 20, .int 0, .ref q3, .ref q4, .ref q5, .int 0, .int 0, .ref q6, .ref q7, .ref q8, .ref q9, .int 0, .int 0, .int 0, .int 0, .ref q10, .int 0, .ref q11, .int 0])) :: _) H locs := h
  rw [← (show ad1 4 60 0 = q8 from ead1)] at h
  rw [← (show ad2 5 60 0 = q9 from ead2)] at h
  have h : Wd dC dI A s ([(q, .inr (9, [.ref q1, .ref q2, .int 0, .int 20, .int 0, .ref q3, .ref q4, .ref q5, .int 0, .int 0, .ref q6, .ref q7, .ref (ad1 4 60 0), .ref (ad2 5 60 0), .int 0, .int 0, .int 0, .int 0, .ref q10, .int 0, .ref q11, .int 0])), (q1, .inl (cI, 54, .inl (fun _ => 0))), (q2, .inl (cI, 6, .inl (fun _ => 0))), (q3, .inl (cI, 40, .inl (fun _ => 0))), (q4, .inl (cI, 40, .inl (fun _ => 0))), (q5, .inl (cI, 40, .inl (fun _ => 0))), (q6, .inl (cI, 12, .inl (fun _ => 0))), (q7, .inl (cI, 12, .inl (fun _ => 0))), (ad1 4 60 0, .inr (8, [.int 0, .ref (ad1 4 61 0), .ref (ad1 4 62 0), .ref (ad1 4 63 0), .ref (ad1 4 64 0), .ref (ad1 4 65 0), .ref (ad1 4 66 0), .ref (ad1 4 67 0), .ref (ad1 4 68 0), .ref (ad1 4 69 0), .ref (ad1 4 70 0), .ref (ad1 4 71 0), .ref (ad1 4 72 0), .ref (ad1 4 73 0), .ref (ad1 4 74 0), .int 0, .int 0, .ref (ad1 4 75 0), .ref (ad1 4 76 0), .ref (ad1 4 77 0), .ref (ad1 4 78 0), .ref (ad1 4 79 0), .int 0, .int 0, .int 0, .int 0, .int 0, .int 0, .int 0])), (ad1 4 61 0, .inl (cI, 6, .inl (fun _ => 0))), (ad1 4 62 0, .inl (cI, 6, .inl (fun _ => 0))), (ad1 4 63 0, .inl (cI, 78, .inl (fun _ => 0))), (ad1 4 64 0, .inl (cI, 48, .inl (fun _ => 0))), (ad1 4 65 0, .inl (cI, 120, .inl (fun _ => 0))), (ad1 4 66 0, .inl (cI, 6, .inl (fun _ => 0))), (ad1 4 67 0, .inl (cI, 120, .inl (fun _ => 0))), (ad1 4 68 0, .inl (cI, 120, .inl (fun _ => 0))), (ad1 4 69 0, .inl (cI, 120, .inl (fun _ => 0))), (ad1 4 70 0, .inl (cI, 120, .inl (fun _ => 0))), (ad1 4 71 0, .inl (cI, 120, .inl (fun _ => 0))), (ad1 4 72 0, .inl (cI, 120, .inl (fun _ => 0))), (ad1 4 73 0, .inl (cI, 120, .inl (fun _ => 0))), (ad1 4 74 0, .inl (cI, 120, .inl (fun _ => 0))), (ad1 4 75 0, .inl (cI, 100, .inl (fun _ => 0))), (ad1 4 76 0, .inl (cI, 100, .inl (fun _ => 0))), (ad1 4 77 0, .inl (cI, 100, .inl (fun _ => 0))), (ad1 4 78 0, .inl (cI, 100, .inl (fun _ => 0))), (ad1 4 79 0, .inl (cI, 100, .inl (fun _ => 0)))] ++ (sw cI cS [(5, 60, 0), (5, 61, 0), (5, 62, 0), (5, 63, 0), (5, 64, 0), (5, 65, 0), (5, 66, 0), (5, 67, 0), (5, 68, 0), (5, 69, 0), (5, 70, 0), (5, 71, 0), (5, 72, 0), (5, 73, 0), (5, 74, 0), (5, 75, 0), (5, 76, 0), (5, 77, 0), (5, 78, 0), (5, 79, 0)] ad2 μZ ++ [(q10, .inl (cI, 120, .inl (fun _ => 0))), (q11, .inl (cI, 100, .inl (fun _ => 0)))])) H locs := h
  refine W.widen (k := 49) (n := 3930) (Nat.le_of_ble_eq_true rfl) (Nat.le_of_ble_eq_true rfl) ?_
  refine lv_aload_n hx hb dX9_init_104 rfl (lv_at hl 0 rfl) ?_
  refine k_get X h (ci := 9) (k := 12) (v := .ref (ad1 4 60 0)) (by decide) (by decide) (fl_in (w := 9) (j := 12) (q := 842) (by decide) (by decide)) rfl dX9_init_105 ?_
  refine lv_iconst (v := 1) hx hb dX9_init_108 (by decide) ?_
  refine va_putN (D := (dC, dI)) (ci := 8) (v := .int 1) (ty := tyK 8 28) (C := (clT 8).1) (T := (clT 8).2.1) (N := cN 8) hx hb X.2.2.2.1 (lays_in 8 (by decide)) (tyK 8) (tyK_ok (by decide)).1 (tyK_ok (by decide)).2 X.2.2.1 X.2.2.2.2.1.1 h.1 h.2.1 h.2.2 8 (fs := [.int 0, .ref (ad1 4 61 0), .ref (ad1 4 62 0), .ref (ad1 4 63 0), .ref (ad1 4 64 0), .ref (ad1 4 65 0), .ref (ad1 4 66 0), .ref (ad1 4 67 0), .ref (ad1 4 68 0), .ref (ad1 4 69 0), .ref (ad1 4 70 0), .ref (ad1 4 71 0), .ref (ad1 4 72 0), .ref (ad1 4 73 0), .ref (ad1 4 74 0), .int 0, .int 0, .ref (ad1 4 75 0), .ref (ad1 4 76 0), .ref (ad1 4 77 0), .ref (ad1 4 78 0), .ref (ad1 4 79 0), .int 0, .int 0, .int 0, .int 0, .int 0, .int 0, .int 0]) rfl (cls_at (by decide)) 28 (by decide) (va_Nw.use rfl (X.2.2.2.2.1.2.2.2.1 _ (List.mem_of_getElem? (fT_spec (w := 9) (i := 51) (c := 8) (j := 28) (b := true) (q := 769) (by decide) (by decide)).1) rfl)) (fun _ z => z) rfl ((tyK_ok (ci := 8) (by decide)).1 28 (by decide)) rfl rfl (Nat.le_of_ble_eq_true rfl) dX9_init_109 (fun H locs hP1 hD1 hS1 => ?_)
  have h : Wd dC dI A s ([(q, .inr (9, [.ref q1, .ref q2, .int 0, .int 20, .int 0, .ref q3, .ref q4, .ref q5, .int 0, .int 0, .ref q6, .ref q7, .ref (ad1 4 60 0), .ref (ad2 5 60 0), .int 0, .int 0, .int 0, .int 0, .ref q10, .int 0, .ref q11, .int 0])), (q1, .inl (cI, 54, .inl (fun _ => 0))), (q2, .inl (cI, 6, .inl (fun _ => 0))), (q3, .inl (cI, 40, .inl (fun _ => 0))), (q4, .inl (cI, 40, .inl (fun _ => 0))), (q5, .inl (cI, 40, .inl (fun _ => 0))), (q6, .inl (cI, 12, .inl (fun _ => 0))), (q7, .inl (cI, 12, .inl (fun _ => 0))), (ad1 4 60 0, .inr (8, [.int 0, .ref (ad1 4 61 0), .ref (ad1 4 62 0), .ref (ad1 4 63 0), .ref (ad1 4 64 0), .ref (ad1 4 65 0), .ref (ad1 4 66 0), .ref (ad1 4 67 0), .ref (ad1 4 68 0), .ref (ad1 4 69 0), .ref (ad1 4 70 0), .ref (ad1 4 71 0), .ref (ad1 4 72 0), .ref (ad1 4 73 0), .ref (ad1 4 74 0), .int 0, .int 0, .ref (ad1 4 75 0), .ref (ad1 4 76 0), .ref (ad1 4 77 0), .ref (ad1 4 78 0), .ref (ad1 4 79 0), .int 0, .int 0, .int 0, .int 0, .int 0, .int 0, .int 1])), (ad1 4 61 0, .inl (cI, 6, .inl (fun _ => 0))), (ad1 4 62 0, .inl (cI, 6, .inl (fun _ => 0))), (ad1 4 63 0, .inl (cI, 78, .inl (fun _ => 0)))] ++ (ad1 4 64 0, .inl (cI, 48, .inl (fun _ => 0))) :: ([(ad1 4 65 0, .inl (cI, 120, .inl (fun _ => 0))), (ad1 4 66 0, .inl (cI, 6, .inl (fun _ => 0))), (ad1 4 67 0, .inl (cI, 120, .inl (fun _ => 0))), (ad1 4 68 0, .inl (cI, 120, .inl (fun _ => 0))), (ad1 4 69 0, .inl (cI, 120, .inl (fun _ => 0))), (ad1 4 70 0, .inl (cI, 120, .inl (fun _ => 0))), (ad1 4 71 0, .inl (cI, 120, .inl (fun _ => 0))), (ad1 4 72 0, .inl (cI, 120, .inl (fun _ => 0))), (ad1 4 73 0, .inl (cI, 120, .inl (fun _ => 0))), (ad1 4 74 0, .inl (cI, 120, .inl (fun _ => 0))), (ad1 4 75 0, .inl (cI, 100, .inl (fun _ => 0))), (ad1 4 76 0, .inl (cI, 100, .inl (fun _ => 0))), (ad1 4 77 0, .inl (cI, 100, .inl (fun _ => 0))), (ad1 4 78 0, .inl (cI, 100, .inl (fun _ => 0))), (ad1 4 79 0, .inl (cI, 100, .inl (fun _ => 0)))] ++ (sw cI cS [(5, 60, 0), (5, 61, 0), (5, 62, 0), (5, 63, 0), (5, 64, 0), (5, 65, 0), (5, 66, 0), (5, 67, 0), (5, 68, 0), (5, 69, 0), (5, 70, 0), (5, 71, 0), (5, 72, 0), (5, 73, 0), (5, 74, 0), (5, 75, 0), (5, 76, 0), (5, 77, 0), (5, 78, 0), (5, 79, 0)] ad2 μZ ++ [(q10, .inl (cI, 120, .inl (fun _ => 0))), (q11, .inl (cI, 100, .inl (fun _ => 0)))]))) H locs := ⟨hP1, hD1, hS1⟩
  refine lv_iconst (v := nI 0) hx hb dX9_init_112 (by decide) ?_
  refine lv_istore_n (lv' := [(1, .int (nI 0)), (0, .ref q)]) hx hb dX9_init_113 rfl hl (by decide) rfl (fun ls hl => ?_)
  refine m_loop1 X rfl (FM := [.ref q1, .ref q2, .int 0, .int 20, .int 0, .ref q3, .ref q4, .ref q5, .int 0, .int 0, .ref q6, .ref q7, .ref (ad1 4 60 0), .ref (ad2 5 60 0), .int 0, .int 0, .int 0, .int 0, .ref q10, .int 0, .ref q11, .int 0]) (FH := [.int 0, .ref (ad1 4 61 0), .ref (ad1 4 62 0), .ref (ad1 4 63 0), .ref (ad1 4 64 0), .ref (ad1 4 65 0), .ref (ad1 4 66 0), .ref (ad1 4 67 0), .ref (ad1 4 68 0), .ref (ad1 4 69 0), .ref (ad1 4 70 0), .ref (ad1 4 71 0), .ref (ad1 4 72 0), .ref (ad1 4 73 0), .ref (ad1 4 74 0), .int 0, .int 0, .ref (ad1 4 75 0), .ref (ad1 4 76 0), .ref (ad1 4 77 0), .ref (ad1 4 78 0), .ref (ad1 4 79 0), .int 0, .int 0, .int 0, .int 0, .int 0, .int 0, .int 1]) (qh := ad1 4 60 0) rfl rfl rfl rfl (fun H locs ls hl h => ?_) 48 0 (by omega) (fun _ => 0) (fun i hi => absurd hi (by omega)) H locs ls hl h
  have h : Wd dC dI A s ([(q, .inr (9, [.ref q1, .ref q2, .int 0, .int 20, .int 0, .ref q3, .ref q4, .ref q5, .int 0, .int 0, .ref q6, .ref q7, .ref (ad1 4 60 0), .ref (ad2 5 60 0), .int 0, .int 0, .int 0, .int 0, .ref q10, .int 0, .ref q11, .int 0])), (q1, .inl (cI, 54, .inl (fun _ => 0))), (q2, .inl (cI, 6, .inl (fun _ => 0))), (q3, .inl (cI, 40, .inl (fun _ => 0))), (q4, .inl (cI, 40, .inl (fun _ => 0))), (q5, .inl (cI, 40, .inl (fun _ => 0))), (q6, .inl (cI, 12, .inl (fun _ => 0))), (q7, .inl (cI, 12, .inl (fun _ => 0))), (ad1 4 60 0, .inr (8, [.int 0, .ref (ad1 4 61 0), .ref (ad1 4 62 0), .ref (ad1 4 63 0), .ref (ad1 4 64 0), .ref (ad1 4 65 0), .ref (ad1 4 66 0), .ref (ad1 4 67 0), .ref (ad1 4 68 0), .ref (ad1 4 69 0), .ref (ad1 4 70 0), .ref (ad1 4 71 0), .ref (ad1 4 72 0), .ref (ad1 4 73 0), .ref (ad1 4 74 0), .int 0, .int 0, .ref (ad1 4 75 0), .ref (ad1 4 76 0), .ref (ad1 4 77 0), .ref (ad1 4 78 0), .ref (ad1 4 79 0), .int 0, .int 0, .int 0, .int 0, .int 0, .int 0, .int 1]))] ++ (ad1 4 61 0, .inl (cI, 6, .inl (fun _ => 0))) :: ([(ad1 4 62 0, .inl (cI, 6, .inl (fun _ => 0))), (ad1 4 63 0, .inl (cI, 78, .inl (fun _ => 0))), (ad1 4 64 0, .inl (cI, 48, .inl (fun _ => -4))), (ad1 4 65 0, .inl (cI, 120, .inl (fun _ => 0))), (ad1 4 66 0, .inl (cI, 6, .inl (fun _ => 0))), (ad1 4 67 0, .inl (cI, 120, .inl (fun _ => 0))), (ad1 4 68 0, .inl (cI, 120, .inl (fun _ => 0))), (ad1 4 69 0, .inl (cI, 120, .inl (fun _ => 0))), (ad1 4 70 0, .inl (cI, 120, .inl (fun _ => 0))), (ad1 4 71 0, .inl (cI, 120, .inl (fun _ => 0))), (ad1 4 72 0, .inl (cI, 120, .inl (fun _ => 0))), (ad1 4 73 0, .inl (cI, 120, .inl (fun _ => 0))), (ad1 4 74 0, .inl (cI, 120, .inl (fun _ => 0))), (ad1 4 75 0, .inl (cI, 100, .inl (fun _ => 0))), (ad1 4 76 0, .inl (cI, 100, .inl (fun _ => 0))), (ad1 4 77 0, .inl (cI, 100, .inl (fun _ => 0))), (ad1 4 78 0, .inl (cI, 100, .inl (fun _ => 0))), (ad1 4 79 0, .inl (cI, 100, .inl (fun _ => 0)))] ++ (sw cI cS [(5, 60, 0), (5, 61, 0), (5, 62, 0), (5, 63, 0), (5, 64, 0), (5, 65, 0), (5, 66, 0), (5, 67, 0), (5, 68, 0), (5, 69, 0), (5, 70, 0), (5, 71, 0), (5, 72, 0), (5, 73, 0), (5, 74, 0), (5, 75, 0), (5, 76, 0), (5, 77, 0), (5, 78, 0), (5, 79, 0)] ad2 μZ ++ [(q10, .inl (cI, 120, .inl (fun _ => 0))), (q11, .inl (cI, 100, .inl (fun _ => 0)))]))) H locs := h
  refine lv_iconst (v := nI 0) hx hb dX9_init_137 (by decide) ?_
  refine lv_istore_n (lv' := [(1, .int (nI 0)), (0, .ref q)]) hx hb dX9_init_138 rfl hl (by decide) rfl (fun ls hl => ?_)
  refine m_loop2 X rfl (FM := [.ref q1, .ref q2, .int 0, .int 20, .int 0, .ref q3, .ref q4, .ref q5, .int 0, .int 0, .ref q6, .ref q7, .ref (ad1 4 60 0), .ref (ad2 5 60 0), .int 0, .int 0, .int 0, .int 0, .ref q10, .int 0, .ref q11, .int 0]) (FH := [.int 0, .ref (ad1 4 61 0), .ref (ad1 4 62 0), .ref (ad1 4 63 0), .ref (ad1 4 64 0), .ref (ad1 4 65 0), .ref (ad1 4 66 0), .ref (ad1 4 67 0), .ref (ad1 4 68 0), .ref (ad1 4 69 0), .ref (ad1 4 70 0), .ref (ad1 4 71 0), .ref (ad1 4 72 0), .ref (ad1 4 73 0), .ref (ad1 4 74 0), .int 0, .int 0, .ref (ad1 4 75 0), .ref (ad1 4 76 0), .ref (ad1 4 77 0), .ref (ad1 4 78 0), .ref (ad1 4 79 0), .int 0, .int 0, .int 0, .int 0, .int 0, .int 0, .int 1]) (qh := ad1 4 60 0) rfl rfl rfl rfl (fun H locs ls hl h => ?_) 6 0 (by omega) (fun _ => 0) (fun i hi => absurd hi (by omega)) H locs ls hl h
  exact k_end X hr hlk dX9_init_161 (fun x a o => if x = 3 then [q, q1, q2, q3, q4, q5, q6, q7, q10, q11].getD (a - 40) 0 else if x = 4 then ad1 x a o else ad2 x a o) rfl h
end KC9
