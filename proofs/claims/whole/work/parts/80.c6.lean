/-! CONSTRUCTORS, 6: a service -/
section KC6
variable {l : Launch} {dC : Nat → ClassId} {dI : Nat → Nat → Nat} {cI cS : ClassId} {fz : Nat}
/-- ten ints out of the static row into a row of ten -/
theorem k_cpyT {p : Program} {e : Env} {R : Room} {s : State} {m : MethodId} {args : Array Value} {below : List Frame} {meth : Method} {c : Code} {H : Heap} {locs : List Loc} {cells slots : Nat} {Q : State → Prop} {A : Nat → Prop} {pc : Nat} {ls : Array Slot} {cc : ByteArray} {own : String} {ws : va_W} (X : CI dC dI cI cS fz A p s m args meth c cc own) {nL : Nat} (hml : c.maxLocals = nL) (hsz : ls.size = nL) (h : Wd dC dI A s ws H locs) (j : Nat) {a : Nat} {g : Nat → Int32} (ha : ws[j]? = some (a, .inl (cI, 10, .inl g))) {idx : Nat} (l1 : Cond.methodLink own idx arraycopyName ∈ tblG) (hf : 1 ≤ R.frames) (hlo : nativeFrameWords "java/lang/System" "arraycopy" 5 + 11 ≤ R.locals) (hd : decode cc pc = .ok (.invokestatic idx, 3))
    (kk : ∀ (H1 : Heap) (locs1 : List Loc), Wd dC dI A s (ws.set j (a, .inl (cI, 10, .inl (va_cpy imF g 0 0 10)))) H1 locs1 → W p l e R s m args below meth c H1 locs1 cells slots Q (F0 m (pc + 3) ls [])) : W p l e R s m args below meth c H locs cells slots Q (F0 m pc ls [.int 10, .int 0, .ref a, .int 0, .ref fz]) := by
  obtain ⟨hx, hb, hown, hts, hW, hin, hA⟩ := X
  obtain ⟨hP, hD, hS⟩ := h
  intro T hT XS
  obtain ⟨scr, y1, ⟨y6, ka, yk, cma, yc⟩, y3, y4, -, y5, y7⟩ := hW.2.1
  have hsrc : H[fz]? = some scr := by rw [hS.2.1 fz (Array.getElem?_eq_some_iff.mp y1).1 y7]; exact y1
  have hdst : H[a]? = some (vp_cell cI (10, .inl g)) := hP j _ ha
  obtain ⟨-, kb, zk, cmb, zc⟩ := (hW.1.2 0 (cI, .int) rfl).1 10 (fun i => .int (g i))
  obtain ⟨vm', XS', st⟩ := XS.arraycopy hx hown (hts _ l1) (hts _ (mem_G (q := 290) rfl rfl)) (hts _ (mem_G (q := 289) rfl rfl)) (hts _ (mem_G (q := 66) rfl rfl)) (src := fz) (dst := a) (cs := scr) (cd := vp_cell cI (10, .inl g)) (srcPos := 0) (destPos := 0) (n := 10) (by rw [hT]; exact hsrc) (by rw [hT]; exact hdst) y6 (fun _ w => by cases w) y3 (fun w => by cases w) yk zk yc zc (by simp [refKind]) (by decide) (by decide) (by decide)
    (by
      have : ((0 : Int32).toInt + (10 : Int32).toInt) = 10 := by decide
      rw [this]; omega)
    (by
      show ¬ _ > ((arrV cI 10 (fun i => .int (g i))).slots.size : Int)
      rw [arrV_size]; decide)
    (fun vm₁ _ i hi => by
      have hi' : i < 10 := hi
      have ez : scr.slots.getD ((0 : Int32).toNatClampNeg + i) .null = .int (imF i) := by
        rw [show (0 : Int32).toNatClampNeg + i = i from Nat.zero_add i, Array.getD_eq_getD_getElem?, y5 i hi']
        rfl
      exact ⟨by rw [ez]; rfl, by rw [ez]; exact trivial⟩)
    (g := F0 m pc ls [.int 10, .int 0, .ref a, .int 0, .ref fz]) rfl (hsz.trans hml.symm) (rest := []) rfl (by rw [hb]; exact hd) hf (by show 2 * 0 + 0 + _ ≤ _; omega)
  have ec : copied scr (vp_cell cI (10, .inl g)) 0 0 10 = vp_cell cI (10, .inl (va_cpy imF g 0 0 10)) := va_copiedX (fun z => .int z) scr cI imF g (n0 := 10) (n1 := 10) (sp := 0) (dp := 0) (n := 10) y5 (by decide)
  rw [ec] at XS' st
  have hlt : a < H.size := (Array.getElem?_eq_some_iff.mp hdst).1
  have hheap : ((T.setVm vm').setCell a (vp_cell cI (10, .inl (va_cpy imF g 0 0 10)))).heap = H.setIfInBounds a (vp_cell cI (10, .inl (va_cpy imF g 0 0 10))) := by rw [← hT]; rfl
  have oq : ∀ q : Nat, q ≠ a → (H.setIfInBounds a (vp_cell cI (10, .inl (va_cpy imF g 0 0 10))))[q]? = H[q]? := fun q hq => by simp [Array.getElem?_setIfInBounds, Ne.symm hq]
  have inA : A a := hD.2 j _ ha
  obtain ⟨t, u1, u2⟩ := kk _ _ ⟨hP.set hD ha (show (H.setIfInBounds a _)[a]? = some _ by simp [Array.getElem?_setIfInBounds, hlt]) oq, hD.set ha, ⟨by simp; exact hS.1, fun q g1 g2 => by
      rw [oq q (fun eq => g2 (by rw [eq]; exact inA))]
      exact hS.2.1 q g1 g2, fun q hq => by
      rcases List.mem_append.mp hq with w | w
      · exact hS.2.2 q w
      · obtain ⟨z, -, hz⟩ := List.mem_map.mp w
        rw [← hz]
        exact inA⟩⟩ _ hheap XS'
  exact ⟨t, st _ u1, u2⟩
theorem fill_loop {p : Program} {e : Env} {R : Room} {s : State} {m : MethodId} {args : Array Value} {below : List Frame} {meth : Method} {c : Code} {A : Nat → Prop} {a0 : Nat} {v : Int32} (hx : p.tables.exec = Jvm.exec) (hb : c.code = cJ7_fill_53178) (hK : va_K (dC, dI) cls10 [(cI, .int)] s) (hr : meth.sig.returnType = none) (hlk : meth.locks = false) :
    ∀ (z k : Nat), z + k = 8 → ∀ (f : Nat → Int32), (∀ i, i < k → f i = v) → ∀ (H : Heap) (locs : List Loc) (ls : Array Slot), lv_has ls 4 [(2, .int (nI k)), (3, .int (nI 8)), (0, .ref a0), (1, .int v)] → Wd dC dI A s [(a0, .inl (cI, 8, .inl f))] H locs → W p l e R s m args below meth c H locs 0 0 (MQ below (va_Qv (fun _ : Unit => True) (fun _ t => va_P (dC, dI) cls10 [(a0, .inl (cI, 8, .inl (fun _ => v)))] t.heap) A) args s 0 0 A) (F0 m 5 ls []) := by
  intro z
  induction z with
  | zero =>
    intro k hk f hf H locs ls hl h
    have hk2 : k = 8 := by omega
    subst hk2
    refine lv_iload_n hx hb dJ7_fill_53178_5 rfl (lv_at hl 0 rfl) ?_
    refine lv_iload_n hx hb dJ7_fill_53178_6 rfl (lv_at hl 1 rfl) ?_
    refine lv_icmp_ge (tgt := 20) hx hb dJ7_fill_53178_7 (by decide) (fun _ => ?_) (fun g => absurd ((nI_leI (by decide) (by decide)).mpr (Nat.le_refl 8)) g)
    have h := Wd.arr (w1 := []) (w2 := []) (g := fun _ => v) h hf
    exact W.vret hx hb hr (fun t ht hW => ⟨⟨(), rfl, trivial, by show va_P _ _ _ t.heap; rw [ht]; exact h.1⟩, h.2.2.F ht⟩) h.2.2.2.2 dJ7_fill_53178_20 hlk
  | succ z ih =>
    intro k hk f hf H locs ls hl h
    refine lv_iload_n hx hb dJ7_fill_53178_5 rfl (lv_at hl 0 rfl) ?_
    refine lv_iload_n hx hb dJ7_fill_53178_6 rfl (lv_at hl 1 rfl) ?_
    refine lv_icmp_ge (tgt := 20) hx hb dJ7_fill_53178_7 (by decide) (fun g => absurd ((nI_leI (by decide) (by omega)).mp g) (by omega)) (fun _ => ?_)
    refine lv_aload_n hx hb dJ7_fill_53178_10 rfl (lv_at hl 2 rfl) ?_
    refine lv_iload_n hx hb dJ7_fill_53178_11 rfl (lv_at hl 0 rfl) ?_
    refine lv_iload_n hx hb dJ7_fill_53178_12 rfl (lv_at hl 3 rfl) ?_
    refine va_iast (D := (dC, dI)) hx hb hK h.1 h.2.1 h.2.2 0 0 (cA := cI) (n := 8) (f := f) rfl rfl (vp_in_nI (by omega) (by decide)) dJ7_fill_53178_13 (fun H1 locs1 hP1 hD1 hS1 => ?_)
    refine lv_iinc (k := 0) (v := nI (k + 1)) (lv' := [(2, .int (nI (k + 1))), (3, .int (nI 8)), (0, .ref a0), (1, .int v)]) hx hb dJ7_fill_53178_14 hl rfl (nI_1 k) (by decide) rfl (fun ls hl => ?_)
    refine lv_goto (tgt := 5) hx hb dJ7_fill_53178_17 (by decide) ?_
    refine ih (k + 1) (by omega) (upd f (nI k).toNatClampNeg v) (fun i hi => ?_) H1 locs1 ls hl ⟨hP1, hD1, hS1⟩
    rw [nI_cl (by omega)]
    unfold upd
    by_cases hik : i = k
    · rw [if_pos hik]
    · rw [if_neg hik]; exact hf i (by omega)
theorem c_fill (a0 sz : Nat) (f : Nat → Int32) (v : Int32) : Met l yJ7_fill_53178 (Cond.code yJ7_fill_53178 cJ7_fill_53178 4 none :: tblG) { frames := 0, cells := 0, slots := 0, locals := 0 } (va_Pc [.ref a0, .int v] (fun U => U.heap.size = sz ∧ va_P (dC, dI) cls10 [(a0, .inl (cI, 8, .inl f))] U.heap ∧ va_K (dC, dI) cls10 [(cI, .int)] U)) (va_Qv (fun _ : Unit => True) (fun _ t => va_P (dC, dI) cls10 [(a0, .inl (cI, 8, .inl (fun _ => v)))] t.heap) (va_A [(a0, .inl (cI, 8, .inl f))] sz)) 0 0 (va_A [(a0, .inl (cI, 8, .inl f))] sz) := by
  refine Met.ofW2 (cc := cJ7_fill_53178) (maxL := 4) (ret := none) (by decide) rfl ?_
  intro p e s m args below meth c s₁ B hml hv
  obtain ⟨rfl, hsz, hP, hK⟩ := hv
  subst hsz
  have hx := B.exec
  have hb := B.bytes
  have hl := lv_entry ([.ref a0, .int v]) (n := 4) (Nat.le_of_ble_eq_true rfl)
  rw [lg_entry_eq]
  generalize (lg_sl ([.ref a0, .int v]) ++ List.replicate (4 - (lg_sl ([.ref a0, .int v])).length) Slot.unset).toArray = ls at hl ⊢
  have hl : lv_has ls 4 [(0, .ref a0), (1, .int v)] := hl
  have h : Wd dC dI (va_A [(a0, .inl (cI, 8, .inl f))] s.heap.size) s [(a0, .inl (cI, 8, .inl f))] s.heap [] := ⟨hP, vD_mem.mpr ⟨by simp, fun x hx => by
    rw [List.mem_singleton] at hx
    subst hx
    exact Or.inl ⟨0, _, rfl⟩⟩, va_S.rf⟩
  refine lv_iconst (v := nI 0) hx hb dJ7_fill_53178_0 (by decide) ?_
  refine lv_istore_n (lv' := [(2, .int (nI 0)), (0, .ref a0), (1, .int v)]) hx hb dJ7_fill_53178_1 rfl hl (by decide) rfl (fun ls hl => ?_)
  refine lv_aload_n hx hb dJ7_fill_53178_2 rfl (lv_at hl 1 rfl) ?_
  refine va_alen (D := (dC, dI)) (v := nI 8) hx hb hK h.1 0 0 rfl (ty := .int) rfl rfl dJ7_fill_53178_3 ?_
  refine lv_istore_n (lv' := [(3, .int (nI 8)), (2, .int (nI 0)), (0, .ref a0), (1, .int v)]) hx hb dJ7_fill_53178_4 rfl hl (by decide) rfl (fun ls hl => ?_)
  have hl := lv_sub hl (l' := [(2, .int (nI 0)), (3, .int (nI 8)), (0, .ref a0), (1, .int v)]) [1, 0, 2, 3] rfl
  exact fill_loop hx hb hK B.returns B.notSynchronized 8 0 (by omega) f (fun i hi => absurd hi (by omega)) s.heap [] ls hl h
set_option maxRecDepth 20000 in
theorem c_X5_init (r o : Nat) : CtM l dC dI cI cS fz yX5_init cX5_init 1 { frames := 1, cells := 4, slots := 45, locals := 60 } 5 [] [(r, 3, o), (r, 4, o), (r, 5, o), (r, 7, o), (r, 6, o)] (r, 3, o) μZ := by
  refine k_begin (by decide) rfl (by decide) rfl ?_
  intro p e s m below meth c q ls A X hml hr hlk hl ht h
  have hl := lh1 hl ht
  have hx := X.1
  have hb := X.2.1
  have X : CI dC dI cI cS fz A p s m _ meth c _ (ow 5) := X
  have h : Wd dC dI A s ((q, .inr (5, [.null, .null, .null, .null, .int 0, .int 0, .int 0, .int 0])) :: []) s.heap [] := h
  refine lv_aload_n hx hb dX5_init_0 rfl (lv_at hl 0 rfl) ?_
  refine k_obj X hml hl.1 (mem_G (q := 285) rfl rfl) (Nat.le_of_ble_eq_true rfl) (Nat.le_of_ble_eq_true rfl) dX5_init_1 ?_
  refine lv_aload_n hx hb dX5_init_4 rfl (lv_at hl 0 rfl) ?_
  refine lv_bipush (v := 10) hx hb dX5_init_5 (by decide) ?_
  refine k_newa X h (N := 10) (by decide) (by decide) (by decide) (Nat.le_of_ble_eq_true rfl) (Nat.le_of_ble_eq_true rfl) dX5_init_7 (fun q1 H h => ?_)
  refine k_putR X h (ci := 5) (k := 0) (by decide) (by decide) (Nat.le_of_ble_eq_true rfl) (fl_in (w := 5) (j := 0) (q := 294) (by decide) (by decide)) rfl rfl rfl rfl dX5_init_9 (fun H locs h => ?_)
  have h : Wd dC dI A s ((q, .inr (5, [.ref q1, .null, .null, .null, .int 0, .int 0, .int 0, .int 0])) :: _) H locs := h
  refine lv_aload_n hx hb dX5_init_12 rfl (lv_at hl 0 rfl) ?_
  refine lv_bipush (v := 7) hx hb dX5_init_13 (by decide) ?_
  refine k_newa X h (N := 7) (by decide) (by decide) (by decide) (Nat.le_of_ble_eq_true rfl) (Nat.le_of_ble_eq_true rfl) dX5_init_15 (fun q2 H h => ?_)
  refine k_putR X h (ci := 5) (k := 1) (by decide) (by decide) (Nat.le_of_ble_eq_true rfl) (fl_in (w := 5) (j := 1) (q := 297) (by decide) (by decide)) rfl rfl rfl rfl dX5_init_17 (fun H locs h => ?_)
  have h : Wd dC dI A s ((q, .inr (5, [.ref q1, .ref q2, .null, .null, .int 0, .int 0, .int 0, .int 0])) :: _) H locs := h
  refine lv_aload_n hx hb dX5_init_20 rfl (lv_at hl 0 rfl) ?_
  refine lv_bipush (v := 8) hx hb dX5_init_21 (by decide) ?_
  refine k_newa X h (N := 8) (by decide) (by decide) (by decide) (Nat.le_of_ble_eq_true rfl) (Nat.le_of_ble_eq_true rfl) dX5_init_23 (fun q3 H h => ?_)
  refine k_putR X h (ci := 5) (k := 2) (by decide) (by decide) (Nat.le_of_ble_eq_true rfl) (fl_in (w := 5) (j := 2) (q := 300) (by decide) (by decide)) rfl rfl rfl rfl dX5_init_25 (fun H locs h => ?_)
  have h : Wd dC dI A s ((q, .inr (5, [.ref q1, .ref q2, .ref q3, .null, .int 0, .int 0, .int 0, .int 0])) :: _) H locs := h
  refine lv_aload_n hx hb dX5_init_28 rfl (lv_at hl 0 rfl) ?_
  refine lv_bipush (v := 20) hx hb dX5_init_29 (by decide) ?_
  refine k_newa X h (N := 20) (by decide) (by decide) (by decide) (Nat.le_of_ble_eq_true rfl) (Nat.le_of_ble_eq_true rfl) dX5_init_31 (fun q4 H h => ?_)
  refine k_putR X h (ci := 5) (k := 3) (by decide) (by decide) (Nat.le_of_ble_eq_true rfl) (fl_in (w := 5) (j := 3) (q := 303) (by decide) (by decide)) rfl rfl rfl rfl dX5_init_33 (fun H locs h => ?_)
  have h : Wd dC dI A s ((q, .inr (5, [.ref q1, .ref q2, .ref q3, .ref q4, .int 0, .int 0, .int 0, .int 0])) :: _) H locs := h
  refine lv_aload_n hx hb dX5_init_36 rfl (lv_at hl 0 rfl) ?_
  refine lv_iconst (v := 0) hx hb dX5_init_37 (by decide) ?_
  refine k_putI X h (ci := 5) (k := 4) (by decide) (by decide) (Nat.le_of_ble_eq_true rfl) (fl_in (w := 5) (j := 4) (q := 305) (by decide) (by decide)) rfl rfl rfl dX5_init_38 (fun H locs h => ?_)
  have h : Wd dC dI A s ((q, .inr (5, [.ref q1, .ref q2, .ref q3, .ref q4, .int 0, .int 0, .int 0, .int 0])) :: _) H locs := h
  refine lv_aload_n hx hb dX5_init_41 rfl (lv_at hl 0 rfl) ?_
  refine lv_iconst (v := 0) hx hb dX5_init_42 (by decide) ?_
  refine k_putI X h (ci := 5) (k := 5) (by decide) (by decide) (Nat.le_of_ble_eq_true rfl) (fl_in (w := 5) (j := 5) (q := 308) (by decide) (by decide)) rfl rfl rfl dX5_init_43 (fun H locs h => ?_)
  have h : Wd dC dI A s ((q, .inr (5, [.ref q1, .ref q2, .ref q3, .ref q4, .int 0, .int 0, .int 0, .int 0])) :: _) H locs := h
  refine lv_aload_n hx hb dX5_init_46 rfl (lv_at hl 0 rfl) ?_
  refine lv_bipush (v := -4) hx hb dX5_init_47 (by decide) ?_
  refine k_putI X h (ci := 5) (k := 6) (by decide) (by decide) (Nat.le_of_ble_eq_true rfl) (fl_in (w := 5) (j := 6) (q := 310) (by decide) (by decide)) rfl rfl rfl dX5_init_49 (fun H locs h => ?_)
  have h : Wd dC dI A s ((q, .inr (5, [.ref q1, .ref q2, .ref q3, .ref q4, .int 0, .int 0, .int (-4), .int 0])) :: _) H locs := h
  refine lv_aload_n hx hb dX5_init_52 rfl (lv_at hl 0 rfl) ?_
  refine lv_iconst (v := 0) hx hb dX5_init_53 (by decide) ?_
  refine k_putI X h (ci := 5) (k := 7) (by decide) (by decide) (Nat.le_of_ble_eq_true rfl) (fl_in (w := 5) (j := 7) (q := 313) (by decide) (by decide)) rfl rfl rfl dX5_init_54 (fun H locs h => ?_)
  have h : Wd dC dI A s ((q, .inr (5, [.ref q1, .ref q2, .ref q3, .ref q4, .int 0, .int 0, .int (-4), .int 0])) :: _) H locs := h
  refine va_getsN hx hb X.2.2.2.2.1.2.2.1 h.2.2 X.2.2.1 (va_Nw.use rfl (X.2.2.2.2.1.2.2.2.1 _ (List.mem_of_getElem? (i := 286) rfl) rfl)) (fun _ z => z) dX5_init_57 ?_
  refine lv_iconst (v := 0) hx hb dX5_init_60 (by decide) ?_
  refine lv_aload_n hx hb dX5_init_61 rfl (lv_at hl 0 rfl) ?_
  refine k_get X h (ci := 5) (k := 0) (v := .ref q1) (by decide) (by decide) (fl_in (w := 5) (j := 0) (q := 294) (by decide) (by decide)) rfl dX5_init_62 ?_
  refine lv_iconst (v := 0) hx hb dX5_init_65 (by decide) ?_
  refine lv_bipush (v := 10) hx hb dX5_init_66 (by decide) ?_
  refine k_cpyT X hml hl.1 h 1 (a := q1) (g := fun _ => 0) rfl (mem_G (q := 288) rfl rfl) (Nat.le_of_ble_eq_true rfl) (by decide +kernel) dX5_init_68 (fun H locs h => ?_)
  refine lv_aload_n hx hb dX5_init_71 rfl (lv_at hl 0 rfl) ?_
  refine k_get X h (ci := 5) (k := 2) (v := .ref q3) (by decide) (by decide) (fl_in (w := 5) (j := 2) (q := 300) (by decide) (by decide)) rfl dX5_init_72 ?_
  refine lv_bipush (v := -4) hx hb dX5_init_75 (by decide) ?_
  have hP3 := h.1.sub (ws' := [(q3, .inl (cI, 8, .inl (fun _ => 0)))]) [3] rfl
  have hF3 := va_free (wc := [(q3, .inl (cI, 8, .inl (fun _ => 0)))]) h.2.1 h.2.2 X.2.2.2.2.2.2 [3] rfl
  have hK3 := X.2.2.2.2.1.1.sub (tys' := [(cI, .int)]) [0] rfl
  have hG : GoodIn tblG (Cond.code yJ7_fill_53178 cJ7_fill_53178 4 none :: tblG) := by
    intro w hw
    rcases List.mem_cons.mp hw with rfl | hw
    · exact good_G _ (mem_G (q := 293) rfl rfl)
    · exact good_G _ hw
  refine va_callv (va_runS (nL := 1) (As := [.ref q3, .int (-4)]) (rest := []) ⟨hx, hb, hml, X.2.2.1, X.2.2.2.1⟩ (c_fill q3 H.size (fun _ => 0) (-4)) ⟨callB_of (Ts := tblG) 2 X.2.2.2.1 hG rfl rfl rfl (X.2.2.2.1 _ (mem_G (q := 67) rfl rfl)) (X.2.2.2.1 _ (mem_G (q := 291) rfl rfl)) ⟨by decide +kernel, by decide +kernel, by decide +kernel⟩ ⟨Nat.le_of_ble_eq_true rfl, Nat.le_of_ble_eq_true rfl⟩, X.2.2.2.1 _ (mem_G (q := 292) rfl rfl)⟩ ⟨fun a U g mk z => by obtain ⟨z0, z1, z2, z3⟩ := z; exact ⟨z0, z1, z2, va_K.moved (u := U) (U := U.calling g mk a) (Vm.Alike.refl U.vm) z3⟩, fun U hU hW => ⟨rfl, by rw [hU], by rw [hU]; exact hP3, va_K.moved hW.alike hK3⟩⟩ rfl rfl hl.1 rfl (lv_room (Nat.le_of_ble_eq_true rfl)) dX5_init_77 ⟨Nat.le_of_ble_eq_true rfl, Nat.le_of_ble_eq_true rfl⟩) h.2.2 (fun x _ z => hF3 x z) hF3 (fun u t H1 locs1 ht hvm hw hB hz1 hk1 hS1 => ?_)
  rw [ht] at hB
  have hD1 : va_D (va_A [(q3, .inl (cI, 8, .inl (fun _ => 0)))] H.size) [(q3, .inl (cI, 8, .inl (fun _ => -4)))] := vD_mem.mpr ⟨by simp, fun x hx => by
    rw [List.mem_singleton] at hx
    subst hx
    exact Or.inl ⟨0, _, rfl⟩⟩
  obtain ⟨hP, hD⟩ := va_join (wr := [(q, .inr (5, [.ref q1, .ref q2, .ref q3, .ref q4, .int 0, .int 0, .int (-4), .int 0])), (q1, .inl (cI, 10, .inl (va_cpy imF (fun _ => 0) 0 0 10))), (q2, .inl (cI, 7, .inl (fun _ => 0))), (q4, .inl (cI, 20, .inl (fun _ => 0)))]) (w1 := [(q3, .inl (cI, 8, .inl (fun _ => -4)))]) h.1 h.2.1 [3] [0, 1, 2, 4] rfl rfl (by decide) (by decide) hk1 hF3 hB hD1
  have h : Wd dC dI A s ([(q, .inr (5, [.ref q1, .ref q2, .ref q3, .ref q4, .int 0, .int 0, .int (-4), .int 0]))] ++ (q1, .inl (cI, 10, .inl (va_cpy imF (fun _ => 0) 0 0 10))) :: [(q2, .inl (cI, 7, .inl (fun _ => 0))), (q4, .inl (cI, 20, .inl (fun _ => 0))), (q3, .inl (cI, 8, .inl (fun _ => -4)))]) H1 locs1 := ⟨hP, hD, hS1⟩
  have h := Wd.arr (g := imF) h (fun i hi => cpy0 hi)
  refine W.widen (k := 4) (n := 45) (Nat.le_of_ble_eq_true rfl) (Nat.le_of_ble_eq_true rfl) ?_
  exact k_end X hr hlk dX5_init_80 (fun _ a _ => [q, q1, q2, q3, q4].getD (a - 3) 0) rfl h
end KC6
