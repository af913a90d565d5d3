/-! CONSTRUCTORS, 2: worlds put together, calls of constructors -/
theorem vP_mem {D : va_G} {cl : List vw_C} {ws : va_W} {H : Heap} : va_P D cl ws H ↔ ∀ q ∈ ws, va_at D cl q H := by
  constructor
  · intro h q hq
    obtain ⟨k, hk⟩ := List.mem_iff_getElem?.mp hq
    exact h k q hk
  · intro h k q hk
    exact h q (List.mem_of_getElem? hk)
theorem vD_mem {A : Nat → Prop} {ws : va_W} : va_D A ws ↔ (ws.map Prod.fst).Nodup ∧ ∀ q ∈ ws, A q.1 := by
  constructor
  · intro h
    refine ⟨List.pairwise_iff_getElem.mpr (fun i j hi hj hij => ?_), fun q hq => ?_⟩
    · intro e
      rw [List.length_map] at hi hj
      rw [List.getElem_map, List.getElem_map] at e
      have := h.1 i j ws[i] ws[j] (List.getElem?_eq_getElem hi) (List.getElem?_eq_getElem hj) e
      omega
    · obtain ⟨k, hk⟩ := List.mem_iff_getElem?.mp hq
      exact h.2 k q hk
  · intro h
    refine ⟨fun i j x y hx hy exy => ?_, fun k q hk => h.2 q (List.mem_of_getElem? hk)⟩
    have hx1 : (ws.map Prod.fst)[i]? = some x.1 := by rw [List.getElem?_map, hx]; rfl
    have hy1 : (ws.map Prod.fst)[j]? = some x.1 := by rw [List.getElem?_map, hy, exy]; rfl
    exact nd_inj h.1 hx1 hy1
theorem arr_eq {cA : ClassId} {N : Nat} {f g : Nat → Int32} (h : ∀ i, i < N → f i = g i) : vp_cell cA (N, .inl f) = vp_cell cA (N, .inl g) := by
  show arrV cA N (fun j => .int (f j)) = arrV cA N (fun j => .int (g j))
  unfold arrV
  congr 1
  apply congrArg
  funext j
  show Value.int (f j.val) = Value.int (g j.val)
  rw [h j.val j.isLt]
def sw (cI cS : ClassId) (K : List (Nat × Nat × Nat)) (ad : Nat → Nat → Nat → Nat) (μ : Mem) : va_W := K.map (fun k => (ad k.1 k.2.1 k.2.2, cE cI cS ad μ k))
/-- a fresh cell at the end of a world turns into a world of its own -/
theorem k_join {D : va_G} {cl : List vw_C} {A : Nat → Prop} {ws w1 : va_W} {q : Nat} {e0 : va_E} {H H1 : Heap} (hP : va_P D cl (ws ++ [(q, e0)]) H) (hD : va_D A (ws ++ [(q, e0)])) (hk : ∀ x : Nat, x < H.size → ¬ va_A [(q, e0)] H.size x → H1[x]? = H[x]?) (hF : ∀ x, va_A [(q, e0)] H.size x → A x) (hP1 : va_P D cl w1 H1) (hD1 : va_D (va_A [(q, e0)] H.size) w1) : va_P D cl (ws ++ w1) H1 ∧ va_D A (ws ++ w1) := by
  rw [vP_mem] at hP hP1
  rw [vD_mem] at hD hD1
  rw [List.map_append, List.nodup_append] at hD
  have ap : ∀ x ∈ ws, x.1 < H.size ∧ ¬ va_A [(q, e0)] H.size x.1 := by
    intro x hx
    have hl : x.1 < H.size := (hP x (List.mem_append_left _ hx)).lt
    refine ⟨hl, ?_⟩
    rintro (⟨k, z, hz⟩ | hz)
    · have hzq : (x.1, z) = (q, e0) := by
        have := List.mem_of_getElem? hz
        simpa using this
      have hq : x.1 = q := congrArg Prod.fst hzq
      exact hD.1.2.2 x.1 (List.mem_map_of_mem hx) q (by simp) hq
    · omega
  refine ⟨vP_mem.mpr (fun x hx => ?_), vD_mem.mpr ⟨?_, fun x hx => ?_⟩⟩
  · rcases List.mem_append.mp hx with hx | hx
    · exact (hP x (List.mem_append_left _ hx)).kept (hk x.1 (ap x hx).1 (ap x hx).2)
    · exact hP1 x hx
  · rw [List.map_append, List.nodup_append]
    refine ⟨hD.1.1, hD1.1, fun x hx y hy exy => ?_⟩
    obtain ⟨x', hx', rfl⟩ := List.mem_map.mp hx
    obtain ⟨y', hy', rfl⟩ := List.mem_map.mp hy
    exact (ap x' hx').2 (by rw [exy]; exact hD1.2 y' hy')
  · rcases List.mem_append.mp hx with hx | hx
    · exact hD.2 x (List.mem_append_left _ hx)
    · exact hF _ (hD1.2 x hx)
section KC2
variable {p : Program} {l : Launch} {e : Env} {R : Room} {s : State} {m : MethodId} {args : Array Value} {below : List Frame} {meth : Method} {c : Code} {H : Heap} {locs : List Loc} {cells slots : Nat} {Q : State → Prop}
variable {dC : Nat → ClassId} {dI : Nat → Nat → Nat} {cI cS : ClassId} {fz : Nat} {A : Nat → Prop} {pc : Nat} {ls : Array Slot} {rest : List Value} {cc : ByteArray} {own : String} {ws : va_W}
def PreI (dC : Nat → ClassId) (dI : Nat → Nat → Nat) (cI cS : ClassId) (fz q : Nat) (e0 : va_E) (sz : Nat) (U : State) : Prop := U.heap.size = sz ∧ va_P (dC, dI) cls10 [(q, e0)] U.heap ∧ WI dC dI cI cS fz (va_A [(q, e0)] sz) U
theorem PreI.blind {As : List Value} {q sz : Nat} {e0 : va_E} : FrameBlind (va_Pc As (PreI dC dI cI cS fz q e0 sz)) := by
  intro a U g mk ⟨g0, g1, g2, g3⟩
  obtain ⟨k1, k2, k3, k4, k5⟩ := g3
  have al : U.vm.Alike (U.calling g mk a).vm := Vm.Alike.refl U.vm
  exact ⟨g0, g1, g2, va_K.moved (u := U) (U := U.calling g mk a) al k1, va_T.moved (u := U) (U := U.calling g mk a) al k2, va_Z.moved (u := U) (U := U.calling g mk a) al k3, fun w hw hn => va_Nw.same (u := U) (nst_on hn) rfl (k4 w hw hn), va_AO.moved (u := U) (U := U.calling g mk a) al k5⟩
/-- the contract of a constructor: a fresh object of class ci at q becomes the cells of the keys K -/
def CtM (l : Launch) (dC : Nat → ClassId) (dI : Nat → Nat → Nat) (cI cS : ClassId) (fz : Nat) (y : MethodName) (cb : ByteArray) (nL : Nat) (rm : Room) (ci : Nat) (As : List Value) (K : List (Nat × Nat × Nat)) (k0 : Nat × Nat × Nat) (μ : Mem) : Prop :=
  ∀ (q sz : Nat), Met l y (Cond.code y cb nL none :: tblG) rm (va_Pc (.ref q :: As) (PreI dC dI cI cS fz q (.inr (ci, z0f ci)) sz)) (va_Qv (fun _ : Nat → Nat → Nat → Nat => True) (fun ad t => ad k0.1 k0.2.1 k0.2.2 = q ∧ va_P (dC, dI) cls10 (sw cI cS K ad μ) t.heap ∧ va_D (va_A [(q, .inr (ci, z0f ci))] sz) (sw cI cS K ad μ)) (va_A [(q, .inr (ci, z0f ci))] sz)) rm.cells rm.slots (va_A [(q, .inr (ci, z0f ci))] sz)
theorem k_free {q : Nat} {e0 : va_E} (hD : va_D A (ws ++ [(q, e0)])) (hS : va_S A s.heap H locs) (hA : ∀ x, s.heap.size ≤ x → A x) : ∀ x, va_A [(q, e0)] H.size x → A x := by
  rintro x (⟨k, z, hz⟩ | hz)
  · have hzq : (x, z) = (q, e0) := by
      have := List.mem_of_getElem? hz
      simpa using this
    have hq : x = q := congrArg Prod.fst hzq
    subst hq
    exact (vD_mem.mp hD).2 (x, e0) (List.mem_append_right _ (by simp))
  · exact hA x (Nat.le_trans hS.1 hz)
theorem k_callL (X : CI dC dI cI cS fz A p s m args meth c cc own) {nL : Nat} (hml : c.maxLocals = nL) (hsz : ls.size = nL) {q ci idx nM : Nat} {y : MethodName} {cb : ByteArray} {rm : Room} {As : List Value} {K : List (Nat × Nat × Nat)} {k0 : Nat × Nat × Nat} {μ : Mem} (h : Wd dC dI A s (ws ++ [(q, .inr (ci, z0f ci))]) H locs) (hM : CtM l dC dI cI cS fz y cb nM rm ci As K k0 μ) (l0 : Cond.code y cb nM none ∈ tblG) (l1 : Cond.methodLink own idx y ∈ tblG) (l2 : Cond.instanceMethod y ∈ tblG) (l3 : Cond.initialized y.cls ∈ tblG) (hy : y.name = "<init>" ∧ y.cls ≠ "java/lang/invoke/MethodHandle" ∧ y.cls ≠ "java/lang/invoke/VarHandle" ∧ (parseMethodDescriptor y.desc).map (fun d => d.parameters.length) = some As.length) (hR : rm.frames + 1 ≤ R.frames ∧ 8 + (nM + 11) + rm.locals ≤ R.locals) (hl : (rest.map fun v => v.category).sum ≤ 8) (hcs : cells + rm.cells ≤ R.cells ∧ slots + rm.slots ≤ R.slots) (hd : decode cc pc = .ok (.invokespecial idx, 3))
    (kk : ∀ (ad : Nat → Nat → Nat → Nat) (H1 : Heap) (locs1 : List Loc), ad k0.1 k0.2.1 k0.2.2 = q → Wd dC dI A s (ws ++ sw cI cS K ad μ) H1 locs1 → W p l e R s m args below meth c H1 locs1 (cells + rm.cells) (slots + rm.slots) Q (F0 m (pc + 3) ls rest)) : W p l e R s m args below meth c H locs cells slots Q (F0 m pc ls (As.reverse ++ .ref q :: rest)) := by
  obtain ⟨hx, hb, hown, hts, hW, hin, hA⟩ := X
  obtain ⟨hP, hD, hS⟩ := h
  have hFc := k_free hD hS hA
  have hPc : va_P (dC, dI) cls10 [(q, .inr (ci, z0f ci))] H := vP_mem.mpr (fun x hx => vP_mem.mp hP x (List.mem_append_right _ hx))
  have hG : GoodIn tblG (Cond.code y cb nM none :: tblG) := by
    intro w hw
    rcases List.mem_cons.mp hw with rfl | hw
    · exact good_G _ l0
    · exact good_G _ hw
  refine va_callv (va_runI (nL := nL) (As := As) (rest := rest) (b := q) ⟨hx, hb, hml, hown, hts⟩ (hM q H.size) ⟨callB_of (Ts := tblG) As.length hts hG rfl rfl rfl (hts _ l3) (hts _ l1) ⟨hy.2.1, hy.2.2.1, hy.2.2.2⟩ hR, hy.1, hts _ l2⟩ ⟨PreI.blind, fun U hU hWa => ⟨rfl, by rw [hU], by rw [hU]; exact hPc, hW.go hS hU hWa hFc⟩⟩ rfl rfl hsz rfl (lv_room hl) hd hcs) hS (fun x _ z => hFc x z) hFc (fun ad t H1 locs1 ht hvm hw hB hz1 hk1 hS1 => ?_)
  obtain ⟨b1, b2, b3⟩ := hB
  rw [ht] at b2
  obtain ⟨j1, j2⟩ := k_join hP hD hk1 hFc b2 b3
  exact kk ad H1 locs1 b1 ⟨j1, j2, hS1⟩
theorem k_callN (X : CI dC dI cI cS fz A p s m args meth c cc own) {nL : Nat} (hml : c.maxLocals = nL) (hsz : ls.size = nL) {q ci idx nM : Nat} {host : String} {y : MethodName} {cb : ByteArray} {rm : Room} {As : List Value} {K : List (Nat × Nat × Nat)} {k0 : Nat × Nat × Nat} {μ : Mem} (h : Wd dC dI A s (ws ++ [(q, .inr (ci, z0f ci))]) H locs) (hM : CtM l dC dI cI cS fz y cb nM rm ci As K k0 μ) (l0 : Cond.code y cb nM none ∈ tblG) (l1 : Cond.methodLinkNest own idx y host ∈ lw_tbl) (l2 : Cond.instanceMethod y ∈ tblG) (l3 : Cond.initialized y.cls ∈ tblG) (hy : y.name = "<init>" ∧ y.cls ≠ "java/lang/invoke/MethodHandle" ∧ y.cls ≠ "java/lang/invoke/VarHandle" ∧ (parseMethodDescriptor y.desc).map (fun d => d.parameters.length) = some As.length) (hR : rm.frames + 1 ≤ R.frames ∧ 8 + (nM + 11) + rm.locals ≤ R.locals) (hl : (rest.map fun v => v.category).sum ≤ 8) (hcs : cells + rm.cells ≤ R.cells ∧ slots + rm.slots ≤ R.slots) (hd : decode cc pc = .ok (.invokespecial idx, 3))
    (kk : ∀ (ad : Nat → Nat → Nat → Nat) (H1 : Heap) (locs1 : List Loc), ad k0.1 k0.2.1 k0.2.2 = q → Wd dC dI A s (ws ++ sw cI cS K ad μ) H1 locs1 → W p l e R s m args below meth c H1 locs1 (cells + rm.cells) (slots + rm.slots) Q (F0 m (pc + 3) ls rest)) : W p l e R s m args below meth c H locs cells slots Q (F0 m pc ls (As.reverse ++ .ref q :: rest)) := by
  obtain ⟨hx, hb, hown, hts, hW, hin, hA⟩ := X
  obtain ⟨hP, hD, hS⟩ := h
  have hFc := k_free hD hS hA
  have hPc : va_P (dC, dI) cls10 [(q, .inr (ci, z0f ci))] H := vP_mem.mpr (fun x hx => vP_mem.mp hP x (List.mem_append_right _ hx))
  have hG : GoodIn tblG (Cond.code y cb nM none :: tblG) := by
    intro w hw
    rcases List.mem_cons.mp hw with rfl | hw
    · exact good_G _ l0
    · exact good_G _ hw
  refine va_callv (va_runIN (nL := nL) (As := As) (rest := rest) (b := q) ⟨hx, hb, hml, hown, hts⟩ (hM q H.size) ⟨va_cnB (Ts := tblG) As.length hts hG rfl rfl rfl (hW.2.2.2.1 _ l1 rfl) (hts _ l3) ⟨hy.2.1, hy.2.2.1, hy.2.2.2⟩ hR, hy.1, hts _ l2⟩ ⟨PreI.blind, fun U hU hWa => ⟨rfl, by rw [hU], by rw [hU]; exact hPc, hW.go hS hU hWa hFc⟩⟩ rfl rfl hsz rfl (lv_room hl) hd hcs) hS (fun x _ z => hFc x z) hFc (fun ad t H1 locs1 ht hvm hw hB hz1 hk1 hS1 => ?_)
  obtain ⟨b1, b2, b3⟩ := hB
  rw [ht] at b2
  obtain ⟨j1, j2⟩ := k_join hP hD hk1 hFc b2 b3
  exact kk ad H1 locs1 b1 ⟨j1, j2, hS1⟩
/-- the beginning and the end of a constructor's walk -/
theorem k_begin {y : MethodName} {cb : ByteArray} {nL : Nat} {rm : Room} {ci : Nat} {As : List Value} {K : List (Nat × Nat × Nat)} {k0 : Nat × Nat × Nat} {μ : Mem} (hy : plainName y.cls = true) (hn : y.name = "<init>") (hla : (.ref 0 :: As : List Value).length ≤ nL) (hcat : lg_sl As = As.map Slot.val)
    (body : ∀ (p : Program) (e : Env) (s : State) (m : MethodId) (below : List Frame) (meth : Method) (c : Code) (q : Nat) (ls : Array Slot) (A : Nat → Prop), CI dC dI cI cS fz A p s m (.ref q :: As : List Value).toArray meth c cb y.cls → c.maxLocals = nL → meth.sig.returnType = none → meth.locks = false → lv_has ls nL [] → ls.toList.take (As.length + 1) = (.ref q :: As : List Value).map Slot.val → Wd dC dI A s [(q, .inr (ci, z0f ci))] s.heap [] →
      W p l e rm s m (.ref q :: As : List Value).toArray below meth c s.heap [] 0 0 (MQ below (va_Qv (fun _ : Nat → Nat → Nat → Nat => True) (fun ad t => ad k0.1 k0.2.1 k0.2.2 = q ∧ va_P (dC, dI) cls10 (sw cI cS K ad μ) t.heap ∧ va_D A (sw cI cS K ad μ)) A) (.ref q :: As : List Value).toArray s rm.cells rm.slots A) (F0 m 0 ls [])) : CtM l dC dI cI cS fz y cb nL rm ci As K k0 μ := by
  intro q sz
  refine Met.ofW (cc := cb) (maxL := nL) (ret := none) hy rfl ?_
  intro p e s m args below meth c s₁ B hml hv
  obtain ⟨rfl, hsz, hP, hW⟩ := hv
  subst hsz
  have hlen : (lg_sl (.ref q :: As : List Value)).length ≤ nL := by
    have : lg_sl (.ref q :: As : List Value) = Slot.val (.ref q) :: lg_sl As := rfl
    rw [this, hcat, List.length_cons, List.length_map]; exact hla
  have hl := lv_entry (.ref q :: As : List Value) (n := nL) hlen
  rw [lg_entry_eq]
  refine body p e s m below meth c q _ (va_A [(q, .inr (ci, z0f ci))] s.heap.size) ⟨B.exec, B.bytes, findClass_of_methodNamed B.named, fun w hw => atoms_spec (ws := Cond.code y cb nL none :: tblG) B.pre w (List.mem_cons_of_mem _ hw), hW, ?_, fun x hx => Or.inr hx⟩ hml B.returns B.notSynchronized ⟨hl.1, hl.2.1, fun x hx => by cases hx⟩ ?_ ⟨hP, vD_mem.mpr ⟨by simp, fun x hx => ?_⟩, va_S.rf⟩
  · rw [(name_of_methodNamed B.named B.method).1, hn]
  · have : lg_sl (.ref q :: As : List Value) = Slot.val (.ref q) :: lg_sl As := rfl
    show List.take (As.length + 1) (lg_sl (.ref q :: As : List Value) ++ _) = _
    rw [this, hcat, List.cons_append, List.take_succ_cons, List.map_cons, List.take_left' (by rw [List.length_map])]
  · rw [List.mem_singleton] at hx
    subst hx
    exact Or.inl ⟨0, _, rfl⟩
end KC2
