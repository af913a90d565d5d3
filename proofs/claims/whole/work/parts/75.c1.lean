/-! CONSTRUCTORS, 1: the rows of a walk that makes cells -/
def isNst (w : Cond) : Bool := match w with
  | .fieldLinkNest _ _ _ _ _ _ => true
  | .methodLinkNest _ _ _ _ => true
  | _ => false
theorem nst_on {w : Cond} (h : isNst w = true) : w.onTables = true := by
  unfold isNst at h
  split at h
  · rfl
  · rfl
  · cases h
def imFs : List Int32 := [10, 0, 1, 0, 0, 10, 0, 1, 1, 0]
def imF (i : Nat) : Int32 := imFs.getD i 0
/-- what stands fast while a constructor runs -/
def WI (dC : Nat → ClassId) (dI : Nat → Nat → Nat) (cI cS : ClassId) (fz : Nat) (A : Nat → Prop) (U : State) : Prop :=
  va_K (dC, dI) cls10 [(cI, .int), (cS, .object RX5)] U ∧ va_T .int fz 10 (fun i => .int (imF i)) A U U.heap ∧ va_Z RX7 "FIRST_OF_RULE" "[I" (.ref fz) A U U.heap ∧ (∀ w ∈ lw_tbl, isNst w = true → va_Nw w U) ∧ va_AO RX5 U
section KC1
variable {p : Program} {l : Launch} {e : Env} {R : Room} {s : State} {m : MethodId} {args : Array Value} {below : List Frame} {meth : Method} {c : Code} {H : Heap} {locs : List Loc} {cells slots : Nat} {Q : State → Prop}
variable {dC : Nat → ClassId} {dI : Nat → Nat → Nat} {cI cS : ClassId} {fz : Nat} {A : Nat → Prop} {pc : Nat} {ls : Array Slot} {rest : List Value} {cc : ByteArray} {own : String} {ws : va_W}
theorem WI.go {B : Nat → Prop} {U : State} (hS : va_S A s.heap H locs) (hU : U.heap = H) (hW : s.WarmedH U.vm) (hB : ∀ q, B q → A q) (h : WI dC dI cI cS fz A s) : WI dC dI cI cS fz B U := by
  obtain ⟨g1, g2, g3, g4, g5⟩ := h
  have hk : ∀ q : Nat, q < s.heap.size → ¬ A q → U.heap[q]? = s.heap[q]? := fun q z1 z2 => by rw [hU]; exact hS.2.1 q z1 z2
  refine ⟨va_K.moved hW.alike g1, ((va_T.moved hW.alike g2).kept hk).narrow hB, ((va_Z.moved hW.alike g3).kept hk).narrow hB, fun w hw hn => ?_, va_AO.moved hW.alike g5⟩
  have z0 := g4 w hw hn
  unfold isNst at hn
  split at hn
  · exact va_Nw.warmF hW z0
  · exact va_Nw.warmM hW z0
  · cases hn
def CI (dC : Nat → ClassId) (dI : Nat → Nat → Nat) (cI cS : ClassId) (fz : Nat) (A : Nat → Prop) (p : Program) (s : State) (m : MethodId) (args : Array Value) (meth : Method) (c : Code) (cc : ByteArray) (own : String) : Prop :=
  p.tables.exec = Jvm.exec ∧ c.code = cc ∧ s.vm.findClass own = some m.cls ∧ (∀ w ∈ tblG, w.before args s = true) ∧ WI dC dI cI cS fz A s ∧ meth.name = "<init>" ∧ ∀ q, s.heap.size ≤ q → A q
/-- the world: cells, apart, and what is not in A unchanged -/
def Wd (dC : Nat → ClassId) (dI : Nat → Nat → Nat) (A : Nat → Prop) (s : State) (ws : va_W) (H : Heap) (locs : List Loc) : Prop := va_P (dC, dI) cls10 ws H ∧ va_D A ws ∧ va_S A s.heap H locs
theorem k_newa (X : CI dC dI cI cS fz A p s m args meth c cc own) (h : Wd dC dI A s ws H locs) {n : Int32} {N : Nat} (hn : ¬ n < 0) (hN : n.toNatClampNeg = N) (hb4 : N * 4 ≤ 536870912) (hcells : cells + 1 ≤ R.cells) (hslots : slots + N ≤ R.slots) (hd : decode cc pc = .ok (.newarray .int, 2))
    (kk : ∀ (q : Nat) (H1 : Heap), Wd dC dI A s (ws ++ [(q, .inl (cI, N, .inl (fun _ => 0)))]) H1 locs → W p l e R s m args below meth c H1 locs (cells + 1) (slots + N) Q (F0 m (pc + 2) ls (.ref q :: rest))) : W p l e R s m args below meth c H locs cells slots Q (F0 m pc ls (.int n :: rest)) := by
  obtain ⟨hx, hb, hown, hts, hW, hin, hA⟩ := X
  obtain ⟨hP, hD, hS⟩ := h
  refine va_newa (D := (dC, dI)) (ty := .int) (a0 := (N, .inl (fun _ => 0))) hx hb (hts _ (mem_G (q := 126) rfl rfl)) rfl hW.1 hP hD hS hA (fun cA => rfl) hn hN hb4 hcells hslots hd (fun q cA H1 hK1 hP1 hD1 hS1 => ?_)
  have r1 : s.vm.findClass ("[" ++ FieldType.int.toString) = some cI := (hW.1.2 0 (cI, .int) rfl).2
  have r2 : s.vm.findClass ("[" ++ FieldType.int.toString) = some cA := (hK1.2 2 (cA, .int) rfl).2
  have r3 : cA = cI := Option.some.inj (r2.symm.trans r1)
  subst r3
  exact kk q H1 ⟨hP1, hD1, hS1⟩
def tyK (ci : Nat) : Nat → FieldType := match ci with
  | 0 => tyX0
  | 1 => tyX1
  | 2 => tyX2
  | 3 => tyX3
  | 4 => tyX4
  | 5 => tyX5
  | 6 => tyX6
  | 7 => tyX7
  | 8 => tyX8
  | _ => tyX9
theorem tyK_ok {ci : Nat} (hc : ci < 10) : (∀ k, k < (clT ci).2.2 → parseFieldDescriptor ((clT ci).2.1 k).2.2.1 = some (tyK ci k)) ∧ ∀ i, i < (clT ci).2.2 → ∀ j, j < (clT ci).2.2 → i ≠ j → ((clT ci).2.1 i).2.1 ≠ ((clT ci).2.1 j).2.1 := by
  match ci, hc with
  | 0, _ => exact ⟨tyX0_ok, nmX0⟩
  | 1, _ => exact ⟨tyX1_ok, nmX1⟩
  | 2, _ => exact ⟨tyX2_ok, nmX2⟩
  | 3, _ => exact ⟨tyX3_ok, nmX3⟩
  | 4, _ => exact ⟨tyX4_ok, nmX4⟩
  | 5, _ => exact ⟨tyX5_ok, nmX5⟩
  | 6, _ => exact ⟨tyX6_ok, nmX6⟩
  | 7, _ => exact ⟨tyX7_ok, nmX7⟩
  | 8, _ => exact ⟨tyX8_ok, nmX8⟩
  | 9, _ => exact ⟨tyX9_ok, nmX9⟩
  | k + 10, hk => exact absurd hk (by omega)
/-- a new object's fields -/
def z0f (ci : Nat) : List Value := (List.range (cN ci)).map (fun j => defaultValue (tyK ci j))
theorem k_new (X : CI dC dI cI cS fz A p s m args meth c cc own) (h : Wd dC dI A s ws H locs) {ci idx : Nat} (hc : ci < 10) (l1 : Cond.classLink own idx (clT ci).1 ∈ tblG) (l2 : Cond.instantiable (clT ci).1 (cN ci) ∈ tblG) (l3 : Cond.initialized (clT ci).1 ∈ tblG) (hcells : cells + 1 ≤ R.cells) (hslots : slots + cN ci ≤ R.slots) (hd : decode cc pc = .ok (.new idx, 3))
    (kk : ∀ (q : Nat) (H1 : Heap), Wd dC dI A s (ws ++ [(q, .inr (ci, z0f ci))]) H1 locs → W p l e R s m args below meth c H1 locs (cells + 1) (slots + cN ci) Q (F0 m (pc + 3) ls (.ref q :: rest))) : W p l e R s m args below meth c H locs cells slots Q (F0 m pc ls rest) := by
  obtain ⟨hx, hb, hown, hts, hW, hin, hA⟩ := X
  obtain ⟨hP, hD, hS⟩ := h
  refine va_new (D := (dC, dI)) (ci := ci) (fs := z0f ci) (C := (clT ci).1) (T := (clT ci).2.1) (N := cN ci) hx hb hts (lays_in ci hc) (tyK ci) (tyK_ok hc).1 hown (hts _ l1) (hts _ l2) (hts _ l3) hW.1 hP hD hS hA (cls_at hc) (fun j hj => ?_) hcells hslots hd (fun q H1 hP1 hD1 hS1 => kk q H1 ⟨hP1, hD1, hS1⟩)
  unfold vp_V z0f
  rw [List.getD_eq_getElem?_getD, List.getElem?_map, List.getElem?_range hj]
  rfl
theorem k_putR (X : CI dC dI cI cS fz A p s m args meth c cc own) {h0 ci idx k : Nat} {fs : List Value} (h : Wd dC dI A s ((h0, .inr (ci, fs)) :: ws) H locs) (hc : ci < 10) (hk : k < cN ci) (hl : k < fs.length) (l1 : Cond.fieldLink own idx ((clT ci).2.1 k).1 ((clT ci).2.1 k).2.1 ((clT ci).2.1 k).2.2.1 ∈ tblG) (hf : ((clT ci).2.1 k).2.2.2 = true) (ho : ((clT ci).2.1 k).1 = own) {v : Nat} (hn : narrow (tyK ci k) (.ref v) = .ref v) (hfit : fits (tyK ci k) (.ref v) = true) (hd : decode cc pc = .ok (.putfield idx, 3))
    (kk : ∀ (H1 : Heap) (locs1 : List Loc), Wd dC dI A s ((h0, .inr (ci, fs.set k (.ref v))) :: ws) H1 locs1 → W p l e R s m args below meth c H1 locs1 cells slots Q (F0 m (pc + 3) ls rest)) : W p l e R s m args below meth c H locs cells slots Q (F0 m pc ls (.ref v :: .ref h0 :: rest)) := by
  obtain ⟨hx, hb, hown, hts, hW, hin, hA⟩ := X
  obtain ⟨hP, hD, hS⟩ := h
  exact va_putF (D := (dC, dI)) (ci := ci) (v := .ref v) (ty := tyK ci k) (C := (clT ci).1) (T := (clT ci).2.1) (N := cN ci) hx hb hts (lays_in ci hc) (tyK ci) (tyK_ok hc).1 (tyK_ok hc).2 hown hW.1 hP hD hS 0 rfl (cls_at hc) k hk (hts _ l1) (fun _ z => z) hf hin ho ((tyK_ok hc).1 k hk) hn hfit hl hd (fun H1 locs1 hP1 hD1 hS1 => kk H1 locs1 ⟨hP1, hD1, hS1⟩)
theorem k_putI (X : CI dC dI cI cS fz A p s m args meth c cc own) {h0 ci idx k : Nat} {fs : List Value} (h : Wd dC dI A s ((h0, .inr (ci, fs)) :: ws) H locs) (hc : ci < 10) (hk : k < cN ci) (hl : k < fs.length) (l1 : Cond.fieldLink own idx ((clT ci).2.1 k).1 ((clT ci).2.1 k).2.1 ((clT ci).2.1 k).2.2.1 ∈ tblG) (hf : ((clT ci).2.1 k).2.2.2 = false) {v : Int32} (hn : narrow (tyK ci k) (.int v) = .int v) (hfit : fits (tyK ci k) (.int v) = true) (hd : decode cc pc = .ok (.putfield idx, 3))
    (kk : ∀ (H1 : Heap) (locs1 : List Loc), Wd dC dI A s ((h0, .inr (ci, fs.set k (.int v))) :: ws) H1 locs1 → W p l e R s m args below meth c H1 locs1 cells slots Q (F0 m (pc + 3) ls rest)) : W p l e R s m args below meth c H locs cells slots Q (F0 m pc ls (.int v :: .ref h0 :: rest)) := by
  obtain ⟨hx, hb, hown, hts, hW, hin, hA⟩ := X
  obtain ⟨hP, hD, hS⟩ := h
  exact va_put (D := (dC, dI)) (ci := ci) (v := .int v) (ty := tyK ci k) (C := (clT ci).1) (T := (clT ci).2.1) (N := cN ci) hx hb hts (lays_in ci hc) (tyK ci) (tyK_ok hc).1 (tyK_ok hc).2 hown hW.1 hP hD hS 0 rfl (cls_at hc) k hk (hts _ l1) (fun _ z => z) hf ((tyK_ok hc).1 k hk) hn hfit hl hd (fun H1 locs1 hP1 hD1 hS1 => kk H1 locs1 ⟨hP1, hD1, hS1⟩)
theorem k_get (X : CI dC dI cI cS fz A p s m args meth c cc own) {h0 ci idx k : Nat} {fs : List Value} {v : Value} (h : Wd dC dI A s ((h0, .inr (ci, fs)) :: ws) H locs) (hc : ci < 10) (hk : k < cN ci) (l1 : Cond.fieldLink own idx ((clT ci).2.1 k).1 ((clT ci).2.1 k).2.1 ((clT ci).2.1 k).2.2.1 ∈ tblG) (hv : fs[k]? = some v) (hd : decode cc pc = .ok (.getfield idx, 3))
    (kk : W p l e R s m args below meth c H locs cells slots Q (F0 m (pc + 3) ls (v :: rest))) : W p l e R s m args below meth c H locs cells slots Q (F0 m pc ls (.ref h0 :: rest)) := by
  obtain ⟨hx, hb, hown, hts, hW, hin, hA⟩ := X
  exact va_get (D := (dC, dI)) (ci := ci) (v := v) (C := (clT ci).1) (T := (clT ci).2.1) (N := cN ci) hx hb hts (lays_in ci hc) hown hW.1 h.1 0 rfl (cls_at hc) k hk (hts _ l1) (fun _ z => z) hv hd kk
theorem k_obj (X : CI dC dI cI cS fz A p s m args meth c cc own) {h0 idx nL : Nat} (hml : c.maxLocals = nL) (hsz : ls.size = nL) (l1 : Cond.methodLink own idx objectInit ∈ tblG) (hf : 1 ≤ R.frames) (hlo : 12 ≤ R.locals) (hd : decode cc pc = .ok (.invokespecial idx, 3))
    (kk : W p l e R s m args below meth c H locs cells slots Q (F0 m (pc + 3) ls [])) : W p l e R s m args below meth c H locs cells slots Q (F0 m pc ls [.ref h0]) := by
  obtain ⟨hx, hb, hown, hts, hW, hin, hA⟩ := X
  refine W.objInit hx hb hown (hts _ l1) (hts _ (mem_G (q := 76) rfl rfl)) (hts _ (mem_G (q := 77) rfl rfl)) rfl (hsz.trans hml.symm) rfl hd hf (by show 2 * 0 + 0 + 12 ≤ _; omega) ?_
  exact W.eq (g2 := F0 m (pc + 3) ls []) rfl kk
end KC1
