/-! facts of the tables, by the kernel -/
def hostOf (c : Nat) : String := if c ≤ 7 then RX7 else RX9
def clT (c : Nat) : vw_C := cls10.getD c (RX0, TX0, 11)
def chkM (y : Nat) : Bool := ow (mO y) == (mN y).cls && plainFor (mN y) && (mN y).cls != "java/lang/invoke/MethodHandle" && (mN y).cls != "java/lang/invoke/VarHandle" && ((parseMethodDescriptor (mN y).desc).map (fun d => d.parameters.length) == some (mK y)) && lw_tbl[mZ y]? == some (.initialized (mN y).cls) && (if mS y then lw_tbl[mI y]? == some (.static (mN y)) else lw_tbl[mI y]? == some (.instanceMethod (mN y)) && lw_tbl[mX y]? == some (.selects (mN y).cls (mN y) (mN y))) && decide (mL y ≤ 20) && (if mS y then true else decide (mO y < 10))
set_option maxRecDepth 100000 in
theorem chkM_ok : ∀ y, y < 131 → chkM y = true := by decide +kernel
def chkF (w : Nat) (x : Nat × Nat × Nat × Bool × Nat) : Bool := lw_tbl[x.2.2.2.2]? == some (if x.2.2.2.1 then .fieldLinkNest (ow w) x.1 ((clT x.2.1).2.1 x.2.2.1).1 ((clT x.2.1).2.1 x.2.2.1).2.1 ((clT x.2.1).2.1 x.2.2.1).2.2.1 (hostOf x.2.1) else .fieldLink (ow w) x.1 ((clT x.2.1).2.1 x.2.2.1).1 ((clT x.2.1).2.1 x.2.2.1).2.1 ((clT x.2.1).2.1 x.2.2.1).2.2.1) && decide (x.2.1 < 10) && decide (x.2.2.1 < (clT x.2.1).2.2)
set_option maxRecDepth 100000 in
theorem chkF_ok : ∀ w, w < 13 → (fTs.getD w []).all (chkF w) = true := by decide +kernel
def chkC (w : Nat) (x : Nat × Nat × Nat) : Bool := if x.2.1 = 900 then lw_tbl[x.2.2]? == some (.methodLink (ow w) x.1 arraycopyName) else lw_tbl[x.2.2]? == some (.methodLink (ow w) x.1 (mN x.2.1)) && decide (x.2.1 < 131)
set_option maxRecDepth 100000 in
theorem chkC_ok : ∀ w, w < 13 → (cTs.getD w []).all (chkC w) = true := by decide +kernel
def tblG : List Cond := lw_tbl.filter goodWord
set_option maxRecDepth 100000 in
theorem codes_in : (List.range 131).map (fun y => Cond.code (mN y) (mB y) (mL y) (mR y)) = mPs.filterMap (fun i => lw_tbl[i]?) := rfl
theorem code_in {y : Nat} (hy : y < 131) : Cond.code (mN y) (mB y) (mL y) (mR y) ∈ tblG := by
  have h : Cond.code (mN y) (mB y) (mL y) (mR y) ∈ (List.range 131).map (fun y => Cond.code (mN y) (mB y) (mL y) (mR y)) := List.mem_map.mpr ⟨y, List.mem_range.mpr hy, rfl⟩
  rw [codes_in] at h
  obtain ⟨i, -, hi⟩ := List.mem_filterMap.mp h
  exact List.mem_filter.mpr ⟨List.mem_of_getElem? hi, rfl⟩
theorem lays_in (c : Nat) (hc : c < 10) : ∀ w ∈ u_ws (clT c).1 (clT c).2.1 (clT c).2.2, w ∈ tblG := by
  have hg : ∀ w ∈ u_ws (clT c).1 (clT c).2.1 (clT c).2.2, goodWord w = true := by
    intro w hw
    obtain ⟨k, -, rfl⟩ := List.mem_map.mp hw
    unfold u_lay
    split <;> rfl
  intro w hw
  refine List.mem_filter.mpr ⟨?_, hg w hw⟩
  match c, hc, hw with
  | 0, _, hw => exact inX0 w hw
  | 1, _, hw => exact inX1 w hw
  | 2, _, hw => exact inX2 w hw
  | 3, _, hw => exact inX3 w hw
  | 4, _, hw => exact inX4 w hw
  | 5, _, hw => exact inX5 w hw
  | 6, _, hw => exact inX6 w hw
  | 7, _, hw => exact inX7 w hw
  | 8, _, hw => exact inX8 w hw
  | 9, _, hw => exact inX9 w hw
  | k + 10, h, _ => exact absurd h (by omega)
set_option maxRecDepth 100000 in
theorem keys_nd : keys.Nodup := by decide +kernel
def cN (c : Nat) : Nat := (clT c).2.2
/-- the graph: kinds, and where reference fields lead -/
def chkK (k : Nat × Nat × Nat) : Bool := (decide (kc k.2.1 = 10) || (decide (kc k.2.1 = 11) && (List.range 6).all (fun i => decide ((k.1, k.2.1 + 1, i) ∈ keys))) || (decide (kc k.2.1 < 10) && (List.range (cN (kc k.2.1))).all (fun j => match fk (kc k.2.1) j with | none => true | some q => decide ((k.1 + q.1, k.2.1 + q.2, k.2.2) ∈ keys)))) && decide (k.1 < 9)
set_option maxRecDepth 100000 in
theorem chkK_ok : keys.all chkK = true := by decide +kernel
/-- the types of the int fields -/
def tyF (c j : Nat) : FieldType := if bz c j then .boolean else .int
def chkT (c j : Nat) : Bool := match fk c j with | none => parseFieldDescriptor ((clT c).2.1 j).2.2.1 == some (tyF c j) && ((clT c).2.1 j).2.2.2 == false | some _ => true
set_option maxRecDepth 100000 in
theorem chkT_ok : (List.range 10).all (fun c => (List.range (cN c)).all (chkT c)) = true := by decide +kernel
