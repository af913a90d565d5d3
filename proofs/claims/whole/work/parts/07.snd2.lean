/-! THE ABSTRACT MACHINE IS SOUND, 2: every step -/
section SN2
variable {p : Program} {l : Launch} {e : Env} {R : Room} {s : State} {m : MethodId} {args : Array Value} {below : List Frame} {meth : Method} {c : Code} {H : Heap} {locs : List Loc} {cells slots : Nat} {Q : State → Prop}
variable {dC : Nat → ClassId} {dI : Nat → Nat → Nat} {cI cS : ClassId} {ad : Nat → Nat → Nat → Nat} {μ : Mem} {y d pc : Nat} {ls : Array Slot} {rest : List Value}
/-- what stands fast during a method's run -/
def Cx (dC : Nat → ClassId) (dI : Nat → Nat → Nat) (cI cS : ClassId) (ad : Nat → Nat → Nat → Nat) (p : Program) (R : Room) (s : State) (m : MethodId) (args : Array Value) (c : Code) (cells slots d y : Nat) : Prop :=
  p.tables.exec = Jvm.exec ∧ c.code = mB y ∧ c.maxLocals = mL y ∧ s.vm.findClass (ow (mO y)) = some m.cls ∧ (∀ w ∈ tblG, w.before args s = true) ∧ Wst dC dI cI cS ad s ∧ d + 1 ≤ R.frames ∧ 64 * d + 64 ≤ R.locals ∧ cells ≤ R.cells ∧ slots ≤ R.slots
theorem gf_at {c j : Nat} (hj : j < cN c) {r a o : Nat} : ((List.range (cN c)).map (fun j => vl ad (gfv c j r a o μ)))[j]? = some (vl ad (gfv c j r a o μ)) := by
  rw [List.getElem?_map, List.getElem?_range hj]; rfl
theorem sn_get (X : Cx dC dI cI cS ad p R s m args c cells slots d y) (hP : va_P (dC, dI) cls10 (wl cI cS ad μ) H) {x r a o k j q : Nat} {b : Bool} (hd : decode (mB y) pc = .ok (.getfield x, 3)) (hf : fT (mO y) x = some (k, j, b, q)) (hk : kc a = k) (hr : okr r a o)
    (kk : okv (gfv k j r a o μ) → W p l e R s m args below meth c H locs cells slots Q (F0 m (pc + 3) ls (vl ad (gfv k j r a o μ) :: rest))) : W p l e R s m args below meth c H locs cells slots Q (F0 m pc ls (.ref (ad r a o) :: rest)) := by
  obtain ⟨hx, hb, hml, hown, hts, hW, -⟩ := X
  obtain ⟨h1, hc, hj⟩ := fT_spec (mO_lt y) hf
  subst hk
  have hkey : (r, a, o) ∈ keys := key_of hr (by omega)
  obtain ⟨q0, hq, he⟩ := wl_at (cI := cI) (cS := cS) (ad := ad) (μ := μ) hkey
  rw [cE_obj hc] at he
  have hok : okv (gfv (kc a) j r a o μ) := by
    have h2 := keys_chk hkey
    unfold chkK at h2
    simp only [Bool.and_eq_true, Bool.or_eq_true, decide_eq_true_eq, List.all_eq_true, List.mem_range] at h2
    rcases h2.1 with (h3 | h3) | h3
    · omega
    · omega
    · have h4 := h3.2 j hj
      unfold gfv
      cases hfk : fk (kc a) j with
      | none => exact True.intro
      | some z =>
        rw [hfk] at h4
        exact Or.inl (by simpa using h4)
  cases b with
  | false =>
    exact va_get (D := (dC, dI)) (ci := kc a) (v := vl ad (gfv (kc a) j r a o μ)) hx hb hts (lays_in (kc a) hc) hown hW.1 hP q0 he (cls_at hc) j hj (hts _ (mem_G h1 rfl)) (fun _ h => h) (gf_at hj) hd (kk hok)
  | true =>
    exact va_getN (D := (dC, dI)) (ci := kc a) (v := vl ad (gfv (kc a) j r a o μ)) hx hb hts (lays_in (kc a) hc) hown hW.1 hP q0 he (cls_at hc) j hj (va_Nw.use rfl (hW.2.2.2.2.2 _ (List.mem_of_getElem? h1) rfl)) (fun _ h => h) (gf_at hj) hd (kk hok)
theorem gf_set {c j : Nat} (hj : j < cN c) (hk : fk c j = none) {r a o : Nat} {v : Int32} : ((List.range (cN c)).map (fun j => vl ad (gfv c j r a o μ))).set j (.int v) = (List.range (cN c)).map (fun i => vl ad (gfv c i r a o (mset μ r a o j v))) := by
  apply List.ext_getElem?
  intro i
  rw [List.getElem?_set]
  by_cases hi : j = i
  · subst hi
    rw [if_pos rfl, List.length_map, List.length_range, if_pos hj, List.getElem?_map, List.getElem?_range hj]
    show some _ = some (vl ad _)
    unfold gfv
    rw [hk]
    show some (Value.int v) = some (.int (mset μ r a o j v r a o j))
    unfold mset
    rw [mrow_self, va_up_self]
  · rw [if_neg hi, List.getElem?_map, List.getElem?_map]
    by_cases hl : i < cN c
    · rw [List.getElem?_range hl]
      show some (vl ad _) = some (vl ad _)
      unfold gfv
      cases hfk : fk c i with
      | none =>
        show some (Value.int _) = some (.int (mset μ r a o j v r a o i))
        unfold mset
        rw [mrow_self, va_up_ne _ _ (fun e => hi e.symm)]
      | some z => rfl
    · rw [List.getElem?_eq_none (by rw [List.length_range]; omega)]
      rfl
theorem sn_put (X : Cx dC dI cI cS ad p R s m args c cells slots d y) (hP : va_P (dC, dI) cls10 (wl cI cS ad μ) H) (hS : va_S (A0 ad) s.heap H locs) {x r a o k j q : Nat} {b : Bool} {v : Int32} (hd : decode (mB y) pc = .ok (.putfield x, 3)) (hf : fT (mO y) x = some (k, j, b, q)) (hk : kc a = k) (hr : okr r a o) (hfk : fk k j = none) (hbz : bz k j = true → v = 0 ∨ v = 1)
    (kk : ∀ (H1 : Heap) (locs1 : List Loc), va_P (dC, dI) cls10 (wl cI cS ad (mset μ r a o j v)) H1 → va_S (A0 ad) s.heap H1 locs1 → W p l e R s m args below meth c H1 locs1 cells slots Q (F0 m (pc + 3) ls rest)) : W p l e R s m args below meth c H locs cells slots Q (F0 m pc ls (.int v :: .ref (ad r a o) :: rest)) := by
  obtain ⟨hx, hb, hml, hown, hts, hW, -⟩ := X
  obtain ⟨h1, hc, hj⟩ := fT_spec (mO_lt y) hf
  subst hk
  have hkey : (r, a, o) ∈ keys := key_of hr (by omega)
  obtain ⟨q0, hq, he⟩ := wl_at (cI := cI) (cS := cS) (ad := ad) (μ := μ) hkey
  rw [cE_obj hc] at he
  obtain ⟨ty0, hty, hnm⟩ := fld_in hc
  obtain ⟨hpd, hfin⟩ := ty_in hc hj hfk
  have hn : narrow (tyF (kc a) j) (.int v) = .int v ∧ fits (tyF (kc a) j) (.int v) = true := by
    unfold tyF
    cases hz : bz (kc a) j with
    | false => exact ⟨rfl, rfl⟩
    | true => rcases hbz hz with rfl | rfl <;> exact ⟨rfl, rfl⟩
  have hset : ∀ (H1 : Heap), va_P (dC, dI) cls10 ((wl cI cS ad μ).set q0 (ad r a o, .inr (kc a, ((List.range (cN (kc a))).map (fun j => vl ad (gfv (kc a) j r a o μ))).set j (.int v)))) H1 → va_P (dC, dI) cls10 (wl cI cS ad (mset μ r a o j v)) H1 := by
    intro H1 h
    rw [gf_set hj hfk, ← cE_obj (cI := cI) (cS := cS) hc, wl_mset hq] at h
    exact h
  cases b with
  | false =>
    exact va_put (D := (dC, dI)) (ci := kc a) hx hb hts (lays_in (kc a) hc) ty0 hty hnm hown hW.1 hP (wl_D hW.2.1) hS q0 he (cls_at hc) j hj (hts _ (mem_G h1 rfl)) (fun _ h => h) hfin hpd hn.1 hn.2 (by rw [List.length_map, List.length_range]; exact hj) hd (fun H1 locs1 h2 _ h4 => kk H1 locs1 (hset H1 h2) h4)
  | true =>
    exact va_putN (D := (dC, dI)) (ci := kc a) hx hb hts (lays_in (kc a) hc) ty0 hty hnm hown hW.1 hP (wl_D hW.2.1) hS q0 he (cls_at hc) j hj (va_Nw.use rfl (hW.2.2.2.2.2 _ (List.mem_of_getElem? h1) rfl)) (fun _ h => h) hfin hpd hn.1 hn.2 (by rw [List.length_map, List.length_range]; exact hj) hd (fun H1 locs1 h2 _ h4 => kk H1 locs1 (hset H1 h2) h4)
theorem sn_iald (X : Cx dC dI cI cS ad p R s m args c cells slots d y) (hP : va_P (dC, dI) cls10 (wl cI cS ad μ) H) {r a o : Nat} {i : Int32} (hd : decode (mB y) pc = .ok (.iaload, 1)) (hk : kc a = 10) (hr : okr r a o) (hin : vp_in i (al a))
    (kk : W p l e R s m args below meth c H locs cells slots Q (F0 m (pc + 1) ls (.int (μ r a o i.toNatClampNeg) :: rest))) : W p l e R s m args below meth c H locs cells slots Q (F0 m pc ls (.int i :: .ref (ad r a o) :: rest)) := by
  obtain ⟨hx, hb, hml, hown, hts, hW, -⟩ := X
  have hkey : (r, a, o) ∈ keys := key_of hr (by omega)
  obtain ⟨q0, hq, he⟩ := wl_at (cI := cI) (cS := cS) (ad := ad) (μ := μ) hkey
  rw [cE_arr hk] at he
  exact va_iald (D := (dC, dI)) hx hb hW.1 hP q0 0 he rfl hin hd kk
theorem sn_imld (X : Cx dC dI cI cS ad p R s m args c cells slots d y) (hS : va_S (A0 ad) s.heap H locs) {r a o : Nat} {i : Int32} (hd : decode (mB y) pc = .ok (.iaload, 1)) (hk : kc a = 12) (hr : okr r a o) (hin : vp_in i (al a))
    (kk : W p l e R s m args below meth c H locs cells slots Q (F0 m (pc + 1) ls (.int (imC a i.toNatClampNeg) :: rest))) : W p l e R s m args below meth c H locs cells slots Q (F0 m pc ls (.int i :: .ref (ad r a o) :: rest)) := by
  obtain ⟨hx, hb, hml, hown, hts, hW, -⟩ := X
  rcases hr with h | ⟨rfl, ha, rfl⟩
  · have h2 := keys_chk h
    unfold chkK at h2
    simp only [Bool.and_eq_true, Bool.or_eq_true, decide_eq_true_eq] at h2
    rcases h2.1 with (h3 | h3) | h3 <;> omega
  · have hal : al a = 10 := by rcases ha with rfl | rfl <;> decide
    rw [hal] at hin
    exact va_ti (f := fun i => .int (imC a i)) hx hb (hW.2.2.1 a ha) hS hin rfl hd kk
theorem sn_iast (X : Cx dC dI cI cS ad p R s m args c cells slots d y) (hP : va_P (dC, dI) cls10 (wl cI cS ad μ) H) (hS : va_S (A0 ad) s.heap H locs) {r a o : Nat} {i v : Int32} (hd : decode (mB y) pc = .ok (.iastore, 1)) (hk : kc a = 10) (hr : okr r a o) (hin : vp_in i (al a))
    (kk : ∀ (H1 : Heap) (locs1 : List Loc), va_P (dC, dI) cls10 (wl cI cS ad (mset μ r a o i.toNatClampNeg v)) H1 → va_S (A0 ad) s.heap H1 locs1 → W p l e R s m args below meth c H1 locs1 cells slots Q (F0 m (pc + 1) ls rest)) : W p l e R s m args below meth c H locs cells slots Q (F0 m pc ls (.int v :: .int i :: .ref (ad r a o) :: rest)) := by
  obtain ⟨hx, hb, hml, hown, hts, hW, -⟩ := X
  have hkey : (r, a, o) ∈ keys := key_of hr (by omega)
  obtain ⟨q0, hq, he⟩ := wl_at (cI := cI) (cS := cS) (ad := ad) (μ := μ) hkey
  rw [cE_arr hk] at he
  refine va_iast (D := (dC, dI)) hx hb hW.1 hP (wl_D hW.2.1) hS q0 0 he rfl hin hd (fun H1 locs1 h2 _ h4 => kk H1 locs1 ?_ h4)
  have h5 : (Sum.inl (cI, al a, Sum.inl (upd (μ r a o) i.toNatClampNeg v)) : va_E) = cE cI cS ad (mset μ r a o i.toNatClampNeg v) (r, a, o) := by
    rw [cE_arr hk]
    unfold mset
    rw [mrow_self]
    rfl
  rw [h5, wl_mset hq] at h2
  exact h2
theorem sn_aald (X : Cx dC dI cI cS ad p R s m args c cells slots d y) (hP : va_P (dC, dI) cls10 (wl cI cS ad μ) H) {r a o : Nat} {i : Int32} (hd : decode (mB y) pc = .ok (.aaload, 1)) (hk : kc a = 11) (hr : okr r a o) (hin : vp_in i 6)
    (kk : okr r (a + 1) i.toNatClampNeg → W p l e R s m args below meth c H locs cells slots Q (F0 m (pc + 1) ls (.ref (ad r (a + 1) i.toNatClampNeg) :: rest))) : W p l e R s m args below meth c H locs cells slots Q (F0 m pc ls (.int i :: .ref (ad r a o) :: rest)) := by
  obtain ⟨hx, hb, hml, hown, hts, hW, -⟩ := X
  have hkey : (r, a, o) ∈ keys := key_of hr (by omega)
  obtain ⟨q0, hq, he⟩ := wl_at (cI := cI) (cS := cS) (ad := ad) (μ := μ) hkey
  rw [cE_svc hk] at he
  have h2 := keys_chk hkey
  unfold chkK at h2
  simp only [Bool.and_eq_true, Bool.or_eq_true, decide_eq_true_eq, List.all_eq_true, List.mem_range] at h2
  have hlt : i.toNatClampNeg < 6 := Nat.not_le.mp fun q => hin (Or.inr q)
  have hok : okr r (a + 1) i.toNatClampNeg := by
    rcases h2.1 with (h3 | h3) | h3
    · omega
    · exact Or.inl (h3.2 _ hlt)
    · omega
  exact va_aldq (D := (dC, dI)) (C := RX5) hx hb hW.1 hP q0 1 he rfl hin hd (kk hok)
theorem sn_alen (X : Cx dC dI cI cS ad p R s m args c cells slots d y) (hP : va_P (dC, dI) cls10 (wl cI cS ad μ) H) {r a o : Nat} (hd : decode (mB y) pc = .ok (.arraylength, 1)) (hk : kc a = 10) (hr : okr r a o)
    (kk : W p l e R s m args below meth c H locs cells slots Q (F0 m (pc + 1) ls (.int (nI (al a)) :: rest))) : W p l e R s m args below meth c H locs cells slots Q (F0 m pc ls (.ref (ad r a o) :: rest)) := by
  obtain ⟨hx, hb, hml, hown, hts, hW, -⟩ := X
  have hkey : (r, a, o) ∈ keys := key_of hr (by omega)
  obtain ⟨q0, hq, he⟩ := wl_at (cI := cI) (cS := cS) (ad := ad) (μ := μ) hkey
  rw [cE_arr hk] at he
  exact va_alen (D := (dC, dI)) hx hb hW.1 hP q0 0 he (ty := .int) rfl rfl hd kk
theorem sn_cpy (X : Cx dC dI cI cS ad p R s m args c cells slots d y) (hlsz : ls.size = mL y) (hP : va_P (dC, dI) cls10 (wl cI cS ad μ) H) (hS : va_S (A0 ad) s.heap H locs) {x q r a o r' a' o' : Nat} {sp dp k : Int32} (hd : decode (mB y) pc = .ok (.invokestatic x, 3)) (hc : cT (mO y) x = some (900, q)) (hk : kc a = 10) (hk' : kc a' = 10) (hr : okr r a o) (hr' : okr r' a' o') (h1 : ¬ sp < 0) (h2 : ¬ dp < 0) (h3 : ¬ k < 0) (h4 : sp.toNatClampNeg + k.toNatClampNeg ≤ al a) (h5 : dp.toNatClampNeg + k.toNatClampNeg ≤ al a') (hl : (rest.map fun v => v.category).sum ≤ 8)
    (kk : ∀ (H1 : Heap) (locs1 : List Loc), va_P (dC, dI) cls10 (wl cI cS ad (mrow μ r' a' o' (va_cpy (μ r a o) (μ r' a' o') sp.toNatClampNeg dp.toNatClampNeg k.toNatClampNeg))) H1 → va_S (A0 ad) s.heap H1 locs1 → W p l e R s m args below meth c H1 locs1 cells slots Q (F0 m (pc + 3) ls rest)) : W p l e R s m args below meth c H locs cells slots Q (F0 m pc ls (.int k :: .int dp :: .ref (ad r' a' o') :: .int sp :: .ref (ad r a o) :: rest)) := by
  obtain ⟨hx, hb, hml, hown, hts, hW, hfr, hlo, -⟩ := X
  have hkey : (r, a, o) ∈ keys := key_of hr (by omega)
  obtain ⟨q0, hq, he⟩ := wl_at (cI := cI) (cS := cS) (ad := ad) (μ := μ) hkey
  rw [cE_arr hk] at he
  have hkey' : (r', a', o') ∈ keys := key_of hr' (by omega)
  obtain ⟨q1, hq1, he1⟩ := wl_at (cI := cI) (cS := cS) (ad := ad) (μ := μ) hkey'
  rw [cE_arr hk'] at he1
  have g1 : Cond.native arraycopyName ∈ tblG := mem_G (q := 290) rfl rfl
  have g2 : Cond.static arraycopyName ∈ tblG := mem_G (q := 289) rfl rfl
  have g3 : Cond.initialized "java/lang/System" ∈ tblG := mem_G (q := 66) rfl rfl
  have hnf : nativeFrameWords "java/lang/System" "arraycopy" 5 + 11 ≤ 56 := by decide +kernel
  refine va_copyi (D := (dC, dI)) hx hb (hml.trans hlsz.symm) hown (hts _ (mem_G (cT_cpy (mO_lt y) hc) rfl)) (hts _ g1) (hts _ g2) (hts _ g3) hW.1 hP (wl_D hW.2.1) hS q0 q1 0 0 he he1 rfl rfl rfl h1 h2 h3 h4 h5 (fun _ _ => rfl) (by omega) (by omega) hd (fun H1 locs1 h2 _ h4 => kk H1 locs1 ?_ h4)
  have h6 : (Sum.inl (cI, al a', Sum.inl (va_cpy (μ r a o) (μ r' a' o') sp.toNatClampNeg dp.toNatClampNeg k.toNatClampNeg)) : va_E) = cE cI cS ad (mrow μ r' a' o' (va_cpy (μ r a o) (μ r' a' o') sp.toNatClampNeg dp.toNatClampNeg k.toNatClampNeg)) (r', a', o') := by
    rw [cE_arr hk', mrow_self]
  rw [h6, wl_row hq1] at h2
  exact h2
theorem SP.blind {as : List Value} : FrameBlind (va_Pc as (SP dC dI cI cS ad μ)) := by
  intro a U g mk ⟨h1, h2, h3⟩
  obtain ⟨k1, k2, k3, k4, k5, k6⟩ := h3
  have al : U.vm.Alike (U.calling g mk a).vm := Vm.Alike.refl U.vm
  exact ⟨h1, h2, va_K.moved (u := U) (U := U.calling g mk a) al k1, k2, fun z hz => va_T.moved (u := U) (U := U.calling g mk a) al (k3 z hz), va_Z.moved (u := U) (U := U.calling g mk a) al k4, va_Z.moved (u := U) (U := U.calling g mk a) al k5, fun w hw hn => va_Nw.same (u := U) (nest_on hn) rfl (k6 w hw hn)⟩
theorem Wst.go {s U : State} (hS : va_S (A0 ad) s.heap H locs) (hU : U.heap = H) (hW : s.WarmedH U.vm) (h : Wst dC dI cI cS ad s) : Wst dC dI cI cS ad U := by
  obtain ⟨k1, k2, k3, k4, k5, k6⟩ := h
  have hk : ∀ q : Nat, q < s.heap.size → ¬ A0 ad q → U.heap[q]? = s.heap[q]? := fun q h1 h2 => by rw [hU]; exact hS.2.1 q h1 h2
  refine ⟨va_K.moved hW.alike k1, k2, fun z hz => (va_T.moved hW.alike (k3 z hz)).kept hk, (va_Z.moved hW.alike k4).kept hk, (va_Z.moved hW.alike k5).kept hk, fun w hw hn => ?_⟩
  have h0 := k6 w hw hn
  unfold isNest at hn
  split at hn
  · exact va_Nw.warmF hW h0
  · cases hn
theorem chkM_spec {z : Nat} (hz : z < 131) : ow (mO z) = (mN z).cls ∧ plainFor (mN z) = true ∧ (mN z).cls ≠ "java/lang/invoke/MethodHandle" ∧ (mN z).cls ≠ "java/lang/invoke/VarHandle" ∧ (parseMethodDescriptor (mN z).desc).map (fun d => d.parameters.length) = some (mK z) ∧ lw_tbl[mZ z]? = some (.initialized (mN z).cls) ∧ (if mS z then lw_tbl[mI z]? = some (.static (mN z)) else lw_tbl[mI z]? = some (.instanceMethod (mN z)) ∧ lw_tbl[mX z]? = some (.selects (mN z).cls (mN z) (mN z))) ∧ mL z ≤ 20 ∧ (mS z = false → mO z < 10) := by
  have h := chkM_ok z hz
  unfold chkM at h
  simp only [Bool.and_eq_true, beq_iff_eq, bne_iff_ne, decide_eq_true_eq] at h
  obtain ⟨⟨⟨⟨⟨⟨⟨⟨h1, h2⟩, h3⟩, h4⟩, h5⟩, h6⟩, h7⟩, h8⟩, h9⟩ := h
  refine ⟨h1, h2, h3, h4, h5, h6, ?_, h8, ?_⟩
  · cases hs : mS z with
    | true => rw [hs] at h7; simpa using h7
    | false => rw [hs] at h7; simpa using h7
  · intro hs
    rw [hs] at h9
    simpa using h9
theorem cb_of (X : Cx dC dI cI cS ad p R s m args c cells slots d y) {x z q : Nat} (hc : cT (mO y) x = some (z, q)) (hz : ¬ z = 900) : CallB R s args (ow (mO y)) x (mN z) (mB z) (mL z) (mR z) (wsU z) (rmd d) 0 0 (mK z) ∧ z < 131 := by
  obtain ⟨hx, hb, hml, hown, hts, hW, hfr, hlo, -⟩ := X
  obtain ⟨h1, h2⟩ := cT_spec (mO_lt y) hc hz
  obtain ⟨k1, k2, k3, k4, k5, k6, k7, k8, k9⟩ := chkM_spec h2
  refine ⟨callB_of (Ts := tblG) (mK z) hts ?_ rfl rfl rfl (hts _ (mem_G k6 rfl)) (hts _ (mem_G h1 rfl)) ⟨k3, k4, k5⟩ ⟨?_, ?_⟩, h2⟩
  · intro w hw
    rcases List.mem_cons.mp hw with rfl | hw
    · exact good_G _ (code_in h2)
    · exact good_G _ hw
  · show d + 1 ≤ R.frames; exact hfr
  · show 8 + (mL z + 11) + 64 * d ≤ R.locals; omega
theorem cat_sum (L : List AV) : ((L.map (vl ad)).map fun v => v.category).sum = L.length := by
  induction L with
  | nil => rfl
  | cons a L ih =>
    rw [List.map_cons, List.map_cons, List.sum_cons, ih, vl_cat, List.length_cons]; omega
theorem sn_after (hS : va_S (A0 ad) s.heap H locs) : (∀ q, q < H.size → A0 ad q → A0 ad q) ∧ ∀ q, A0 ad q → A0 ad q := ⟨fun _ _ h => h, fun _ h => h⟩
theorem sn_virV {C : Nat → List AV → Mem → Res → Prop} (hC : Snd l dC dI cI cS ad d C) (X : Cx dC dI cI cS ad p R s m args c cells slots d y) (hlsz : ls.size = mL y) (hP : va_P (dC, dI) cls10 (wl cI cS ad μ) H) (hS : va_S (A0 ad) s.heap H locs) {x z q r a o : Nat} {As S1 : List AV} {μ' : Mem} (hd : decode (mB y) pc = .ok (.invokevirtual x, 3)) (hc : cT (mO y) x = some (z, q)) (hz : ¬ z = 900) (hs : mS z = false) (hn : As.length = mK z) (hk : kc a = mO z) (hr : okr r a o) (hl : S1.length ≤ 8) (hAs : ∀ v ∈ As, okv v) (hcall : C z (.inr (r, a, o) :: As) μ (none, μ'))
    (kk : ∀ (H1 : Heap) (locs1 : List Loc), va_P (dC, dI) cls10 (wl cI cS ad μ') H1 → va_S (A0 ad) s.heap H1 locs1 → W p l e R s m args below meth c H1 locs1 cells slots Q (F0 m (pc + 3) ls (S1.map (vl ad)))) : W p l e R s m args below meth c H locs cells slots Q (F0 m pc ls ((As.reverse ++ .inr (r, a, o) :: S1).map (vl ad))) := by
  obtain ⟨hcb, hz2⟩ := cb_of X hc hz
  obtain ⟨hx, hb, hml, hown, hts, hW, hfr, hlo, hce, hsl⟩ := X
  obtain ⟨k1, k2, k3, k4, k5, k6, k7, k8, k9⟩ := chkM_spec hz2
  rw [hs] at k7
  have k10 := k9 hs
  have hkey : (r, a, o) ∈ keys := key_of hr (by omega)
  obtain ⟨q0, hq, he⟩ := wl_at (cI := cI) (cS := cS) (ad := ad) (μ := μ) hkey
  rw [cE_obj (by omega)] at he
  have hM := hC z (.inr (r, a, o) :: As) μ (none, μ') hcall hz2 (fun v hv => (List.mem_cons.mp hv).elim (fun e => e ▸ hr) (hAs v))
  have hcl : (clT (mO z)).1 = (mN z).cls := by
    rw [← k1]
    have : ∀ k, k < 10 → (clT k).1 = ow k := by decide +kernel
    exact this _ k10
  have hrec := va_recv hW.1 hP (cls_at (c := kc a) (by omega)) he
  rw [hk] at hrec
  dsimp only at hrec
  rw [hcl] at hrec
  have hstk : (F0 m pc ls ((As.reverse ++ .inr (r, a, o) :: S1).map (vl ad))).stack = (As.map (vl ad)).reverse ++ .ref (ad r a o) :: S1.map (vl ad) := by
    show (As.reverse ++ .inr (r, a, o) :: S1).map (vl ad) = _
    rw [List.map_append, List.map_reverse]; rfl
  refine va_callv (va_runV (C := (mN z).cls) (nL := mL y) (As := As.map (vl ad)) (rest := S1.map (vl ad)) (b := ad r a o) ⟨hx, hb, hml, hown, hts⟩ hM ⟨hcb, hts _ (mem_G k7.1 rfl), hts _ (mem_G k7.2 rfl)⟩ ⟨SP.blind, hrec, fun U hU hWa => ⟨rfl, by rw [hU]; exact hP, hW.go hS hU hWa⟩⟩ rfl (by rw [List.length_map]; exact hn) hlsz hstk (lv_room (by rw [cat_sum]; exact hl)) hd ⟨by omega, by omega⟩) hS (sn_after hS).1 (sn_after hS).2 (fun u t H1 locs1 ht hvm hw hB hz1 hk1 hS1 => ?_)
  rw [ht] at hB
  exact kk H1 locs1 hB hS1
theorem sn_virI {C : Nat → List AV → Mem → Res → Prop} (hC : Snd l dC dI cI cS ad d C) (X : Cx dC dI cI cS ad p R s m args c cells slots d y) (hlsz : ls.size = mL y) (hP : va_P (dC, dI) cls10 (wl cI cS ad μ) H) (hS : va_S (A0 ad) s.heap H locs) {x z q r a o : Nat} {As S1 : List AV} {v : Int32} {μ' : Mem} (hd : decode (mB y) pc = .ok (.invokevirtual x, 3)) (hc : cT (mO y) x = some (z, q)) (hz : ¬ z = 900) (hs : mS z = false) (hn : As.length = mK z) (hk : kc a = mO z) (hr : okr r a o) (hl : S1.length ≤ 8) (hAs : ∀ v ∈ As, okv v) (hcall : C z (.inr (r, a, o) :: As) μ (some v, μ'))
    (kk : ∀ (H1 : Heap) (locs1 : List Loc), va_P (dC, dI) cls10 (wl cI cS ad μ') H1 → va_S (A0 ad) s.heap H1 locs1 → W p l e R s m args below meth c H1 locs1 cells slots Q (F0 m (pc + 3) ls (.int v :: S1.map (vl ad)))) : W p l e R s m args below meth c H locs cells slots Q (F0 m pc ls ((As.reverse ++ .inr (r, a, o) :: S1).map (vl ad))) := by
  obtain ⟨hcb, hz2⟩ := cb_of X hc hz
  obtain ⟨hx, hb, hml, hown, hts, hW, hfr, hlo, hce, hsl⟩ := X
  obtain ⟨k1, k2, k3, k4, k5, k6, k7, k8, k9⟩ := chkM_spec hz2
  rw [hs] at k7
  have k10 := k9 hs
  have hkey : (r, a, o) ∈ keys := key_of hr (by omega)
  obtain ⟨q0, hq, he⟩ := wl_at (cI := cI) (cS := cS) (ad := ad) (μ := μ) hkey
  rw [cE_obj (by omega)] at he
  have hM := hC z (.inr (r, a, o) :: As) μ (some v, μ') hcall hz2 (fun v hv => (List.mem_cons.mp hv).elim (fun e => e ▸ hr) (hAs v))
  have hcl : (clT (mO z)).1 = (mN z).cls := by
    rw [← k1]
    have : ∀ k, k < 10 → (clT k).1 = ow k := by decide +kernel
    exact this _ k10
  have hrec := va_recv hW.1 hP (cls_at (c := kc a) (by omega)) he
  rw [hk] at hrec
  dsimp only at hrec
  rw [hcl] at hrec
  have hstk : (F0 m pc ls ((As.reverse ++ .inr (r, a, o) :: S1).map (vl ad))).stack = (As.map (vl ad)).reverse ++ .ref (ad r a o) :: S1.map (vl ad) := by
    show (As.reverse ++ .inr (r, a, o) :: S1).map (vl ad) = _
    rw [List.map_append, List.map_reverse]; rfl
  refine va_calli (va_runV (C := (mN z).cls) (nL := mL y) (As := As.map (vl ad)) (rest := S1.map (vl ad)) (b := ad r a o) ⟨hx, hb, hml, hown, hts⟩ hM ⟨hcb, hts _ (mem_G k7.1 rfl), hts _ (mem_G k7.2 rfl)⟩ ⟨SP.blind, hrec, fun U hU hWa => ⟨rfl, by rw [hU]; exact hP, hW.go hS hU hWa⟩⟩ rfl (by rw [List.length_map]; exact hn) hlsz hstk (lv_room (by rw [cat_sum]; exact hl)) hd ⟨by omega, by omega⟩) hS (sn_after hS).1 (sn_after hS).2 (fun r1 u t H1 locs1 ht hvm hw hB hz1 hk1 hS1 => ?_)
  rw [ht] at hB
  subst hw
  exact kk H1 locs1 hB hS1
theorem sn_staV {C : Nat → List AV → Mem → Res → Prop} (hC : Snd l dC dI cI cS ad d C) (X : Cx dC dI cI cS ad p R s m args c cells slots d y) (hlsz : ls.size = mL y) (hP : va_P (dC, dI) cls10 (wl cI cS ad μ) H) (hS : va_S (A0 ad) s.heap H locs) {x z q : Nat} {As S1 : List AV} {μ' : Mem} (hd : decode (mB y) pc = .ok (.invokestatic x, 3)) (hc : cT (mO y) x = some (z, q)) (hz : ¬ z = 900) (hs : mS z = true) (hn : As.length = mK z) (hl : S1.length ≤ 8) (hAs : ∀ v ∈ As, okv v) (hcall : C z As μ (none, μ'))
    (kk : ∀ (H1 : Heap) (locs1 : List Loc), va_P (dC, dI) cls10 (wl cI cS ad μ') H1 → va_S (A0 ad) s.heap H1 locs1 → W p l e R s m args below meth c H1 locs1 cells slots Q (F0 m (pc + 3) ls (S1.map (vl ad)))) : W p l e R s m args below meth c H locs cells slots Q (F0 m pc ls ((As.reverse ++ S1).map (vl ad))) := by
  obtain ⟨hcb, hz2⟩ := cb_of X hc hz
  obtain ⟨hx, hb, hml, hown, hts, hW, hfr, hlo, hce, hsl⟩ := X
  obtain ⟨k1, k2, k3, k4, k5, k6, k7, k8, k9⟩ := chkM_spec hz2
  rw [hs] at k7
  have hM := hC z As μ (none, μ') hcall hz2 hAs
  have hstk : (F0 m pc ls ((As.reverse ++ S1).map (vl ad))).stack = (As.map (vl ad)).reverse ++ S1.map (vl ad) := by
    show (As.reverse ++ S1).map (vl ad) = _
    rw [List.map_append, List.map_reverse]
  refine va_callv (va_runS (nL := mL y) (As := As.map (vl ad)) (rest := S1.map (vl ad)) ⟨hx, hb, hml, hown, hts⟩ hM ⟨hcb, hts _ (mem_G k7 rfl)⟩ ⟨SP.blind, fun U hU hWa => ⟨rfl, by rw [hU]; exact hP, hW.go hS hU hWa⟩⟩ rfl (by rw [List.length_map]; exact hn) hlsz hstk (lv_room (by rw [cat_sum]; exact hl)) hd ⟨by omega, by omega⟩) hS (sn_after hS).1 (sn_after hS).2 (fun u t H1 locs1 ht hvm hw hB hz1 hk1 hS1 => ?_)
  rw [ht] at hB
  exact kk H1 locs1 hB hS1
theorem sn_staI {C : Nat → List AV → Mem → Res → Prop} (hC : Snd l dC dI cI cS ad d C) (X : Cx dC dI cI cS ad p R s m args c cells slots d y) (hlsz : ls.size = mL y) (hP : va_P (dC, dI) cls10 (wl cI cS ad μ) H) (hS : va_S (A0 ad) s.heap H locs) {x z q : Nat} {As S1 : List AV} {v : Int32} {μ' : Mem} (hd : decode (mB y) pc = .ok (.invokestatic x, 3)) (hc : cT (mO y) x = some (z, q)) (hz : ¬ z = 900) (hs : mS z = true) (hn : As.length = mK z) (hl : S1.length ≤ 8) (hAs : ∀ v ∈ As, okv v) (hcall : C z As μ (some v, μ'))
    (kk : ∀ (H1 : Heap) (locs1 : List Loc), va_P (dC, dI) cls10 (wl cI cS ad μ') H1 → va_S (A0 ad) s.heap H1 locs1 → W p l e R s m args below meth c H1 locs1 cells slots Q (F0 m (pc + 3) ls (.int v :: S1.map (vl ad)))) : W p l e R s m args below meth c H locs cells slots Q (F0 m pc ls ((As.reverse ++ S1).map (vl ad))) := by
  obtain ⟨hcb, hz2⟩ := cb_of X hc hz
  obtain ⟨hx, hb, hml, hown, hts, hW, hfr, hlo, hce, hsl⟩ := X
  obtain ⟨k1, k2, k3, k4, k5, k6, k7, k8, k9⟩ := chkM_spec hz2
  rw [hs] at k7
  have hM := hC z As μ (some v, μ') hcall hz2 hAs
  have hstk : (F0 m pc ls ((As.reverse ++ S1).map (vl ad))).stack = (As.map (vl ad)).reverse ++ S1.map (vl ad) := by
    show (As.reverse ++ S1).map (vl ad) = _
    rw [List.map_append, List.map_reverse]
  refine va_calli (va_runS (nL := mL y) (As := As.map (vl ad)) (rest := S1.map (vl ad)) ⟨hx, hb, hml, hown, hts⟩ hM ⟨hcb, hts _ (mem_G k7 rfl)⟩ ⟨SP.blind, fun U hU hWa => ⟨rfl, by rw [hU]; exact hP, hW.go hS hU hWa⟩⟩ rfl (by rw [List.length_map]; exact hn) hlsz hstk (lv_room (by rw [cat_sum]; exact hl)) hd ⟨by omega, by omega⟩) hS (sn_after hS).1 (sn_after hS).2 (fun r1 u t H1 locs1 ht hvm hw hB hz1 hk1 hS1 => ?_)
  rw [ht] at hB
  subst hw
  exact kk H1 locs1 hB hS1
theorem sn_gets (X : Cx dC dI cI cS ad p R s m args c cells slots d y) (hS : va_S (A0 ad) s.heap H locs) {x a : Nat} (hd : decode (mB y) pc = .ok (.getstatic x, 3)) (hg : gT (mO y) x = some a)
    (kk : okr 9 a 0 → W p l e R s m args below meth c H locs cells slots Q (F0 m (pc + 3) ls (.ref (ad 9 a 0) :: rest))) : W p l e R s m args below meth c H locs cells slots Q (F0 m pc ls rest) := by
  obtain ⟨hx, hb, hml, hown, hts, hW, -⟩ := X
  unfold gT at hg
  split at hg
  · rename_i hh
    cases hg
    rw [hh.1] at hown
    rw [hh.2] at hd
    exact va_gets hx hb hW.2.2.2.1 hS hown (hts _ (mem_G (q := 402) rfl rfl)) (fun _ h => h) hd (kk (Or.inr ⟨rfl, Or.inl rfl, rfl⟩))
  · split at hg
    · rename_i hh
      cases hg
      rw [hh.1] at hown
      rw [hh.2] at hd
      exact va_gets hx hb hW.2.2.2.2.1 hS hown (hts _ (mem_G (q := 404) rfl rfl)) (fun _ h => h) hd (kk (Or.inr ⟨rfl, Or.inr rfl, rfl⟩))
    · cases hg
set_option maxRecDepth 20000 in
theorem sn_ldc (X : Cx dC dI cI cS ad p R s m args c cells slots d y) {x : Nat} {v : Int32} (hd : decode (mB y) pc = .ok (.ldc x, 2)) (hg : lT (mO y) x = some v)
    (kk : W p l e R s m args below meth c H locs cells slots Q (F0 m (pc + 2) ls (.int v :: rest))) : W p l e R s m args below meth c H locs cells slots Q (F0 m pc ls rest) := by
  obtain ⟨hx, hb, hml, hown, hts, hW, -⟩ := X
  unfold lT at hg
  split at hg
  · rename_i hh
    cases hg
    rw [hh.1] at hown
    rw [hh.2] at hd
    exact lv_ldc hx hb hown (hts _ (mem_G (q := 426) rfl rfl)) hd kk
  · split at hg
    · rename_i hh
      cases hg
      rw [hh.1] at hown
      rw [hh.2] at hd
      exact lv_ldc hx hb hown (hts _ (mem_G (q := 927) rfl rfl)) hd kk
    · cases hg
end SN2
