/-! THE ABSTRACT MACHINE IS SOUND, 1: the world of its memory -/
def vl (ad : Nat → Nat → Nat → Nat) (v : AV) : Value := match v with
  | .inl i => .int i
  | .inr q => .ref (ad q.1 q.2.1 q.2.2)
theorem vl_cat (ad : Nat → Nat → Nat → Nat) (v : AV) : (vl ad v).category = 1 := by cases v <;> rfl
def cE (cI cS : ClassId) (ad : Nat → Nat → Nat → Nat) (μ : Mem) (k : Nat × Nat × Nat) : va_E :=
  if kc k.2.1 = 10 then .inl (cI, al k.2.1, .inl (μ k.1 k.2.1 k.2.2))
  else if kc k.2.1 = 11 then .inl (cS, 6, .inr (.inr (.inr (.inr (fun i => some (ad k.1 (k.2.1 + 1) i))))))
  else .inr (kc k.2.1, (List.range (cN (kc k.2.1))).map (fun j => vl ad (gfv (kc k.2.1) j k.1 k.2.1 k.2.2 μ)))
def wl (cI cS : ClassId) (ad : Nat → Nat → Nat → Nat) (μ : Mem) : va_W := keys.map (fun k => (ad k.1 k.2.1 k.2.2, cE cI cS ad μ k))
def A0 (ad : Nat → Nat → Nat → Nat) : Nat → Prop := fun q => ∃ k ∈ keys, q = ad k.1 k.2.1 k.2.2
def Inj (ad : Nat → Nat → Nat → Nat) : Prop := ∀ k ∈ keys, ∀ k' ∈ keys, ad k.1 k.2.1 k.2.2 = ad k'.1 k'.2.1 k'.2.2 → k = k'
def isNest (w : Cond) : Bool := match w with
  | .fieldLinkNest _ _ _ _ _ _ => true
  | _ => false
def okr (r a o : Nat) : Prop := (r, a, o) ∈ keys ∨ (r = 9 ∧ (a = 90 ∨ a = 91) ∧ o = 0)
def okv (v : AV) : Prop := match v with
  | .inl _ => True
  | .inr q => okr q.1 q.2.1 q.2.2
def Wst (dC : Nat → ClassId) (dI : Nat → Nat → Nat) (cI cS : ClassId) (ad : Nat → Nat → Nat → Nat) (U : State) : Prop :=
  va_K (dC, dI) cls10 [(cI, .int), (cS, .object RX5)] U ∧ Inj ad ∧ (∀ a, a = 90 ∨ a = 91 → va_T .int (ad 9 a 0) 10 (fun i => .int (imC a i)) (A0 ad) U U.heap) ∧ va_Z RX7 "LEAST_OF_RULE" "[I" (.ref (ad 9 90 0)) (A0 ad) U U.heap ∧ va_Z RX7 "MOST_OF_RULE" "[I" (.ref (ad 9 91 0)) (A0 ad) U U.heap ∧ ∀ w ∈ lw_tbl, isNest w = true → va_Nw w U
def SP (dC : Nat → ClassId) (dI : Nat → Nat → Nat) (cI cS : ClassId) (ad : Nat → Nat → Nat → Nat) (μ : Mem) (U : State) : Prop := va_P (dC, dI) cls10 (wl cI cS ad μ) U.heap ∧ Wst dC dI cI cS ad U
def rmd (d : Nat) : Room := { frames := d, cells := 0, slots := 0, locals := 64 * d }
def wsU (y : Nat) : List Cond := Cond.code (mN y) (mB y) (mL y) (mR y) :: tblG
def Qm (dC : Nat → ClassId) (dI : Nat → Nat → Nat) (cI cS : ClassId) (ad : Nat → Nat → Nat → Nat) (res : Res) : Array Value → State → Outcome → State → Prop := match res.1 with
  | some v => va_Qi (fun r (_ : Unit) => r = v) (fun _ t => va_P (dC, dI) cls10 (wl cI cS ad res.2) t.heap) (A0 ad)
  | none => va_Qv (fun _ : Unit => True) (fun _ t => va_P (dC, dI) cls10 (wl cI cS ad res.2) t.heap) (A0 ad)
def Snd (l : Launch) (dC : Nat → ClassId) (dI : Nat → Nat → Nat) (cI cS : ClassId) (ad : Nat → Nat → Nat → Nat) (d : Nat) (C : Nat → List AV → Mem → Res → Prop) : Prop :=
  ∀ z as μ res, C z as μ res → z < 131 → (∀ v ∈ as, okv v) → Met l (mN z) (wsU z) (rmd d) (va_Pc (as.map (vl ad)) (SP dC dI cI cS ad μ)) (Qm dC dI cI cS ad res) 0 0 (A0 ad)
theorem nd_inj {α : Type} {l : List α} (h : l.Nodup) {i j : Nat} {x : α} (hi : l[i]? = some x) (hj : l[j]? = some x) : i = j := by
  obtain ⟨l1, e1⟩ := List.getElem?_eq_some_iff.mp hi
  obtain ⟨l2, e2⟩ := List.getElem?_eq_some_iff.mp hj
  have h := List.pairwise_iff_getElem.mp h
  rcases Nat.lt_trichotomy i j with q | q | q
  · exact absurd (e1.trans e2.symm) (h i j l1 l2 q)
  · exact q
  · exact absurd (e2.trans e1.symm) (h j i l2 l1 q)
theorem keys_chk {k : Nat × Nat × Nat} (h : k ∈ keys) : chkK k = true := List.all_eq_true.mp chkK_ok k h
theorem wl_at {cI cS : ClassId} {ad : Nat → Nat → Nat → Nat} {μ : Mem} {r a o : Nat} (h : (r, a, o) ∈ keys) : ∃ q0 : Nat, keys[q0]? = some (r, a, o) ∧ (wl cI cS ad μ)[q0]? = some (ad r a o, cE cI cS ad μ (r, a, o)) := by
  obtain ⟨q0, hq⟩ := List.mem_iff_getElem?.mp h
  exact ⟨q0, hq, by unfold wl; rw [List.getElem?_map, hq]; rfl⟩
theorem wl_set {cI cS : ClassId} {ad : Nat → Nat → Nat → Nat} {μ μ' : Mem} {k : Nat × Nat × Nat} {q0 : Nat} (hq : keys[q0]? = some k) (ho : ∀ k' : Nat × Nat × Nat, k' ≠ k → cE cI cS ad μ' k' = cE cI cS ad μ k') : (wl cI cS ad μ).set q0 (ad k.1 k.2.1 k.2.2, cE cI cS ad μ' k) = wl cI cS ad μ' := by
  apply List.ext_getElem?
  intro i
  rw [List.getElem?_set]
  unfold wl
  by_cases hi : q0 = i
  · subst hi
    have hlt : q0 < keys.length := (List.getElem?_eq_some_iff.mp hq).1
    rw [if_pos rfl, List.length_map, if_pos hlt, List.getElem?_map, hq]
    rfl
  · rw [if_neg hi, List.getElem?_map, List.getElem?_map]
    cases hk : keys[i]? with
    | none => rfl
    | some k' =>
      have hne : k' ≠ k := by
        rintro rfl
        exact hi (nd_inj keys_nd hq hk)
      show some (_, _) = some (_, _)
      rw [ho k' hne]
theorem mrow_ne {μ : Mem} {r a o : Nat} {f : Nat → Int32} {k : Nat × Nat × Nat} (h : k ≠ (r, a, o)) : mrow μ r a o f k.1 k.2.1 k.2.2 = μ k.1 k.2.1 k.2.2 := by
  obtain ⟨r', a', o'⟩ := k
  unfold mrow
  by_cases h1 : r' = r
  · subst h1
    rw [va_up_self]
    by_cases h2 : a' = a
    · subst h2
      rw [va_up_self]
      have h3 : o' ≠ o := fun e => h (by rw [e])
      rw [va_up_ne _ _ h3]
    · rw [va_up_ne _ _ h2]
  · rw [va_up_ne _ _ h1]
theorem mrow_self {μ : Mem} {r a o : Nat} {f : Nat → Int32} : mrow μ r a o f r a o = f := by
  unfold mrow; rw [va_up_self, va_up_self, va_up_self]
theorem cE_ne {cI cS : ClassId} {ad : Nat → Nat → Nat → Nat} {μ : Mem} {r a o : Nat} {f : Nat → Int32} {k : Nat × Nat × Nat} (h : k ≠ (r, a, o)) : cE cI cS ad (mrow μ r a o f) k = cE cI cS ad μ k := by
  unfold cE gfv
  rw [mrow_ne h]
theorem wl_row {cI cS : ClassId} {ad : Nat → Nat → Nat → Nat} {μ : Mem} {r a o : Nat} {f : Nat → Int32} {q0 : Nat} (hq : keys[q0]? = some (r, a, o)) : (wl cI cS ad μ).set q0 (ad r a o, cE cI cS ad (mrow μ r a o f) (r, a, o)) = wl cI cS ad (mrow μ r a o f) := wl_set hq (fun k' hk' => cE_ne hk')
theorem wl_mset {cI cS : ClassId} {ad : Nat → Nat → Nat → Nat} {μ : Mem} {r a o i : Nat} {v : Int32} {q0 : Nat} (hq : keys[q0]? = some (r, a, o)) : (wl cI cS ad μ).set q0 (ad r a o, cE cI cS ad (mset μ r a o i v) (r, a, o)) = wl cI cS ad (mset μ r a o i v) := wl_row hq
theorem nest_on {w : Cond} (h : isNest w = true) : w.onTables = true := by
  unfold isNest at h
  split at h
  · rfl
  · cases h
theorem wl_D {cI cS : ClassId} {ad : Nat → Nat → Nat → Nat} {μ : Mem} (hi : Inj ad) : va_D (A0 ad) (wl cI cS ad μ) := by
  constructor
  · intro i j p q hp hq hpq
    unfold wl at hp hq
    rw [List.getElem?_map] at hp hq
    cases h1 : keys[i]? with
    | none => rw [h1] at hp; cases hp
    | some k1 =>
      cases h2 : keys[j]? with
      | none => rw [h2] at hq; cases hq
      | some k2 =>
        rw [h1] at hp; rw [h2] at hq
        cases hp; cases hq
        have e := hi k1 (List.mem_of_getElem? h1) k2 (List.mem_of_getElem? h2) hpq
        subst e
        exact nd_inj keys_nd h1 h2
  · intro i q hq
    unfold wl at hq
    rw [List.getElem?_map] at hq
    cases h1 : keys[i]? with
    | none => rw [h1] at hq; cases hq
    | some k1 =>
      rw [h1] at hq; cases hq
      exact ⟨k1, List.mem_of_getElem? h1, rfl⟩
theorem cls_at {c : Nat} (h : c < 10) : cls10[c]? = some ((clT c).1, (clT c).2.1, (clT c).2.2) := by
  unfold clT
  rw [List.getD_eq_getElem?_getD]
  have hl : c < cls10.length := h
  rw [List.getElem?_eq_getElem hl]
  rfl
theorem key_of {r a o : Nat} (h : okr r a o) (hk : ¬ kc a = 12) : (r, a, o) ∈ keys := by
  rcases h with h | ⟨-, h | h, -⟩
  · exact h
  · subst h; exact absurd (by decide) hk
  · subst h; exact absurd (by decide) hk
theorem cE_arr {cI cS : ClassId} {ad : Nat → Nat → Nat → Nat} {μ : Mem} {r a o : Nat} (h : kc a = 10) : cE cI cS ad μ (r, a, o) = .inl (cI, al a, .inl (μ r a o)) := by
  unfold cE; rw [if_pos h]
theorem cE_svc {cI cS : ClassId} {ad : Nat → Nat → Nat → Nat} {μ : Mem} {r a o : Nat} (h : kc a = 11) : cE cI cS ad μ (r, a, o) = .inl (cS, 6, .inr (.inr (.inr (.inr (fun i => some (ad r (a + 1) i)))))) := by
  unfold cE; rw [if_neg (by show ¬ kc a = 10; rw [h]; decide), if_pos h]
theorem cE_obj {cI cS : ClassId} {ad : Nat → Nat → Nat → Nat} {μ : Mem} {r a o : Nat} (h : kc a < 10) : cE cI cS ad μ (r, a, o) = .inr (kc a, (List.range (cN (kc a))).map (fun j => vl ad (gfv (kc a) j r a o μ))) := by
  unfold cE; rw [if_neg (by show ¬ kc a = 10; omega), if_neg (by show ¬ kc a = 11; omega)]
/-- the locals -/
def LR (ad : Nat → Nat → Nat → Nat) (nL : Nat) (ls : Array Slot) (L : Lc) : Prop := lv_has ls nL [] ∧ L.length = nL ∧ ∀ (i : Nat) (v : AV), L[i]? = some (some v) → ls[i]? = some (.val (vl ad v))
def prs (ad : Nat → Nat → Nat → Nat) (L : Lc) : List (Nat × Value) := (List.range L.length).filterMap fun i => (L[i]?.join).map fun v => (i, vl ad v)
theorem prs_mem {ad : Nat → Nat → Nat → Nat} {L : Lc} {q : Nat × Value} : q ∈ prs ad L ↔ ∃ v, L[q.1]? = some (some v) ∧ q.2 = vl ad v := by
  unfold prs
  rw [List.mem_filterMap]
  constructor
  · rintro ⟨i, hi, h⟩
    obtain ⟨v, h1, h2⟩ := Option.map_eq_some_iff.mp h
    subst h2
    exact ⟨v, Option.join_eq_some_iff.mp h1, rfl⟩
  · rintro ⟨v, h1, h2⟩
    refine ⟨q.1, List.mem_range.mpr ((List.getElem?_eq_some_iff.mp h1).1), Option.map_eq_some_iff.mpr ⟨v, by rw [h1]; rfl, ?_⟩⟩
    rw [← h2]
theorem LR.has {ad : Nat → Nat → Nat → Nat} {nL : Nat} {ls : Array Slot} {L : Lc} (h : LR ad nL ls L) : lv_has ls nL (prs ad L) := by
  refine ⟨h.1.1, h.1.2.1, fun q hq => ?_⟩
  obtain ⟨v, h1, h2⟩ := prs_mem.mp hq
  rw [h2]
  exact h.2.2 _ _ h1
theorem LR.store {ad : Nat → Nat → Nat → Nat} {nL i : Nat} {ls ls' : Array Slot} {L : Lc} {v : AV} (h : LR ad nL ls L) (hi : i < L.length) (hl : lv_has ls' nL ((i, vl ad v) :: (prs ad L).filter (fun q => !(q.1 == i) && !(q.1 + 1 == i && q.2.category == 2)))) : LR ad nL ls' (L.set i (some v)) := by
  refine ⟨⟨hl.1, hl.2.1, fun q hq => by cases hq⟩, by rw [List.length_set]; exact h.2.1, fun j w hw => ?_⟩
  rw [List.getElem?_set] at hw
  by_cases hj : i = j
  · subst hj
    rw [if_pos rfl, if_pos hi] at hw
    cases hw
    exact hl.2.2 (i, vl ad v) List.mem_cons_self
  · rw [if_neg hj] at hw
    refine hl.2.2 (j, vl ad w) (List.mem_cons_of_mem _ (List.mem_filter.mpr ⟨prs_mem.mpr ⟨w, hw, rfl⟩, ?_⟩))
    have h1 : (j == i) = false := by simp; exact fun e => hj e.symm
    simp [h1, vl_cat]
theorem LR.set_len {ad : Nat → Nat → Nat → Nat} {nL : Nat} {ls : Array Slot} {L : Lc} (h : LR ad nL ls L) {k : Nat} (hk : k < L.length) : k < nL := h.2.1 ▸ hk
theorem okL_set {L : Lc} {i : Nat} {v : AV} (h : ∀ (j : Nat) (w : AV), L[j]? = some (some w) → okv w) (hv : okv v) : ∀ (j : Nat) (w : AV), (L.set i (some v))[j]? = some (some w) → okv w := by
  intro j w hw
  rw [List.getElem?_set] at hw
  by_cases hj : i = j
  · rw [if_pos hj] at hw
    by_cases hl : i < L.length
    · rw [if_pos hl] at hw; cases hw; exact hv
    · rw [if_neg hl] at hw; cases hw
  · rw [if_neg hj] at hw; exact h j w hw
theorem look_mem {α : Type} {l : List (Nat × α)} {i : Nat} {x : α} (h : List.lookup i l = some x) : (i, x) ∈ l := by
  induction l with
  | nil => cases h
  | cons q l ih =>
    obtain ⟨j, z⟩ := q
    rw [List.lookup_cons] at h
    by_cases hj : i == j
    · rw [hj] at h
      cases h
      rw [beq_iff_eq] at hj
      rw [hj]
      exact List.mem_cons_self
    · rw [Bool.not_eq_true] at hj
      rw [hj] at h
      exact List.mem_cons_of_mem _ (ih h)
theorem mO_lt (y : Nat) : mO y < 13 := by
  unfold mO
  by_cases h : y < mOs.length
  · rw [List.getD_eq_getElem?_getD, List.getElem?_eq_getElem h]
    have : ∀ x ∈ mOs, x < 13 := by decide +kernel
    exact this _ (List.getElem_mem h)
  · rw [List.getD_eq_getElem?_getD, List.getElem?_eq_none (by omega)]
    decide
theorem fT_spec {w i c j q : Nat} {b : Bool} (hw : w < 13) (h : fT w i = some (c, j, b, q)) : lw_tbl[q]? = some (if b then .fieldLinkNest (ow w) i ((clT c).2.1 j).1 ((clT c).2.1 j).2.1 ((clT c).2.1 j).2.2.1 (hostOf c) else .fieldLink (ow w) i ((clT c).2.1 j).1 ((clT c).2.1 j).2.1 ((clT c).2.1 j).2.2.1) ∧ c < 10 ∧ j < cN c := by
  have h1 := List.all_eq_true.mp (chkF_ok w hw) (i, c, j, b, q) (look_mem h)
  unfold chkF at h1
  simp only [Bool.and_eq_true, beq_iff_eq, decide_eq_true_eq] at h1
  exact ⟨h1.1.1, h1.1.2, h1.2⟩
theorem cT_spec {w i z q : Nat} (hw : w < 13) (h : cT w i = some (z, q)) (hz : ¬ z = 900) : lw_tbl[q]? = some (.methodLink (ow w) i (mN z)) ∧ z < 131 := by
  have h1 := List.all_eq_true.mp (chkC_ok w hw) (i, z, q) (look_mem h)
  unfold chkC at h1
  rw [if_neg hz] at h1
  simp only [Bool.and_eq_true, beq_iff_eq, decide_eq_true_eq] at h1
  exact h1
theorem cT_cpy {w i q : Nat} (hw : w < 13) (h : cT w i = some (900, q)) : lw_tbl[q]? = some (.methodLink (ow w) i arraycopyName) := by
  have h1 := List.all_eq_true.mp (chkC_ok w hw) (i, 900, q) (look_mem h)
  unfold chkC at h1
  rw [if_pos rfl] at h1
  simp only [beq_iff_eq] at h1
  exact h1
theorem fld_in {c : Nat} (hc : c < 10) : ∃ ty0 : Nat → FieldType, (∀ k, k < (clT c).2.2 → parseFieldDescriptor ((clT c).2.1 k).2.2.1 = some (ty0 k)) ∧ ∀ a, a < (clT c).2.2 → ∀ b, b < (clT c).2.2 → a ≠ b → ((clT c).2.1 a).2.1 ≠ ((clT c).2.1 b).2.1 := by
  match c, hc with
  | 0, _ => exact ⟨tyX0, tyX0_ok, nmX0⟩
  | 1, _ => exact ⟨tyX1, tyX1_ok, nmX1⟩
  | 2, _ => exact ⟨tyX2, tyX2_ok, nmX2⟩
  | 3, _ => exact ⟨tyX3, tyX3_ok, nmX3⟩
  | 4, _ => exact ⟨tyX4, tyX4_ok, nmX4⟩
  | 5, _ => exact ⟨tyX5, tyX5_ok, nmX5⟩
  | 6, _ => exact ⟨tyX6, tyX6_ok, nmX6⟩
  | 7, _ => exact ⟨tyX7, tyX7_ok, nmX7⟩
  | 8, _ => exact ⟨tyX8, tyX8_ok, nmX8⟩
  | 9, _ => exact ⟨tyX9, tyX9_ok, nmX9⟩
  | k + 10, h => exact absurd h (by omega)
theorem ty_in {c j : Nat} (hc : c < 10) (hj : j < cN c) (hk : fk c j = none) : parseFieldDescriptor ((clT c).2.1 j).2.2.1 = some (tyF c j) ∧ ((clT c).2.1 j).2.2.2 = false := by
  have h1 := List.all_eq_true.mp chkT_ok c (List.mem_range.mpr hc)
  have h2 := List.all_eq_true.mp h1 j (List.mem_range.mpr hj)
  unfold chkT at h2
  rw [hk] at h2
  simpa only [Bool.and_eq_true, beq_iff_eq] using h2
theorem mem_G {w : Cond} {q : Nat} (h : lw_tbl[q]? = some w) (hg : goodWord w = true) : w ∈ tblG := List.mem_filter.mpr ⟨List.mem_of_getElem? h, hg⟩
theorem good_G : ∀ w ∈ tblG, w ∈ tblG ∧ ((w.onTables && w.keeps) = true ∨ ∃ ty, w = .arrayClass ty) := fun w h => ⟨h, good_of_word (List.mem_filter.mp h).2⟩
