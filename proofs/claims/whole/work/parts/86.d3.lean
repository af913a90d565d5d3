/-! THE LAW, 2: the world behind both constructors is the machine's -/
theorem cE_cg {cI cS : ClassId} {ad ad' : Nat → Nat → Nat → Nat} {μ μ' : Mem} {k : Nat × Nat × Nat} (hμ : μ k.1 k.2.1 k.2.2 = μ' k.1 k.2.1 k.2.2) (hl : ∀ j, j < cN (kc k.2.1) → ∀ q, fk (kc k.2.1) j = some q → ad (k.1 + q.1) (k.2.1 + q.2) k.2.2 = ad' (k.1 + q.1) (k.2.1 + q.2) k.2.2) (hs : kc k.2.1 = 11 → ∀ i, ad k.1 (k.2.1 + 1) i = ad' k.1 (k.2.1 + 1) i) : cE cI cS ad μ k = cE cI cS ad' μ' k := by
  unfold cE
  by_cases e1 : kc k.2.1 = 10
  · rw [if_pos e1, if_pos e1, hμ]
  · rw [if_neg e1, if_neg e1]
    by_cases e2 : kc k.2.1 = 11
    · rw [if_pos e2, if_pos e2]
      have : (fun i => some (ad k.1 (k.2.1 + 1) i)) = fun i => some (ad' k.1 (k.2.1 + 1) i) := by
        funext i; rw [hs e2 i]
      rw [this]
    · rw [if_neg e2, if_neg e2]
      congr 2
      apply List.map_congr_left
      intro j hj
      have hj' := List.mem_range.mp hj
      unfold gfv
      cases hf : fk (kc k.2.1) j with
      | none => show Value.int _ = Value.int _; rw [hμ]
      | some q => show Value.ref _ = Value.ref _; rw [hl j hj' q hf]
/-- the regions that a cell's links lead to -/
def lnk (lo hi : Nat) (k : Nat × Nat × Nat) : Bool := decide (lo ≤ k.1 ∧ k.1 ≤ hi) && (List.range (cN (kc k.2.1))).all (fun j => match fk (kc k.2.1) j with | none => true | some q => decide (lo ≤ k.1 + q.1 ∧ k.1 + q.1 ≤ hi))
set_option maxRecDepth 100000 in
theorem lnk_B : keyB.all (lnk 0 2) = true := by decide +kernel
set_option maxRecDepth 100000 in
theorem lnk_M : keyM.all (lnk 3 5) = true := by decide +kernel
set_option maxRecDepth 100000 in
theorem keys_in : keys.all (fun k => decide (k ∈ keyB ++ keyM)) = true := by decide +kernel
set_option maxRecDepth 100000 in
theorem keyBM_in : (keyB ++ keyM).all (fun k => decide (k ∈ keys)) = true := by decide +kernel
theorem lnk_spec {lo hi : Nat} {k : Nat × Nat × Nat} (h : lnk lo hi k = true) : (lo ≤ k.1 ∧ k.1 ≤ hi) ∧ ∀ j, j < cN (kc k.2.1) → ∀ q, fk (kc k.2.1) j = some q → lo ≤ k.1 + q.1 ∧ k.1 + q.1 ≤ hi := by
  unfold lnk at h
  rw [Bool.and_eq_true, decide_eq_true_eq] at h
  refine ⟨h.1, fun j hj q hq => ?_⟩
  have := List.all_eq_true.mp h.2 j (List.mem_range.mpr hj)
  rw [hq] at this
  exact of_decide_eq_true this
def adL (adB adM : Nat → Nat → Nat → Nat) (lz mz' : Nat) : Nat → Nat → Nat → Nat := fun r a o => if r ≤ 2 then adB r a o else if r ≤ 5 then adM r a o else if a = 90 then lz else mz'
theorem sw_B {cI cS : ClassId} {adB adM : Nat → Nat → Nat → Nat} {lz mz' : Nat} : sw cI cS keyB adB μZ = sw cI cS keyB (adL adB adM lz mz') μ0 := by
  unfold sw
  apply List.map_congr_left
  intro k hk
  obtain ⟨⟨t1, t2⟩, t3⟩ := lnk_spec (List.all_eq_true.mp lnk_B k hk)
  have e0 : ∀ r a o, r ≤ 2 → adB r a o = adL adB adM lz mz' r a o := fun r a o hr => by unfold adL; rw [if_pos hr]
  rw [e0 k.1 k.2.1 k.2.2 t2]
  congr 1
  refine cE_cg ?_ (fun j hj q hq => e0 _ _ _ (t3 j hj q hq).2) (fun _ i => e0 _ _ _ t2)
  show mz k.2.1 = μ0 k.1 k.2.1 k.2.2
  unfold μ0
  rw [if_neg (by omega)]
theorem sw_M {cI cS : ClassId} {adB adM : Nat → Nat → Nat → Nat} {lz mz' : Nat} : sw cI cS keyM adM μ0 = sw cI cS keyM (adL adB adM lz mz') μ0 := by
  unfold sw
  apply List.map_congr_left
  intro k hk
  obtain ⟨⟨t1, t2⟩, t3⟩ := lnk_spec (List.all_eq_true.mp lnk_M k hk)
  have e0 : ∀ r a o, 3 ≤ r → r ≤ 5 → adM r a o = adL adB adM lz mz' r a o := fun r a o hr hr2 => by unfold adL; rw [if_neg (by omega), if_pos hr2]
  rw [e0 k.1 k.2.1 k.2.2 t1 t2]
  congr 1
  exact cE_cg rfl (fun j hj q hq => e0 _ _ _ (t3 j hj q hq).1 (t3 j hj q hq).2) (fun _ i => e0 _ _ _ t1 t2)
theorem wl_of {dC : Nat → ClassId} {dI : Nat → Nat → Nat} {cI cS : ClassId} {A : Nat → Prop} {s : State} {H : Heap} {locs : List Loc} {adB adM : Nat → Nat → Nat → Nat} (lz mz' : Nat) (h : Wd dC dI A s (sw cI cS keyB adB μZ ++ sw cI cS keyM adM μ0) H locs) : va_P (dC, dI) cls10 (wl cI cS (adL adB adM lz mz') μ0) H ∧ Inj (adL adB adM lz mz') ∧ ∀ q, A0 (adL adB adM lz mz') q → A q := by
  obtain ⟨hP, hD, hS⟩ := h
  have ew : sw cI cS keyB adB μZ ++ sw cI cS keyM adM μ0 = sw cI cS (keyB ++ keyM) (adL adB adM lz mz') μ0 := by
    rw [sw_B (adM := adM) (lz := lz) (mz' := mz'), sw_M (adB := adB) (lz := lz) (mz' := mz')]
    unfold sw
    rw [List.map_append]
  rw [ew] at hP hD
  have hin : ∀ k ∈ keys, k ∈ keyB ++ keyM := fun k hk => of_decide_eq_true (List.all_eq_true.mp keys_in k hk)
  rw [vP_mem] at hP
  rw [vD_mem] at hD
  refine ⟨vP_mem.mpr (fun x hx => ?_), fun k hk k' hk' ek => ?_, fun q hq => ?_⟩
  · obtain ⟨k, hk, rfl⟩ := List.mem_map.mp hx
    exact hP _ (List.mem_map_of_mem (hin k hk))
  · have nd := hD.1
    unfold sw at nd
    rw [List.map_map] at nd
    obtain ⟨i, hi⟩ := List.mem_iff_getElem?.mp (hin k hk)
    obtain ⟨j, hj⟩ := List.mem_iff_getElem?.mp (hin k' hk')
    have u1 : ((keyB ++ keyM).map (Prod.fst ∘ fun k => (adL adB adM lz mz' k.1 k.2.1 k.2.2, cE cI cS (adL adB adM lz mz') μ0 k)))[i]? = some (adL adB adM lz mz' k.1 k.2.1 k.2.2) := by rw [List.getElem?_map, hi]; rfl
    have u2 : ((keyB ++ keyM).map (Prod.fst ∘ fun k => (adL adB adM lz mz' k.1 k.2.1 k.2.2, cE cI cS (adL adB adM lz mz') μ0 k)))[j]? = some (adL adB adM lz mz' k.1 k.2.1 k.2.2) := by rw [List.getElem?_map, hj, ek]; rfl
    have ij := nd_inj nd u1 u2
    rw [ij] at hi
    exact Option.some.inj (hi.symm.trans hj)
  · obtain ⟨k, hk, rfl⟩ := hq
    exact hD.2 _ (List.mem_map_of_mem (f := fun k => (adL adB adM lz mz' k.1 k.2.1 k.2.2, cE cI cS (adL adB adM lz mz') μ0 k)) (hin k hk))
