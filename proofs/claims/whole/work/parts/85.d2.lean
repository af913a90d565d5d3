/-! THE LAW, 1: a call, a case -/
section LAW1
variable {p : Program} {l : Launch} {e : Env} {s : State} {m : MethodId} {below : List Frame} {meth : Method} {c : Code} {cells slots : Nat} {Q : State → Prop} {dC : Nat → ClassId} {dI : Nat → Nat → Nat} {cI cS : ClassId} {ad : Nat → Nat → Nat → Nat} {b L : Nat} {xs : Nat → Int32}
def LC (dC : Nat → ClassId) (dI : Nat → Nat → Nat) (cI cS : ClassId) (ad : Nat → Nat → Nat → Nat) (p : Program) (s : State) (m : MethodId) (c : Code) (b L : Nat) (xs : Nat → Int32) : Prop :=
  p.tables.exec = Jvm.exec ∧ c.code = code ∧ c.maxLocals = 4 ∧ s.vm.findClass R_law = some m.cls ∧ (∀ w ∈ tblG, w.before #[Value.ref b] s = true) ∧ (∀ (H : Heap) (locs : List Loc), va_S (fun q => s.heap.size ≤ q) s.heap H locs → ∀ U : State, U.heap = H → s.WarmedH U.vm → Wst dC dI cI cS ad U) ∧ va_K (dC, dI) cls10 [(cI, .int), (cS, .object RX5)] s ∧ (∀ q, A0 ad q → s.heap.size ≤ q) ∧ va_X b L xs s s.heap ∧ b < s.heap.size ∧ L ≤ 2560
theorem law_call (X : LC dC dI cI cS ad p s m c b L xs) {H : Heap} {locs : List Loc} {pc : Nat} {ls : Array Slot} {rest : List Value} {μ μ' : Mem} (hlsz : ls.size = 4) (hP : va_P (dC, dI) cls10 (wl cI cS ad μ) H) (hS : va_S (fun q => s.heap.size ≤ q) s.heap H locs) {x z q r a o : Nat} {As : List Int32} {v : Int32} (hd : decode code pc = .ok (.invokevirtual x, 3)) (hc : cT 12 x = some (z, q)) (hz : ¬ z = 900) (hs : mS z = false) (hn : As.length = mK z) (hmr : ¬ mR z = none) (hk : kc a = mO z) (hkey : (r, a, o) ∈ keys) (hl : (rest.map fun v => v.category).sum ≤ 8) (hcall : M 90 z (.inr (r, a, o) :: As.map Sum.inl) μ (some v, μ')) (hcs : cells ≤ 600000 ∧ slots ≤ 7302250)
    (kk : ∀ (H1 : Heap) (locs1 : List Loc), va_P (dC, dI) cls10 (wl cI cS ad μ') H1 → va_S (fun q => s.heap.size ≤ q) s.heap H1 locs1 → W p l e room_1 s m #[Value.ref b] below meth c H1 locs1 cells slots Q (F0 m (pc + 3) ls (.int v :: rest))) : W p l e room_1 s m #[Value.ref b] below meth c H locs cells slots Q (F0 m pc ls ((As.map Value.int).reverse ++ .ref (ad r a o) :: rest)) := by
  obtain ⟨hx, hb, hml, hown, hts, hW, hK, hA, -⟩ := X
  obtain ⟨t1, hz2⟩ := cT_spec (w := 12) (by decide) hc hz
  obtain ⟨k1, k2, k3, k4, k5, k6, k7, k8, k9⟩ := chkM_spec hz2
  rw [hs] at k7
  have k10 := k9 hs
  obtain ⟨q0, hq, he⟩ := wl_at (cI := cI) (cS := cS) (ad := ad) (μ := μ) hkey
  rw [cE_obj (by omega)] at he
  have hok : ∀ v ∈ (.inr (r, a, o) :: As.map Sum.inl : List AV), okv v := by
    intro v hv
    rcases List.mem_cons.mp hv with rfl | hv
    · exact Or.inl hkey
    · obtain ⟨y, -, rfl⟩ := List.mem_map.mp hv
      exact True.intro
  have hM := sound l dC dI cI cS ad 90 z (.inr (r, a, o) :: As.map Sum.inl) μ (some v, μ') hcall hz2 hok
  have hcl : (clT (mO z)).1 = (mN z).cls := by
    rw [← k1]
    have : ∀ k, k < 10 → (clT k).1 = ow k := by decide +kernel
    exact this _ k10
  have hrec := va_recv hK hP (cls_at (c := kc a) (by omega)) he
  rw [hk] at hrec
  dsimp only at hrec
  rw [hcl] at hrec
  have hcb : CallB room_1 s #[Value.ref b] R_law x (mN z) (mB z) (mL z) (mR z) (wsU z) (rmd 90) 0 0 (mK z) := by
    refine callB_of (Ts := tblG) (mK z) hts ?_ rfl rfl rfl (hts _ (mem_G k6 rfl)) (hts _ (mem_G t1 rfl)) ⟨k3, k4, k5⟩ ⟨?_, ?_⟩
    · intro w hw
      rcases List.mem_cons.mp hw with rfl | hw
      · exact good_G _ (code_in hz2)
      · exact good_G _ hw
    · show 90 + 1 ≤ 2048; omega
    · show 8 + (mL z + 11) + 64 * 90 ≤ 84000; omega
  have emap : (As.map Sum.inl : List AV).map (vl ad) = As.map Value.int := by
    rw [List.map_map]; rfl
  have hM' : Met l (mN z) (wsU z) (rmd 90) (va_Pc (.ref (ad r a o) :: As.map Value.int) (SP dC dI cI cS ad μ)) (Qm dC dI cI cS ad (some v, μ')) 0 0 (A0 ad) := by
    have e1 : (.inr (r, a, o) :: As.map Sum.inl : List AV).map (vl ad) = .ref (ad r a o) :: As.map Value.int := by
      rw [List.map_cons, emap]; rfl
    rw [e1] at hM
    exact hM
  refine va_calli (va_runV (C := (mN z).cls) (nL := 4) (As := As.map Value.int) (rest := rest) (b := ad r a o) ⟨hx, hb, hml, hown, hts⟩ hM' ⟨hcb, hts _ (mem_G k7.1 rfl), hts _ (mem_G k7.2 rfl)⟩ ⟨SP.blind, hrec, fun U hU hWa => ⟨rfl, by rw [hU]; exact hP, hW H locs hS U hU hWa⟩⟩ rfl (by rw [List.length_map]; exact hn) hlsz rfl (lv_room hl) hd ⟨by show cells + 0 ≤ 600000; omega, by show slots + 0 ≤ 7302250; omega⟩) hS (fun q _ z => hA q z) hA (fun r1 u t H1 locs1 ht hvm hw hB hz1 hk1 hS1 => ?_)
  rw [ht] at hB
  subst hw
  exact kk H1 locs1 hB hS1
theorem law_service (X : LC dC dI cI cS ad p s m c b L xs) {i : Nat} (hi : i + 5 ≤ L) {μ : Mem} (hB : BR μ) (hcs : cells ≤ 600000 ∧ slots ≤ 7302250) (next : ∀ μ', BR μ' → ∀ (H : Heap) (locs : List Loc) (ls : Array Slot), lv_has ls 4 [(3, .int (nI i)), (2, .ref (ad 3 40 0)), (1, .ref (ad 0 0 0)), (0, .ref b)] → va_P (dC, dI) cls10 (wl cI cS ad μ') H → va_S (fun q => s.heap.size ≤ q) s.heap H locs → W p l e room_1 s m #[Value.ref b] below meth c H locs cells slots Q (F0 m 714 ls [])) : ∀ (H : Heap) (locs : List Loc) (ls : Array Slot), lv_has ls 4 [(3, .int (nI i)), (2, .ref (ad 3 40 0)), (1, .ref (ad 0 0 0)), (0, .ref b)] → va_P (dC, dI) cls10 (wl cI cS ad μ) H → va_S (fun q => s.heap.size ≤ q) s.heap H locs → W p l e room_1 s m #[Value.ref b] below meth c H locs cells slots Q (F0 m 120 ls []) := by
  obtain ⟨v, μ1, μ2, m1, m2, hB2⟩ := CALL_service (xs (i + 1)) (xs (i + 2)) (xs (i + 3)) μ hB
  obtain ⟨hx, hb, hml, hown, hts, hW, hK, hA, hX, hbl, hL⟩ := id X
  have hbA : ¬ s.heap.size ≤ b := by omega
  intro H locs ls hl hP hS
  refine lv_aload_n hx hb dL_law_120 rfl (lv_at hl 2 rfl) ?_
  refine lv_aload_n hx hb dL_law_121 rfl (lv_at hl 3 rfl) ?_
  refine lv_iload_n hx hb dL_law_122 rfl (lv_at hl 0 rfl) ?_
  refine lv_iconst (v := nI 1) hx hb dL_law_123 (by decide) ?_
  refine lv_iadd hx hb dL_law_124 ?_
  rw [nI_plus]
  refine va_sld (A := fun q => s.heap.size ≤ q) hx hb hX hbl hbA hS (vp_in_nI (by omega) (by omega)) dL_law_125 ?_
  rw [nI_cl (by omega)]
  refine lv_aload_n hx hb dL_law_126 rfl (lv_at hl 3 rfl) ?_
  refine lv_iload_n hx hb dL_law_127 rfl (lv_at hl 0 rfl) ?_
  refine lv_iconst (v := nI 2) hx hb dL_law_128 (by decide) ?_
  refine lv_iadd hx hb dL_law_129 ?_
  rw [nI_plus]
  refine va_sld (A := fun q => s.heap.size ≤ q) hx hb hX hbl hbA hS (vp_in_nI (by omega) (by omega)) dL_law_130 ?_
  rw [nI_cl (by omega)]
  refine lv_aload_n hx hb dL_law_131 rfl (lv_at hl 3 rfl) ?_
  refine lv_iload_n hx hb dL_law_132 rfl (lv_at hl 0 rfl) ?_
  refine lv_iconst (v := nI 3) hx hb dL_law_133 (by decide) ?_
  refine lv_iadd hx hb dL_law_134 ?_
  rw [nI_plus]
  refine va_sld (A := fun q => s.heap.size ≤ q) hx hb hX hbl hbA hS (vp_in_nI (by omega) (by omega)) dL_law_135 ?_
  rw [nI_cl (by omega)]
  refine law_call X hl.1 hP hS (As := [xs (i + 1), xs (i + 2), xs (i + 3)]) (rest := []) (r := 0) (a := 0) (o := 0) dL_law_136 (show cT 12 13 = some (46, 392) by decide) (by decide) (by decide) rfl (by decide) (by decide) (by decide) (Nat.le_of_ble_eq_true rfl) (m1 0) hcs (fun H locs hP hS => ?_)
  refine lv_aload_n hx hb dL_law_139 rfl (lv_at hl 1 rfl) ?_
  refine lv_aload_n hx hb dL_law_140 rfl (lv_at hl 3 rfl) ?_
  refine lv_iload_n hx hb dL_law_141 rfl (lv_at hl 0 rfl) ?_
  refine lv_iconst (v := nI 1) hx hb dL_law_142 (by decide) ?_
  refine lv_iadd hx hb dL_law_143 ?_
  rw [nI_plus]
  refine va_sld (A := fun q => s.heap.size ≤ q) hx hb hX hbl hbA hS (vp_in_nI (by omega) (by omega)) dL_law_144 ?_
  rw [nI_cl (by omega)]
  refine lv_aload_n hx hb dL_law_145 rfl (lv_at hl 3 rfl) ?_
  refine lv_iload_n hx hb dL_law_146 rfl (lv_at hl 0 rfl) ?_
  refine lv_iconst (v := nI 2) hx hb dL_law_147 (by decide) ?_
  refine lv_iadd hx hb dL_law_148 ?_
  rw [nI_plus]
  refine va_sld (A := fun q => s.heap.size ≤ q) hx hb hX hbl hbA hS (vp_in_nI (by omega) (by omega)) dL_law_149 ?_
  rw [nI_cl (by omega)]
  refine lv_aload_n hx hb dL_law_150 rfl (lv_at hl 3 rfl) ?_
  refine lv_iload_n hx hb dL_law_151 rfl (lv_at hl 0 rfl) ?_
  refine lv_iconst (v := nI 3) hx hb dL_law_152 (by decide) ?_
  refine lv_iadd hx hb dL_law_153 ?_
  rw [nI_plus]
  refine va_sld (A := fun q => s.heap.size ≤ q) hx hb hX hbl hbA hS (vp_in_nI (by omega) (by omega)) dL_law_154 ?_
  rw [nI_cl (by omega)]
  refine law_call X hl.1 hP hS (As := [xs (i + 1), xs (i + 2), xs (i + 3)]) (rest := [.int v]) (r := 3) (a := 40) (o := 0) dL_law_155 (show cT 12 17 = some (78, 897) by decide) (by decide) (by decide) rfl (by decide) (by decide) (by decide) (Nat.le_of_ble_eq_true rfl) (m2 0) hcs (fun H locs hP hS => ?_)
  exact lv_icmp_eq (tgt := 714) hx hb dL_law_158 (by decide) (fun _ => next μ2 hB2 H locs ls hl hP hS) (fun g => absurd rfl g)
theorem law_rule (X : LC dC dI cI cS ad p s m c b L xs) {i : Nat} (hi : i + 5 ≤ L) {μ : Mem} (hB : BR μ) (hcs : cells ≤ 600000 ∧ slots ≤ 7302250) (next : ∀ μ', BR μ' → ∀ (H : Heap) (locs : List Loc) (ls : Array Slot), lv_has ls 4 [(3, .int (nI i)), (2, .ref (ad 3 40 0)), (1, .ref (ad 0 0 0)), (0, .ref b)] → va_P (dC, dI) cls10 (wl cI cS ad μ') H → va_S (fun q => s.heap.size ≤ q) s.heap H locs → W p l e room_1 s m #[Value.ref b] below meth c H locs cells slots Q (F0 m 714 ls [])) : ∀ (H : Heap) (locs : List Loc) (ls : Array Slot), lv_has ls 4 [(3, .int (nI i)), (2, .ref (ad 3 40 0)), (1, .ref (ad 0 0 0)), (0, .ref b)] → va_P (dC, dI) cls10 (wl cI cS ad μ) H → va_S (fun q => s.heap.size ≤ q) s.heap H locs → W p l e room_1 s m #[Value.ref b] below meth c H locs cells slots Q (F0 m 163 ls []) := by
  obtain ⟨v, μ1, μ2, m1, m2, hB2⟩ := CALL_rule (xs (i + 1)) (xs (i + 2)) (xs (i + 3)) μ hB
  obtain ⟨hx, hb, hml, hown, hts, hW, hK, hA, hX, hbl, hL⟩ := id X
  have hbA : ¬ s.heap.size ≤ b := by omega
  intro H locs ls hl hP hS
  refine lv_aload_n hx hb dL_law_163 rfl (lv_at hl 2 rfl) ?_
  refine lv_aload_n hx hb dL_law_164 rfl (lv_at hl 3 rfl) ?_
  refine lv_iload_n hx hb dL_law_165 rfl (lv_at hl 0 rfl) ?_
  refine lv_iconst (v := nI 1) hx hb dL_law_166 (by decide) ?_
  refine lv_iadd hx hb dL_law_167 ?_
  rw [nI_plus]
  refine va_sld (A := fun q => s.heap.size ≤ q) hx hb hX hbl hbA hS (vp_in_nI (by omega) (by omega)) dL_law_168 ?_
  rw [nI_cl (by omega)]
  refine lv_aload_n hx hb dL_law_169 rfl (lv_at hl 3 rfl) ?_
  refine lv_iload_n hx hb dL_law_170 rfl (lv_at hl 0 rfl) ?_
  refine lv_iconst (v := nI 2) hx hb dL_law_171 (by decide) ?_
  refine lv_iadd hx hb dL_law_172 ?_
  rw [nI_plus]
  refine va_sld (A := fun q => s.heap.size ≤ q) hx hb hX hbl hbA hS (vp_in_nI (by omega) (by omega)) dL_law_173 ?_
  rw [nI_cl (by omega)]
  refine lv_aload_n hx hb dL_law_174 rfl (lv_at hl 3 rfl) ?_
  refine lv_iload_n hx hb dL_law_175 rfl (lv_at hl 0 rfl) ?_
  refine lv_iconst (v := nI 3) hx hb dL_law_176 (by decide) ?_
  refine lv_iadd hx hb dL_law_177 ?_
  rw [nI_plus]
  refine va_sld (A := fun q => s.heap.size ≤ q) hx hb hX hbl hbA hS (vp_in_nI (by omega) (by omega)) dL_law_178 ?_
  rw [nI_cl (by omega)]
  refine law_call X hl.1 hP hS (As := [xs (i + 1), xs (i + 2), xs (i + 3)]) (rest := []) (r := 0) (a := 0) (o := 0) dL_law_179 (show cT 12 18 = some (47, 410) by decide) (by decide) (by decide) rfl (by decide) (by decide) (by decide) (Nat.le_of_ble_eq_true rfl) (m1 0) hcs (fun H locs hP hS => ?_)
  refine lv_aload_n hx hb dL_law_182 rfl (lv_at hl 1 rfl) ?_
  refine lv_aload_n hx hb dL_law_183 rfl (lv_at hl 3 rfl) ?_
  refine lv_iload_n hx hb dL_law_184 rfl (lv_at hl 0 rfl) ?_
  refine lv_iconst (v := nI 1) hx hb dL_law_185 (by decide) ?_
  refine lv_iadd hx hb dL_law_186 ?_
  rw [nI_plus]
  refine va_sld (A := fun q => s.heap.size ≤ q) hx hb hX hbl hbA hS (vp_in_nI (by omega) (by omega)) dL_law_187 ?_
  rw [nI_cl (by omega)]
  refine lv_aload_n hx hb dL_law_188 rfl (lv_at hl 3 rfl) ?_
  refine lv_iload_n hx hb dL_law_189 rfl (lv_at hl 0 rfl) ?_
  refine lv_iconst (v := nI 2) hx hb dL_law_190 (by decide) ?_
  refine lv_iadd hx hb dL_law_191 ?_
  rw [nI_plus]
  refine va_sld (A := fun q => s.heap.size ≤ q) hx hb hX hbl hbA hS (vp_in_nI (by omega) (by omega)) dL_law_192 ?_
  rw [nI_cl (by omega)]
  refine lv_aload_n hx hb dL_law_193 rfl (lv_at hl 3 rfl) ?_
  refine lv_iload_n hx hb dL_law_194 rfl (lv_at hl 0 rfl) ?_
  refine lv_iconst (v := nI 3) hx hb dL_law_195 (by decide) ?_
  refine lv_iadd hx hb dL_law_196 ?_
  rw [nI_plus]
  refine va_sld (A := fun q => s.heap.size ≤ q) hx hb hX hbl hbA hS (vp_in_nI (by omega) (by omega)) dL_law_197 ?_
  rw [nI_cl (by omega)]
  refine law_call X hl.1 hP hS (As := [xs (i + 1), xs (i + 2), xs (i + 3)]) (rest := [.int v]) (r := 3) (a := 40) (o := 0) dL_law_198 (show cT 12 21 = some (80, 904) by decide) (by decide) (by decide) rfl (by decide) (by decide) (by decide) (Nat.le_of_ble_eq_true rfl) (m2 0) hcs (fun H locs hP hS => ?_)
  exact lv_icmp_eq (tgt := 714) hx hb dL_law_201 (by decide) (fun _ => next μ2 hB2 H locs ls hl hP hS) (fun g => absurd rfl g)
theorem law_guests (X : LC dC dI cI cS ad p s m c b L xs) {i : Nat} (hi : i + 5 ≤ L) {μ : Mem} (hB : BR μ) (hcs : cells ≤ 600000 ∧ slots ≤ 7302250) (next : ∀ μ', BR μ' → ∀ (H : Heap) (locs : List Loc) (ls : Array Slot), lv_has ls 4 [(3, .int (nI i)), (2, .ref (ad 3 40 0)), (1, .ref (ad 0 0 0)), (0, .ref b)] → va_P (dC, dI) cls10 (wl cI cS ad μ') H → va_S (fun q => s.heap.size ≤ q) s.heap H locs → W p l e room_1 s m #[Value.ref b] below meth c H locs cells slots Q (F0 m 714 ls [])) : ∀ (H : Heap) (locs : List Loc) (ls : Array Slot), lv_has ls 4 [(3, .int (nI i)), (2, .ref (ad 3 40 0)), (1, .ref (ad 0 0 0)), (0, .ref b)] → va_P (dC, dI) cls10 (wl cI cS ad μ) H → va_S (fun q => s.heap.size ≤ q) s.heap H locs → W p l e room_1 s m #[Value.ref b] below meth c H locs cells slots Q (F0 m 206 ls []) := by
  obtain ⟨v, μ1, μ2, m1, m2, hB2⟩ := CALL_guests (xs (i + 1)) (xs (i + 2)) μ hB
  obtain ⟨hx, hb, hml, hown, hts, hW, hK, hA, hX, hbl, hL⟩ := id X
  have hbA : ¬ s.heap.size ≤ b := by omega
  intro H locs ls hl hP hS
  refine lv_aload_n hx hb dL_law_206 rfl (lv_at hl 2 rfl) ?_
  refine lv_aload_n hx hb dL_law_207 rfl (lv_at hl 3 rfl) ?_
  refine lv_iload_n hx hb dL_law_208 rfl (lv_at hl 0 rfl) ?_
  refine lv_iconst (v := nI 1) hx hb dL_law_209 (by decide) ?_
  refine lv_iadd hx hb dL_law_210 ?_
  rw [nI_plus]
  refine va_sld (A := fun q => s.heap.size ≤ q) hx hb hX hbl hbA hS (vp_in_nI (by omega) (by omega)) dL_law_211 ?_
  rw [nI_cl (by omega)]
  refine lv_aload_n hx hb dL_law_212 rfl (lv_at hl 3 rfl) ?_
  refine lv_iload_n hx hb dL_law_213 rfl (lv_at hl 0 rfl) ?_
  refine lv_iconst (v := nI 2) hx hb dL_law_214 (by decide) ?_
  refine lv_iadd hx hb dL_law_215 ?_
  rw [nI_plus]
  refine va_sld (A := fun q => s.heap.size ≤ q) hx hb hX hbl hbA hS (vp_in_nI (by omega) (by omega)) dL_law_216 ?_
  rw [nI_cl (by omega)]
  refine law_call X hl.1 hP hS (As := [xs (i + 1), xs (i + 2)]) (rest := []) (r := 0) (a := 0) (o := 0) dL_law_217 (show cT 12 22 = some (48, 418) by decide) (by decide) (by decide) rfl (by decide) (by decide) (by decide) (Nat.le_of_ble_eq_true rfl) (m1 0) hcs (fun H locs hP hS => ?_)
  refine lv_aload_n hx hb dL_law_220 rfl (lv_at hl 1 rfl) ?_
  refine lv_aload_n hx hb dL_law_221 rfl (lv_at hl 3 rfl) ?_
  refine lv_iload_n hx hb dL_law_222 rfl (lv_at hl 0 rfl) ?_
  refine lv_iconst (v := nI 1) hx hb dL_law_223 (by decide) ?_
  refine lv_iadd hx hb dL_law_224 ?_
  rw [nI_plus]
  refine va_sld (A := fun q => s.heap.size ≤ q) hx hb hX hbl hbA hS (vp_in_nI (by omega) (by omega)) dL_law_225 ?_
  rw [nI_cl (by omega)]
  refine lv_aload_n hx hb dL_law_226 rfl (lv_at hl 3 rfl) ?_
  refine lv_iload_n hx hb dL_law_227 rfl (lv_at hl 0 rfl) ?_
  refine lv_iconst (v := nI 2) hx hb dL_law_228 (by decide) ?_
  refine lv_iadd hx hb dL_law_229 ?_
  rw [nI_plus]
  refine va_sld (A := fun q => s.heap.size ≤ q) hx hb hX hbl hbA hS (vp_in_nI (by omega) (by omega)) dL_law_230 ?_
  rw [nI_cl (by omega)]
  refine law_call X hl.1 hP hS (As := [xs (i + 1), xs (i + 2)]) (rest := [.int v]) (r := 3) (a := 40) (o := 0) dL_law_231 (show cT 12 26 = some (81, 919) by decide) (by decide) (by decide) rfl (by decide) (by decide) (by decide) (Nat.le_of_ble_eq_true rfl) (m2 0) hcs (fun H locs hP hS => ?_)
  exact lv_icmp_eq (tgt := 714) hx hb dL_law_234 (by decide) (fun _ => next μ2 hB2 H locs ls hl hP hS) (fun g => absurd rfl g)
theorem law_crowd (X : LC dC dI cI cS ad p s m c b L xs) {i : Nat} (hi : i + 5 ≤ L) {μ : Mem} (hB : BR μ) (hcs : cells ≤ 600000 ∧ slots ≤ 7302250) (next : ∀ μ', BR μ' → ∀ (H : Heap) (locs : List Loc) (ls : Array Slot), lv_has ls 4 [(3, .int (nI i)), (2, .ref (ad 3 40 0)), (1, .ref (ad 0 0 0)), (0, .ref b)] → va_P (dC, dI) cls10 (wl cI cS ad μ') H → va_S (fun q => s.heap.size ≤ q) s.heap H locs → W p l e room_1 s m #[Value.ref b] below meth c H locs cells slots Q (F0 m 714 ls [])) : ∀ (H : Heap) (locs : List Loc) (ls : Array Slot), lv_has ls 4 [(3, .int (nI i)), (2, .ref (ad 3 40 0)), (1, .ref (ad 0 0 0)), (0, .ref b)] → va_P (dC, dI) cls10 (wl cI cS ad μ) H → va_S (fun q => s.heap.size ≤ q) s.heap H locs → W p l e room_1 s m #[Value.ref b] below meth c H locs cells slots Q (F0 m 239 ls []) := by
  obtain ⟨v, μ1, μ2, m1, m2, hB2⟩ := CALL_crowd (xs (i + 1)) (xs (i + 2)) (xs (i + 3)) μ hB
  obtain ⟨hx, hb, hml, hown, hts, hW, hK, hA, hX, hbl, hL⟩ := id X
  have hbA : ¬ s.heap.size ≤ b := by omega
  intro H locs ls hl hP hS
  refine lv_aload_n hx hb dL_law_239 rfl (lv_at hl 2 rfl) ?_
  refine lv_aload_n hx hb dL_law_240 rfl (lv_at hl 3 rfl) ?_
  refine lv_iload_n hx hb dL_law_241 rfl (lv_at hl 0 rfl) ?_
  refine lv_iconst (v := nI 1) hx hb dL_law_242 (by decide) ?_
  refine lv_iadd hx hb dL_law_243 ?_
  rw [nI_plus]
  refine va_sld (A := fun q => s.heap.size ≤ q) hx hb hX hbl hbA hS (vp_in_nI (by omega) (by omega)) dL_law_244 ?_
  rw [nI_cl (by omega)]
  refine lv_aload_n hx hb dL_law_245 rfl (lv_at hl 3 rfl) ?_
  refine lv_iload_n hx hb dL_law_246 rfl (lv_at hl 0 rfl) ?_
  refine lv_iconst (v := nI 2) hx hb dL_law_247 (by decide) ?_
  refine lv_iadd hx hb dL_law_248 ?_
  rw [nI_plus]
  refine va_sld (A := fun q => s.heap.size ≤ q) hx hb hX hbl hbA hS (vp_in_nI (by omega) (by omega)) dL_law_249 ?_
  rw [nI_cl (by omega)]
  refine lv_aload_n hx hb dL_law_250 rfl (lv_at hl 3 rfl) ?_
  refine lv_iload_n hx hb dL_law_251 rfl (lv_at hl 0 rfl) ?_
  refine lv_iconst (v := nI 3) hx hb dL_law_252 (by decide) ?_
  refine lv_iadd hx hb dL_law_253 ?_
  rw [nI_plus]
  refine va_sld (A := fun q => s.heap.size ≤ q) hx hb hX hbl hbA hS (vp_in_nI (by omega) (by omega)) dL_law_254 ?_
  rw [nI_cl (by omega)]
  refine law_call X hl.1 hP hS (As := [xs (i + 1), xs (i + 2), xs (i + 3)]) (rest := []) (r := 0) (a := 0) (o := 0) dL_law_255 (show cT 12 27 = some (49, 422) by decide) (by decide) (by decide) rfl (by decide) (by decide) (by decide) (Nat.le_of_ble_eq_true rfl) (m1 0) hcs (fun H locs hP hS => ?_)
  refine lv_aload_n hx hb dL_law_258 rfl (lv_at hl 1 rfl) ?_
  refine lv_aload_n hx hb dL_law_259 rfl (lv_at hl 3 rfl) ?_
  refine lv_iload_n hx hb dL_law_260 rfl (lv_at hl 0 rfl) ?_
  refine lv_iconst (v := nI 1) hx hb dL_law_261 (by decide) ?_
  refine lv_iadd hx hb dL_law_262 ?_
  rw [nI_plus]
  refine va_sld (A := fun q => s.heap.size ≤ q) hx hb hX hbl hbA hS (vp_in_nI (by omega) (by omega)) dL_law_263 ?_
  rw [nI_cl (by omega)]
  refine lv_aload_n hx hb dL_law_264 rfl (lv_at hl 3 rfl) ?_
  refine lv_iload_n hx hb dL_law_265 rfl (lv_at hl 0 rfl) ?_
  refine lv_iconst (v := nI 2) hx hb dL_law_266 (by decide) ?_
  refine lv_iadd hx hb dL_law_267 ?_
  rw [nI_plus]
  refine va_sld (A := fun q => s.heap.size ≤ q) hx hb hX hbl hbA hS (vp_in_nI (by omega) (by omega)) dL_law_268 ?_
  rw [nI_cl (by omega)]
  refine lv_aload_n hx hb dL_law_269 rfl (lv_at hl 3 rfl) ?_
  refine lv_iload_n hx hb dL_law_270 rfl (lv_at hl 0 rfl) ?_
  refine lv_iconst (v := nI 3) hx hb dL_law_271 (by decide) ?_
  refine lv_iadd hx hb dL_law_272 ?_
  rw [nI_plus]
  refine va_sld (A := fun q => s.heap.size ≤ q) hx hb hX hbl hbA hS (vp_in_nI (by omega) (by omega)) dL_law_273 ?_
  rw [nI_cl (by omega)]
  refine law_call X hl.1 hP hS (As := [xs (i + 1), xs (i + 2), xs (i + 3)]) (rest := [.int v]) (r := 3) (a := 40) (o := 0) dL_law_274 (show cT 12 30 = some (82, 923) by decide) (by decide) (by decide) rfl (by decide) (by decide) (by decide) (Nat.le_of_ble_eq_true rfl) (m2 0) hcs (fun H locs hP hS => ?_)
  exact lv_icmp_eq (tgt := 714) hx hb dL_law_277 (by decide) (fun _ => next μ2 hB2 H locs ls hl hP hS) (fun g => absurd rfl g)
theorem law_usual (X : LC dC dI cI cS ad p s m c b L xs) {i : Nat} (hi : i + 5 ≤ L) {μ : Mem} (hB : BR μ) (hcs : cells ≤ 600000 ∧ slots ≤ 7302250) (next : ∀ μ', BR μ' → ∀ (H : Heap) (locs : List Loc) (ls : Array Slot), lv_has ls 4 [(3, .int (nI i)), (2, .ref (ad 3 40 0)), (1, .ref (ad 0 0 0)), (0, .ref b)] → va_P (dC, dI) cls10 (wl cI cS ad μ') H → va_S (fun q => s.heap.size ≤ q) s.heap H locs → W p l e room_1 s m #[Value.ref b] below meth c H locs cells slots Q (F0 m 714 ls [])) : ∀ (H : Heap) (locs : List Loc) (ls : Array Slot), lv_has ls 4 [(3, .int (nI i)), (2, .ref (ad 3 40 0)), (1, .ref (ad 0 0 0)), (0, .ref b)] → va_P (dC, dI) cls10 (wl cI cS ad μ) H → va_S (fun q => s.heap.size ≤ q) s.heap H locs → W p l e room_1 s m #[Value.ref b] below meth c H locs cells slots Q (F0 m 282 ls []) := by
  obtain ⟨v, μ1, μ2, m1, m2, hB2⟩ := CALL_usual (xs (i + 1)) μ hB
  obtain ⟨hx, hb, hml, hown, hts, hW, hK, hA, hX, hbl, hL⟩ := id X
  have hbA : ¬ s.heap.size ≤ b := by omega
  intro H locs ls hl hP hS
  refine lv_aload_n hx hb dL_law_282 rfl (lv_at hl 2 rfl) ?_
  refine lv_aload_n hx hb dL_law_283 rfl (lv_at hl 3 rfl) ?_
  refine lv_iload_n hx hb dL_law_284 rfl (lv_at hl 0 rfl) ?_
  refine lv_iconst (v := nI 1) hx hb dL_law_285 (by decide) ?_
  refine lv_iadd hx hb dL_law_286 ?_
  rw [nI_plus]
  refine va_sld (A := fun q => s.heap.size ≤ q) hx hb hX hbl hbA hS (vp_in_nI (by omega) (by omega)) dL_law_287 ?_
  rw [nI_cl (by omega)]
  refine law_call X hl.1 hP hS (As := [xs (i + 1)]) (rest := []) (r := 0) (a := 0) (o := 0) dL_law_288 (show cT 12 31 = some (50, 434) by decide) (by decide) (by decide) rfl (by decide) (by decide) (by decide) (Nat.le_of_ble_eq_true rfl) (m1 0) hcs (fun H locs hP hS => ?_)
  refine lv_aload_n hx hb dL_law_291 rfl (lv_at hl 1 rfl) ?_
  refine lv_aload_n hx hb dL_law_292 rfl (lv_at hl 3 rfl) ?_
  refine lv_iload_n hx hb dL_law_293 rfl (lv_at hl 0 rfl) ?_
  refine lv_iconst (v := nI 1) hx hb dL_law_294 (by decide) ?_
  refine lv_iadd hx hb dL_law_295 ?_
  rw [nI_plus]
  refine va_sld (A := fun q => s.heap.size ≤ q) hx hb hX hbl hbA hS (vp_in_nI (by omega) (by omega)) dL_law_296 ?_
  rw [nI_cl (by omega)]
  refine law_call X hl.1 hP hS (As := [xs (i + 1)]) (rest := [.int v]) (r := 3) (a := 40) (o := 0) dL_law_297 (show cT 12 35 = some (83, 931) by decide) (by decide) (by decide) rfl (by decide) (by decide) (by decide) (Nat.le_of_ble_eq_true rfl) (m2 0) hcs (fun H locs hP hS => ?_)
  exact lv_icmp_eq (tgt := 714) hx hb dL_law_300 (by decide) (fun _ => next μ2 hB2 H locs ls hl hP hS) (fun g => absurd rfl g)
theorem law_place (X : LC dC dI cI cS ad p s m c b L xs) {i : Nat} (hi : i + 5 ≤ L) {μ : Mem} (hB : BR μ) (hcs : cells ≤ 600000 ∧ slots ≤ 7302250) (next : ∀ μ', BR μ' → ∀ (H : Heap) (locs : List Loc) (ls : Array Slot), lv_has ls 4 [(3, .int (nI i)), (2, .ref (ad 3 40 0)), (1, .ref (ad 0 0 0)), (0, .ref b)] → va_P (dC, dI) cls10 (wl cI cS ad μ') H → va_S (fun q => s.heap.size ≤ q) s.heap H locs → W p l e room_1 s m #[Value.ref b] below meth c H locs cells slots Q (F0 m 714 ls [])) : ∀ (H : Heap) (locs : List Loc) (ls : Array Slot), lv_has ls 4 [(3, .int (nI i)), (2, .ref (ad 3 40 0)), (1, .ref (ad 0 0 0)), (0, .ref b)] → va_P (dC, dI) cls10 (wl cI cS ad μ) H → va_S (fun q => s.heap.size ≤ q) s.heap H locs → W p l e room_1 s m #[Value.ref b] below meth c H locs cells slots Q (F0 m 305 ls []) := by
  obtain ⟨v, μ1, μ2, m1, m2, hB2⟩ := CALL_place (xs (i + 1)) (xs (i + 2)) (xs (i + 3)) μ hB
  obtain ⟨hx, hb, hml, hown, hts, hW, hK, hA, hX, hbl, hL⟩ := id X
  have hbA : ¬ s.heap.size ≤ b := by omega
  intro H locs ls hl hP hS
  refine lv_aload_n hx hb dL_law_305 rfl (lv_at hl 2 rfl) ?_
  refine lv_aload_n hx hb dL_law_306 rfl (lv_at hl 3 rfl) ?_
  refine lv_iload_n hx hb dL_law_307 rfl (lv_at hl 0 rfl) ?_
  refine lv_iconst (v := nI 1) hx hb dL_law_308 (by decide) ?_
  refine lv_iadd hx hb dL_law_309 ?_
  rw [nI_plus]
  refine va_sld (A := fun q => s.heap.size ≤ q) hx hb hX hbl hbA hS (vp_in_nI (by omega) (by omega)) dL_law_310 ?_
  rw [nI_cl (by omega)]
  refine lv_aload_n hx hb dL_law_311 rfl (lv_at hl 3 rfl) ?_
  refine lv_iload_n hx hb dL_law_312 rfl (lv_at hl 0 rfl) ?_
  refine lv_iconst (v := nI 2) hx hb dL_law_313 (by decide) ?_
  refine lv_iadd hx hb dL_law_314 ?_
  rw [nI_plus]
  refine va_sld (A := fun q => s.heap.size ≤ q) hx hb hX hbl hbA hS (vp_in_nI (by omega) (by omega)) dL_law_315 ?_
  rw [nI_cl (by omega)]
  refine lv_aload_n hx hb dL_law_316 rfl (lv_at hl 3 rfl) ?_
  refine lv_iload_n hx hb dL_law_317 rfl (lv_at hl 0 rfl) ?_
  refine lv_iconst (v := nI 3) hx hb dL_law_318 (by decide) ?_
  refine lv_iadd hx hb dL_law_319 ?_
  rw [nI_plus]
  refine va_sld (A := fun q => s.heap.size ≤ q) hx hb hX hbl hbA hS (vp_in_nI (by omega) (by omega)) dL_law_320 ?_
  rw [nI_cl (by omega)]
  refine law_call X hl.1 hP hS (As := [xs (i + 1), xs (i + 2), xs (i + 3)]) (rest := []) (r := 0) (a := 0) (o := 0) dL_law_321 (show cT 12 36 = some (51, 443) by decide) (by decide) (by decide) rfl (by decide) (by decide) (by decide) (Nat.le_of_ble_eq_true rfl) (m1 0) hcs (fun H locs hP hS => ?_)
  refine lv_aload_n hx hb dL_law_324 rfl (lv_at hl 1 rfl) ?_
  refine lv_aload_n hx hb dL_law_325 rfl (lv_at hl 3 rfl) ?_
  refine lv_iload_n hx hb dL_law_326 rfl (lv_at hl 0 rfl) ?_
  refine lv_iconst (v := nI 1) hx hb dL_law_327 (by decide) ?_
  refine lv_iadd hx hb dL_law_328 ?_
  rw [nI_plus]
  refine va_sld (A := fun q => s.heap.size ≤ q) hx hb hX hbl hbA hS (vp_in_nI (by omega) (by omega)) dL_law_329 ?_
  rw [nI_cl (by omega)]
  refine lv_aload_n hx hb dL_law_330 rfl (lv_at hl 3 rfl) ?_
  refine lv_iload_n hx hb dL_law_331 rfl (lv_at hl 0 rfl) ?_
  refine lv_iconst (v := nI 2) hx hb dL_law_332 (by decide) ?_
  refine lv_iadd hx hb dL_law_333 ?_
  rw [nI_plus]
  refine va_sld (A := fun q => s.heap.size ≤ q) hx hb hX hbl hbA hS (vp_in_nI (by omega) (by omega)) dL_law_334 ?_
  rw [nI_cl (by omega)]
  refine lv_aload_n hx hb dL_law_335 rfl (lv_at hl 3 rfl) ?_
  refine lv_iload_n hx hb dL_law_336 rfl (lv_at hl 0 rfl) ?_
  refine lv_iconst (v := nI 3) hx hb dL_law_337 (by decide) ?_
  refine lv_iadd hx hb dL_law_338 ?_
  rw [nI_plus]
  refine va_sld (A := fun q => s.heap.size ≤ q) hx hb hX hbl hbA hS (vp_in_nI (by omega) (by omega)) dL_law_339 ?_
  rw [nI_cl (by omega)]
  refine law_call X hl.1 hP hS (As := [xs (i + 1), xs (i + 2), xs (i + 3)]) (rest := [.int v]) (r := 3) (a := 40) (o := 0) dL_law_340 (show cT 12 39 = some (84, 935) by decide) (by decide) (by decide) rfl (by decide) (by decide) (by decide) (Nat.le_of_ble_eq_true rfl) (m2 0) hcs (fun H locs hP hS => ?_)
  exact lv_icmp_eq (tgt := 714) hx hb dL_law_343 (by decide) (fun _ => next μ2 hB2 H locs ls hl hP hS) (fun g => absurd rfl g)
theorem law_ticks (X : LC dC dI cI cS ad p s m c b L xs) {i : Nat} (hi : i + 5 ≤ L) {μ : Mem} (hB : BR μ) (hcs : cells ≤ 600000 ∧ slots ≤ 7302250) (next : ∀ μ', BR μ' → ∀ (H : Heap) (locs : List Loc) (ls : Array Slot), lv_has ls 4 [(3, .int (nI i)), (2, .ref (ad 3 40 0)), (1, .ref (ad 0 0 0)), (0, .ref b)] → va_P (dC, dI) cls10 (wl cI cS ad μ') H → va_S (fun q => s.heap.size ≤ q) s.heap H locs → W p l e room_1 s m #[Value.ref b] below meth c H locs cells slots Q (F0 m 714 ls [])) : ∀ (H : Heap) (locs : List Loc) (ls : Array Slot), lv_has ls 4 [(3, .int (nI i)), (2, .ref (ad 3 40 0)), (1, .ref (ad 0 0 0)), (0, .ref b)] → va_P (dC, dI) cls10 (wl cI cS ad μ) H → va_S (fun q => s.heap.size ≤ q) s.heap H locs → W p l e room_1 s m #[Value.ref b] below meth c H locs cells slots Q (F0 m 348 ls []) := by
  obtain ⟨v, μ1, μ2, m1, m2, hB2⟩ := CALL_ticks (xs (i + 1)) μ hB
  obtain ⟨hx, hb, hml, hown, hts, hW, hK, hA, hX, hbl, hL⟩ := id X
  have hbA : ¬ s.heap.size ≤ b := by omega
  intro H locs ls hl hP hS
  refine lv_aload_n hx hb dL_law_348 rfl (lv_at hl 2 rfl) ?_
  refine lv_aload_n hx hb dL_law_349 rfl (lv_at hl 3 rfl) ?_
  refine lv_iload_n hx hb dL_law_350 rfl (lv_at hl 0 rfl) ?_
  refine lv_iconst (v := nI 1) hx hb dL_law_351 (by decide) ?_
  refine lv_iadd hx hb dL_law_352 ?_
  rw [nI_plus]
  refine va_sld (A := fun q => s.heap.size ≤ q) hx hb hX hbl hbA hS (vp_in_nI (by omega) (by omega)) dL_law_353 ?_
  rw [nI_cl (by omega)]
  refine law_call X hl.1 hP hS (As := [xs (i + 1)]) (rest := []) (r := 0) (a := 0) (o := 0) dL_law_354 (show cT 12 40 = some (52, 447) by decide) (by decide) (by decide) rfl (by decide) (by decide) (by decide) (Nat.le_of_ble_eq_true rfl) (m1 0) hcs (fun H locs hP hS => ?_)
  refine lv_aload_n hx hb dL_law_357 rfl (lv_at hl 1 rfl) ?_
  refine lv_aload_n hx hb dL_law_358 rfl (lv_at hl 3 rfl) ?_
  refine lv_iload_n hx hb dL_law_359 rfl (lv_at hl 0 rfl) ?_
  refine lv_iconst (v := nI 1) hx hb dL_law_360 (by decide) ?_
  refine lv_iadd hx hb dL_law_361 ?_
  rw [nI_plus]
  refine va_sld (A := fun q => s.heap.size ≤ q) hx hb hX hbl hbA hS (vp_in_nI (by omega) (by omega)) dL_law_362 ?_
  rw [nI_cl (by omega)]
  refine law_call X hl.1 hP hS (As := [xs (i + 1)]) (rest := [.int v]) (r := 3) (a := 40) (o := 0) dL_law_363 (show cT 12 43 = some (113, 939) by decide) (by decide) (by decide) rfl (by decide) (by decide) (by decide) (Nat.le_of_ble_eq_true rfl) (m2 0) hcs (fun H locs hP hS => ?_)
  exact lv_icmp_eq (tgt := 714) hx hb dL_law_366 (by decide) (fun _ => next μ2 hB2 H locs ls hl hP hS) (fun g => absurd rfl g)
theorem law_about (X : LC dC dI cI cS ad p s m c b L xs) {i : Nat} (hi : i + 5 ≤ L) {μ : Mem} (hB : BR μ) (hcs : cells ≤ 600000 ∧ slots ≤ 7302250) (next : ∀ μ', BR μ' → ∀ (H : Heap) (locs : List Loc) (ls : Array Slot), lv_has ls 4 [(3, .int (nI i)), (2, .ref (ad 3 40 0)), (1, .ref (ad 0 0 0)), (0, .ref b)] → va_P (dC, dI) cls10 (wl cI cS ad μ') H → va_S (fun q => s.heap.size ≤ q) s.heap H locs → W p l e room_1 s m #[Value.ref b] below meth c H locs cells slots Q (F0 m 714 ls [])) : ∀ (H : Heap) (locs : List Loc) (ls : Array Slot), lv_has ls 4 [(3, .int (nI i)), (2, .ref (ad 3 40 0)), (1, .ref (ad 0 0 0)), (0, .ref b)] → va_P (dC, dI) cls10 (wl cI cS ad μ) H → va_S (fun q => s.heap.size ≤ q) s.heap H locs → W p l e room_1 s m #[Value.ref b] below meth c H locs cells slots Q (F0 m 371 ls []) := by
  obtain ⟨v, μ1, μ2, m1, m2, hB2⟩ := CALL_about (xs (i + 1)) (xs (i + 2)) μ hB
  obtain ⟨hx, hb, hml, hown, hts, hW, hK, hA, hX, hbl, hL⟩ := id X
  have hbA : ¬ s.heap.size ≤ b := by omega
  intro H locs ls hl hP hS
  refine lv_aload_n hx hb dL_law_371 rfl (lv_at hl 2 rfl) ?_
  refine lv_aload_n hx hb dL_law_372 rfl (lv_at hl 3 rfl) ?_
  refine lv_iload_n hx hb dL_law_373 rfl (lv_at hl 0 rfl) ?_
  refine lv_iconst (v := nI 1) hx hb dL_law_374 (by decide) ?_
  refine lv_iadd hx hb dL_law_375 ?_
  rw [nI_plus]
  refine va_sld (A := fun q => s.heap.size ≤ q) hx hb hX hbl hbA hS (vp_in_nI (by omega) (by omega)) dL_law_376 ?_
  rw [nI_cl (by omega)]
  refine lv_aload_n hx hb dL_law_377 rfl (lv_at hl 3 rfl) ?_
  refine lv_iload_n hx hb dL_law_378 rfl (lv_at hl 0 rfl) ?_
  refine lv_iconst (v := nI 2) hx hb dL_law_379 (by decide) ?_
  refine lv_iadd hx hb dL_law_380 ?_
  rw [nI_plus]
  refine va_sld (A := fun q => s.heap.size ≤ q) hx hb hX hbl hbA hS (vp_in_nI (by omega) (by omega)) dL_law_381 ?_
  rw [nI_cl (by omega)]
  refine law_call X hl.1 hP hS (As := [xs (i + 1), xs (i + 2)]) (rest := []) (r := 0) (a := 0) (o := 0) dL_law_382 (show cT 12 44 = some (53, 596) by decide) (by decide) (by decide) rfl (by decide) (by decide) (by decide) (Nat.le_of_ble_eq_true rfl) (m1 0) hcs (fun H locs hP hS => ?_)
  refine lv_aload_n hx hb dL_law_385 rfl (lv_at hl 1 rfl) ?_
  refine lv_aload_n hx hb dL_law_386 rfl (lv_at hl 3 rfl) ?_
  refine lv_iload_n hx hb dL_law_387 rfl (lv_at hl 0 rfl) ?_
  refine lv_iconst (v := nI 1) hx hb dL_law_388 (by decide) ?_
  refine lv_iadd hx hb dL_law_389 ?_
  rw [nI_plus]
  refine va_sld (A := fun q => s.heap.size ≤ q) hx hb hX hbl hbA hS (vp_in_nI (by omega) (by omega)) dL_law_390 ?_
  rw [nI_cl (by omega)]
  refine lv_aload_n hx hb dL_law_391 rfl (lv_at hl 3 rfl) ?_
  refine lv_iload_n hx hb dL_law_392 rfl (lv_at hl 0 rfl) ?_
  refine lv_iconst (v := nI 2) hx hb dL_law_393 (by decide) ?_
  refine lv_iadd hx hb dL_law_394 ?_
  rw [nI_plus]
  refine va_sld (A := fun q => s.heap.size ≤ q) hx hb hX hbl hbA hS (vp_in_nI (by omega) (by omega)) dL_law_395 ?_
  rw [nI_cl (by omega)]
  refine law_call X hl.1 hP hS (As := [xs (i + 1), xs (i + 2)]) (rest := [.int v]) (r := 3) (a := 40) (o := 0) dL_law_396 (show cT 12 47 = some (114, 1055) by decide) (by decide) (by decide) rfl (by decide) (by decide) (by decide) (Nat.le_of_ble_eq_true rfl) (m2 0) hcs (fun H locs hP hS => ?_)
  exact lv_icmp_eq (tgt := 714) hx hb dL_law_399 (by decide) (fun _ => next μ2 hB2 H locs ls hl hP hS) (fun g => absurd rfl g)
theorem law_ruleOf (X : LC dC dI cI cS ad p s m c b L xs) {i : Nat} (hi : i + 5 ≤ L) {μ : Mem} (hB : BR μ) (hcs : cells ≤ 600000 ∧ slots ≤ 7302250) (next : ∀ μ', BR μ' → ∀ (H : Heap) (locs : List Loc) (ls : Array Slot), lv_has ls 4 [(3, .int (nI i)), (2, .ref (ad 3 40 0)), (1, .ref (ad 0 0 0)), (0, .ref b)] → va_P (dC, dI) cls10 (wl cI cS ad μ') H → va_S (fun q => s.heap.size ≤ q) s.heap H locs → W p l e room_1 s m #[Value.ref b] below meth c H locs cells slots Q (F0 m 714 ls [])) : ∀ (H : Heap) (locs : List Loc) (ls : Array Slot), lv_has ls 4 [(3, .int (nI i)), (2, .ref (ad 3 40 0)), (1, .ref (ad 0 0 0)), (0, .ref b)] → va_P (dC, dI) cls10 (wl cI cS ad μ) H → va_S (fun q => s.heap.size ≤ q) s.heap H locs → W p l e room_1 s m #[Value.ref b] below meth c H locs cells slots Q (F0 m 404 ls []) := by
  obtain ⟨v, μ1, μ2, m1, m2, hB2⟩ := CALL_ruleOf (xs (i + 1)) (xs (i + 2)) μ hB
  obtain ⟨hx, hb, hml, hown, hts, hW, hK, hA, hX, hbl, hL⟩ := id X
  have hbA : ¬ s.heap.size ≤ b := by omega
  intro H locs ls hl hP hS
  refine lv_aload_n hx hb dL_law_404 rfl (lv_at hl 2 rfl) ?_
  refine lv_aload_n hx hb dL_law_405 rfl (lv_at hl 3 rfl) ?_
  refine lv_iload_n hx hb dL_law_406 rfl (lv_at hl 0 rfl) ?_
  refine lv_iconst (v := nI 1) hx hb dL_law_407 (by decide) ?_
  refine lv_iadd hx hb dL_law_408 ?_
  rw [nI_plus]
  refine va_sld (A := fun q => s.heap.size ≤ q) hx hb hX hbl hbA hS (vp_in_nI (by omega) (by omega)) dL_law_409 ?_
  rw [nI_cl (by omega)]
  refine lv_aload_n hx hb dL_law_410 rfl (lv_at hl 3 rfl) ?_
  refine lv_iload_n hx hb dL_law_411 rfl (lv_at hl 0 rfl) ?_
  refine lv_iconst (v := nI 2) hx hb dL_law_412 (by decide) ?_
  refine lv_iadd hx hb dL_law_413 ?_
  rw [nI_plus]
  refine va_sld (A := fun q => s.heap.size ≤ q) hx hb hX hbl hbA hS (vp_in_nI (by omega) (by omega)) dL_law_414 ?_
  rw [nI_cl (by omega)]
  refine law_call X hl.1 hP hS (As := [xs (i + 1), xs (i + 2)]) (rest := []) (r := 0) (a := 0) (o := 0) dL_law_415 (show cT 12 48 = some (54, 605) by decide) (by decide) (by decide) rfl (by decide) (by decide) (by decide) (Nat.le_of_ble_eq_true rfl) (m1 0) hcs (fun H locs hP hS => ?_)
  refine lv_aload_n hx hb dL_law_418 rfl (lv_at hl 1 rfl) ?_
  refine lv_aload_n hx hb dL_law_419 rfl (lv_at hl 3 rfl) ?_
  refine lv_iload_n hx hb dL_law_420 rfl (lv_at hl 0 rfl) ?_
  refine lv_iconst (v := nI 1) hx hb dL_law_421 (by decide) ?_
  refine lv_iadd hx hb dL_law_422 ?_
  rw [nI_plus]
  refine va_sld (A := fun q => s.heap.size ≤ q) hx hb hX hbl hbA hS (vp_in_nI (by omega) (by omega)) dL_law_423 ?_
  rw [nI_cl (by omega)]
  refine lv_aload_n hx hb dL_law_424 rfl (lv_at hl 3 rfl) ?_
  refine lv_iload_n hx hb dL_law_425 rfl (lv_at hl 0 rfl) ?_
  refine lv_iconst (v := nI 2) hx hb dL_law_426 (by decide) ?_
  refine lv_iadd hx hb dL_law_427 ?_
  rw [nI_plus]
  refine va_sld (A := fun q => s.heap.size ≤ q) hx hb hX hbl hbA hS (vp_in_nI (by omega) (by omega)) dL_law_428 ?_
  rw [nI_cl (by omega)]
  refine law_call X hl.1 hP hS (As := [xs (i + 1), xs (i + 2)]) (rest := [.int v]) (r := 3) (a := 40) (o := 0) dL_law_429 (show cT 12 51 = some (115, 1059) by decide) (by decide) (by decide) rfl (by decide) (by decide) (by decide) (Nat.le_of_ble_eq_true rfl) (m2 0) hcs (fun H locs hP hS => ?_)
  exact lv_icmp_eq (tgt := 714) hx hb dL_law_432 (by decide) (fun _ => next μ2 hB2 H locs ls hl hP hS) (fun g => absurd rfl g)
theorem law_kept (X : LC dC dI cI cS ad p s m c b L xs) {i : Nat} (hi : i + 5 ≤ L) {μ : Mem} (hB : BR μ) (hcs : cells ≤ 600000 ∧ slots ≤ 7302250) (next : ∀ μ', BR μ' → ∀ (H : Heap) (locs : List Loc) (ls : Array Slot), lv_has ls 4 [(3, .int (nI i)), (2, .ref (ad 3 40 0)), (1, .ref (ad 0 0 0)), (0, .ref b)] → va_P (dC, dI) cls10 (wl cI cS ad μ') H → va_S (fun q => s.heap.size ≤ q) s.heap H locs → W p l e room_1 s m #[Value.ref b] below meth c H locs cells slots Q (F0 m 714 ls [])) : ∀ (H : Heap) (locs : List Loc) (ls : Array Slot), lv_has ls 4 [(3, .int (nI i)), (2, .ref (ad 3 40 0)), (1, .ref (ad 0 0 0)), (0, .ref b)] → va_P (dC, dI) cls10 (wl cI cS ad μ) H → va_S (fun q => s.heap.size ≤ q) s.heap H locs → W p l e room_1 s m #[Value.ref b] below meth c H locs cells slots Q (F0 m 437 ls []) := by
  obtain ⟨v, μ1, μ2, m1, m2, hB2⟩ := CALL_kept (xs (i + 1)) (xs (i + 2)) μ hB
  obtain ⟨hx, hb, hml, hown, hts, hW, hK, hA, hX, hbl, hL⟩ := id X
  have hbA : ¬ s.heap.size ≤ b := by omega
  intro H locs ls hl hP hS
  refine lv_aload_n hx hb dL_law_437 rfl (lv_at hl 2 rfl) ?_
  refine lv_aload_n hx hb dL_law_438 rfl (lv_at hl 3 rfl) ?_
  refine lv_iload_n hx hb dL_law_439 rfl (lv_at hl 0 rfl) ?_
  refine lv_iconst (v := nI 1) hx hb dL_law_440 (by decide) ?_
  refine lv_iadd hx hb dL_law_441 ?_
  rw [nI_plus]
  refine va_sld (A := fun q => s.heap.size ≤ q) hx hb hX hbl hbA hS (vp_in_nI (by omega) (by omega)) dL_law_442 ?_
  rw [nI_cl (by omega)]
  refine lv_aload_n hx hb dL_law_443 rfl (lv_at hl 3 rfl) ?_
  refine lv_iload_n hx hb dL_law_444 rfl (lv_at hl 0 rfl) ?_
  refine lv_iconst (v := nI 2) hx hb dL_law_445 (by decide) ?_
  refine lv_iadd hx hb dL_law_446 ?_
  rw [nI_plus]
  refine va_sld (A := fun q => s.heap.size ≤ q) hx hb hX hbl hbA hS (vp_in_nI (by omega) (by omega)) dL_law_447 ?_
  rw [nI_cl (by omega)]
  refine law_call X hl.1 hP hS (As := [xs (i + 1), xs (i + 2)]) (rest := []) (r := 0) (a := 0) (o := 0) dL_law_448 (show cT 12 52 = some (55, 609) by decide) (by decide) (by decide) rfl (by decide) (by decide) (by decide) (Nat.le_of_ble_eq_true rfl) (m1 0) hcs (fun H locs hP hS => ?_)
  refine lv_aload_n hx hb dL_law_451 rfl (lv_at hl 1 rfl) ?_
  refine lv_aload_n hx hb dL_law_452 rfl (lv_at hl 3 rfl) ?_
  refine lv_iload_n hx hb dL_law_453 rfl (lv_at hl 0 rfl) ?_
  refine lv_iconst (v := nI 1) hx hb dL_law_454 (by decide) ?_
  refine lv_iadd hx hb dL_law_455 ?_
  rw [nI_plus]
  refine va_sld (A := fun q => s.heap.size ≤ q) hx hb hX hbl hbA hS (vp_in_nI (by omega) (by omega)) dL_law_456 ?_
  rw [nI_cl (by omega)]
  refine lv_aload_n hx hb dL_law_457 rfl (lv_at hl 3 rfl) ?_
  refine lv_iload_n hx hb dL_law_458 rfl (lv_at hl 0 rfl) ?_
  refine lv_iconst (v := nI 2) hx hb dL_law_459 (by decide) ?_
  refine lv_iadd hx hb dL_law_460 ?_
  rw [nI_plus]
  refine va_sld (A := fun q => s.heap.size ≤ q) hx hb hX hbl hbA hS (vp_in_nI (by omega) (by omega)) dL_law_461 ?_
  rw [nI_cl (by omega)]
  refine law_call X hl.1 hP hS (As := [xs (i + 1), xs (i + 2)]) (rest := [.int v]) (r := 3) (a := 40) (o := 0) dL_law_462 (show cT 12 55 = some (116, 1063) by decide) (by decide) (by decide) rfl (by decide) (by decide) (by decide) (Nat.le_of_ble_eq_true rfl) (m2 0) hcs (fun H locs hP hS => ?_)
  exact lv_icmp_eq (tgt := 714) hx hb dL_law_465 (by decide) (fun _ => next μ2 hB2 H locs ls hl hP hS) (fun g => absurd rfl g)
theorem law_job (X : LC dC dI cI cS ad p s m c b L xs) {i : Nat} (hi : i + 5 ≤ L) {μ : Mem} (hB : BR μ) (hcs : cells ≤ 600000 ∧ slots ≤ 7302250) (next : ∀ μ', BR μ' → ∀ (H : Heap) (locs : List Loc) (ls : Array Slot), lv_has ls 4 [(3, .int (nI i)), (2, .ref (ad 3 40 0)), (1, .ref (ad 0 0 0)), (0, .ref b)] → va_P (dC, dI) cls10 (wl cI cS ad μ') H → va_S (fun q => s.heap.size ≤ q) s.heap H locs → W p l e room_1 s m #[Value.ref b] below meth c H locs cells slots Q (F0 m 714 ls [])) : ∀ (H : Heap) (locs : List Loc) (ls : Array Slot), lv_has ls 4 [(3, .int (nI i)), (2, .ref (ad 3 40 0)), (1, .ref (ad 0 0 0)), (0, .ref b)] → va_P (dC, dI) cls10 (wl cI cS ad μ) H → va_S (fun q => s.heap.size ≤ q) s.heap H locs → W p l e room_1 s m #[Value.ref b] below meth c H locs cells slots Q (F0 m 470 ls []) := by
  obtain ⟨v, μ1, μ2, m1, m2, hB2⟩ := CALL_job (xs (i + 1)) (xs (i + 2)) μ hB
  obtain ⟨hx, hb, hml, hown, hts, hW, hK, hA, hX, hbl, hL⟩ := id X
  have hbA : ¬ s.heap.size ≤ b := by omega
  intro H locs ls hl hP hS
  refine lv_aload_n hx hb dL_law_470 rfl (lv_at hl 2 rfl) ?_
  refine lv_aload_n hx hb dL_law_471 rfl (lv_at hl 3 rfl) ?_
  refine lv_iload_n hx hb dL_law_472 rfl (lv_at hl 0 rfl) ?_
  refine lv_iconst (v := nI 1) hx hb dL_law_473 (by decide) ?_
  refine lv_iadd hx hb dL_law_474 ?_
  rw [nI_plus]
  refine va_sld (A := fun q => s.heap.size ≤ q) hx hb hX hbl hbA hS (vp_in_nI (by omega) (by omega)) dL_law_475 ?_
  rw [nI_cl (by omega)]
  refine lv_aload_n hx hb dL_law_476 rfl (lv_at hl 3 rfl) ?_
  refine lv_iload_n hx hb dL_law_477 rfl (lv_at hl 0 rfl) ?_
  refine lv_iconst (v := nI 2) hx hb dL_law_478 (by decide) ?_
  refine lv_iadd hx hb dL_law_479 ?_
  rw [nI_plus]
  refine va_sld (A := fun q => s.heap.size ≤ q) hx hb hX hbl hbA hS (vp_in_nI (by omega) (by omega)) dL_law_480 ?_
  rw [nI_cl (by omega)]
  refine law_call X hl.1 hP hS (As := [xs (i + 1), xs (i + 2)]) (rest := []) (r := 0) (a := 0) (o := 0) dL_law_481 (show cT 12 56 = some (56, 614) by decide) (by decide) (by decide) rfl (by decide) (by decide) (by decide) (Nat.le_of_ble_eq_true rfl) (m1 0) hcs (fun H locs hP hS => ?_)
  refine lv_aload_n hx hb dL_law_484 rfl (lv_at hl 1 rfl) ?_
  refine lv_aload_n hx hb dL_law_485 rfl (lv_at hl 3 rfl) ?_
  refine lv_iload_n hx hb dL_law_486 rfl (lv_at hl 0 rfl) ?_
  refine lv_iconst (v := nI 1) hx hb dL_law_487 (by decide) ?_
  refine lv_iadd hx hb dL_law_488 ?_
  rw [nI_plus]
  refine va_sld (A := fun q => s.heap.size ≤ q) hx hb hX hbl hbA hS (vp_in_nI (by omega) (by omega)) dL_law_489 ?_
  rw [nI_cl (by omega)]
  refine lv_aload_n hx hb dL_law_490 rfl (lv_at hl 3 rfl) ?_
  refine lv_iload_n hx hb dL_law_491 rfl (lv_at hl 0 rfl) ?_
  refine lv_iconst (v := nI 2) hx hb dL_law_492 (by decide) ?_
  refine lv_iadd hx hb dL_law_493 ?_
  rw [nI_plus]
  refine va_sld (A := fun q => s.heap.size ≤ q) hx hb hX hbl hbA hS (vp_in_nI (by omega) (by omega)) dL_law_494 ?_
  rw [nI_cl (by omega)]
  refine law_call X hl.1 hP hS (As := [xs (i + 1), xs (i + 2)]) (rest := [.int v]) (r := 3) (a := 40) (o := 0) dL_law_495 (show cT 12 59 = some (118, 1067) by decide) (by decide) (by decide) rfl (by decide) (by decide) (by decide) (Nat.le_of_ble_eq_true rfl) (m2 0) hcs (fun H locs hP hS => ?_)
  exact lv_icmp_eq (tgt := 714) hx hb dL_law_498 (by decide) (fun _ => next μ2 hB2 H locs ls hl hP hS) (fun g => absurd rfl g)
theorem law_row (X : LC dC dI cI cS ad p s m c b L xs) {i : Nat} (hi : i + 5 ≤ L) {μ : Mem} (hB : BR μ) (hcs : cells ≤ 600000 ∧ slots ≤ 7302250) (next : ∀ μ', BR μ' → ∀ (H : Heap) (locs : List Loc) (ls : Array Slot), lv_has ls 4 [(3, .int (nI i)), (2, .ref (ad 3 40 0)), (1, .ref (ad 0 0 0)), (0, .ref b)] → va_P (dC, dI) cls10 (wl cI cS ad μ') H → va_S (fun q => s.heap.size ≤ q) s.heap H locs → W p l e room_1 s m #[Value.ref b] below meth c H locs cells slots Q (F0 m 714 ls [])) : ∀ (H : Heap) (locs : List Loc) (ls : Array Slot), lv_has ls 4 [(3, .int (nI i)), (2, .ref (ad 3 40 0)), (1, .ref (ad 0 0 0)), (0, .ref b)] → va_P (dC, dI) cls10 (wl cI cS ad μ) H → va_S (fun q => s.heap.size ≤ q) s.heap H locs → W p l e room_1 s m #[Value.ref b] below meth c H locs cells slots Q (F0 m 503 ls []) := by
  obtain ⟨v, μ1, μ2, m1, m2, hB2⟩ := CALL_row (xs (i + 1)) (xs (i + 2)) μ hB
  obtain ⟨hx, hb, hml, hown, hts, hW, hK, hA, hX, hbl, hL⟩ := id X
  have hbA : ¬ s.heap.size ≤ b := by omega
  intro H locs ls hl hP hS
  refine lv_aload_n hx hb dL_law_503 rfl (lv_at hl 2 rfl) ?_
  refine lv_aload_n hx hb dL_law_504 rfl (lv_at hl 3 rfl) ?_
  refine lv_iload_n hx hb dL_law_505 rfl (lv_at hl 0 rfl) ?_
  refine lv_iconst (v := nI 1) hx hb dL_law_506 (by decide) ?_
  refine lv_iadd hx hb dL_law_507 ?_
  rw [nI_plus]
  refine va_sld (A := fun q => s.heap.size ≤ q) hx hb hX hbl hbA hS (vp_in_nI (by omega) (by omega)) dL_law_508 ?_
  rw [nI_cl (by omega)]
  refine lv_aload_n hx hb dL_law_509 rfl (lv_at hl 3 rfl) ?_
  refine lv_iload_n hx hb dL_law_510 rfl (lv_at hl 0 rfl) ?_
  refine lv_iconst (v := nI 2) hx hb dL_law_511 (by decide) ?_
  refine lv_iadd hx hb dL_law_512 ?_
  rw [nI_plus]
  refine va_sld (A := fun q => s.heap.size ≤ q) hx hb hX hbl hbA hS (vp_in_nI (by omega) (by omega)) dL_law_513 ?_
  rw [nI_cl (by omega)]
  refine law_call X hl.1 hP hS (As := [xs (i + 1), xs (i + 2)]) (rest := []) (r := 0) (a := 0) (o := 0) dL_law_514 (show cT 12 60 = some (57, 626) by decide) (by decide) (by decide) rfl (by decide) (by decide) (by decide) (Nat.le_of_ble_eq_true rfl) (m1 0) hcs (fun H locs hP hS => ?_)
  refine lv_aload_n hx hb dL_law_517 rfl (lv_at hl 1 rfl) ?_
  refine lv_aload_n hx hb dL_law_518 rfl (lv_at hl 3 rfl) ?_
  refine lv_iload_n hx hb dL_law_519 rfl (lv_at hl 0 rfl) ?_
  refine lv_iconst (v := nI 1) hx hb dL_law_520 (by decide) ?_
  refine lv_iadd hx hb dL_law_521 ?_
  rw [nI_plus]
  refine va_sld (A := fun q => s.heap.size ≤ q) hx hb hX hbl hbA hS (vp_in_nI (by omega) (by omega)) dL_law_522 ?_
  rw [nI_cl (by omega)]
  refine lv_aload_n hx hb dL_law_523 rfl (lv_at hl 3 rfl) ?_
  refine lv_iload_n hx hb dL_law_524 rfl (lv_at hl 0 rfl) ?_
  refine lv_iconst (v := nI 2) hx hb dL_law_525 (by decide) ?_
  refine lv_iadd hx hb dL_law_526 ?_
  rw [nI_plus]
  refine va_sld (A := fun q => s.heap.size ≤ q) hx hb hX hbl hbA hS (vp_in_nI (by omega) (by omega)) dL_law_527 ?_
  rw [nI_cl (by omega)]
  refine law_call X hl.1 hP hS (As := [xs (i + 1), xs (i + 2)]) (rest := [.int v]) (r := 3) (a := 40) (o := 0) dL_law_528 (show cT 12 63 = some (119, 1075) by decide) (by decide) (by decide) rfl (by decide) (by decide) (by decide) (Nat.le_of_ble_eq_true rfl) (m2 0) hcs (fun H locs hP hS => ?_)
  exact lv_icmp_eq (tgt := 714) hx hb dL_law_531 (by decide) (fun _ => next μ2 hB2 H locs ls hl hP hS) (fun g => absurd rfl g)
theorem law_guest (X : LC dC dI cI cS ad p s m c b L xs) {i : Nat} (hi : i + 5 ≤ L) {μ : Mem} (hB : BR μ) (hcs : cells ≤ 600000 ∧ slots ≤ 7302250) (next : ∀ μ', BR μ' → ∀ (H : Heap) (locs : List Loc) (ls : Array Slot), lv_has ls 4 [(3, .int (nI i)), (2, .ref (ad 3 40 0)), (1, .ref (ad 0 0 0)), (0, .ref b)] → va_P (dC, dI) cls10 (wl cI cS ad μ') H → va_S (fun q => s.heap.size ≤ q) s.heap H locs → W p l e room_1 s m #[Value.ref b] below meth c H locs cells slots Q (F0 m 714 ls [])) : ∀ (H : Heap) (locs : List Loc) (ls : Array Slot), lv_has ls 4 [(3, .int (nI i)), (2, .ref (ad 3 40 0)), (1, .ref (ad 0 0 0)), (0, .ref b)] → va_P (dC, dI) cls10 (wl cI cS ad μ) H → va_S (fun q => s.heap.size ≤ q) s.heap H locs → W p l e room_1 s m #[Value.ref b] below meth c H locs cells slots Q (F0 m 536 ls []) := by
  obtain ⟨v, μ1, μ2, m1, m2, hB2⟩ := CALL_guest (xs (i + 1)) (xs (i + 2)) μ hB
  obtain ⟨hx, hb, hml, hown, hts, hW, hK, hA, hX, hbl, hL⟩ := id X
  have hbA : ¬ s.heap.size ≤ b := by omega
  intro H locs ls hl hP hS
  refine lv_aload_n hx hb dL_law_536 rfl (lv_at hl 2 rfl) ?_
  refine lv_aload_n hx hb dL_law_537 rfl (lv_at hl 3 rfl) ?_
  refine lv_iload_n hx hb dL_law_538 rfl (lv_at hl 0 rfl) ?_
  refine lv_iconst (v := nI 1) hx hb dL_law_539 (by decide) ?_
  refine lv_iadd hx hb dL_law_540 ?_
  rw [nI_plus]
  refine va_sld (A := fun q => s.heap.size ≤ q) hx hb hX hbl hbA hS (vp_in_nI (by omega) (by omega)) dL_law_541 ?_
  rw [nI_cl (by omega)]
  refine lv_aload_n hx hb dL_law_542 rfl (lv_at hl 3 rfl) ?_
  refine lv_iload_n hx hb dL_law_543 rfl (lv_at hl 0 rfl) ?_
  refine lv_iconst (v := nI 2) hx hb dL_law_544 (by decide) ?_
  refine lv_iadd hx hb dL_law_545 ?_
  rw [nI_plus]
  refine va_sld (A := fun q => s.heap.size ≤ q) hx hb hX hbl hbA hS (vp_in_nI (by omega) (by omega)) dL_law_546 ?_
  rw [nI_cl (by omega)]
  refine law_call X hl.1 hP hS (As := [xs (i + 1), xs (i + 2)]) (rest := []) (r := 0) (a := 0) (o := 0) dL_law_547 (show cT 12 64 = some (58, 630) by decide) (by decide) (by decide) rfl (by decide) (by decide) (by decide) (Nat.le_of_ble_eq_true rfl) (m1 0) hcs (fun H locs hP hS => ?_)
  refine lv_aload_n hx hb dL_law_550 rfl (lv_at hl 1 rfl) ?_
  refine lv_aload_n hx hb dL_law_551 rfl (lv_at hl 3 rfl) ?_
  refine lv_iload_n hx hb dL_law_552 rfl (lv_at hl 0 rfl) ?_
  refine lv_iconst (v := nI 1) hx hb dL_law_553 (by decide) ?_
  refine lv_iadd hx hb dL_law_554 ?_
  rw [nI_plus]
  refine va_sld (A := fun q => s.heap.size ≤ q) hx hb hX hbl hbA hS (vp_in_nI (by omega) (by omega)) dL_law_555 ?_
  rw [nI_cl (by omega)]
  refine lv_aload_n hx hb dL_law_556 rfl (lv_at hl 3 rfl) ?_
  refine lv_iload_n hx hb dL_law_557 rfl (lv_at hl 0 rfl) ?_
  refine lv_iconst (v := nI 2) hx hb dL_law_558 (by decide) ?_
  refine lv_iadd hx hb dL_law_559 ?_
  rw [nI_plus]
  refine va_sld (A := fun q => s.heap.size ≤ q) hx hb hX hbl hbA hS (vp_in_nI (by omega) (by omega)) dL_law_560 ?_
  rw [nI_cl (by omega)]
  refine law_call X hl.1 hP hS (As := [xs (i + 1), xs (i + 2)]) (rest := [.int v]) (r := 3) (a := 40) (o := 0) dL_law_561 (show cT 12 67 = some (120, 1079) by decide) (by decide) (by decide) rfl (by decide) (by decide) (by decide) (Nat.le_of_ble_eq_true rfl) (m2 0) hcs (fun H locs hP hS => ?_)
  exact lv_icmp_eq (tgt := 714) hx hb dL_law_564 (by decide) (fun _ => next μ2 hB2 H locs ls hl hP hS) (fun g => absurd rfl g)
theorem law_count (X : LC dC dI cI cS ad p s m c b L xs) {i : Nat} (hi : i + 5 ≤ L) {μ : Mem} (hB : BR μ) (hcs : cells ≤ 600000 ∧ slots ≤ 7302250) (next : ∀ μ', BR μ' → ∀ (H : Heap) (locs : List Loc) (ls : Array Slot), lv_has ls 4 [(3, .int (nI i)), (2, .ref (ad 3 40 0)), (1, .ref (ad 0 0 0)), (0, .ref b)] → va_P (dC, dI) cls10 (wl cI cS ad μ') H → va_S (fun q => s.heap.size ≤ q) s.heap H locs → W p l e room_1 s m #[Value.ref b] below meth c H locs cells slots Q (F0 m 714 ls [])) : ∀ (H : Heap) (locs : List Loc) (ls : Array Slot), lv_has ls 4 [(3, .int (nI i)), (2, .ref (ad 3 40 0)), (1, .ref (ad 0 0 0)), (0, .ref b)] → va_P (dC, dI) cls10 (wl cI cS ad μ) H → va_S (fun q => s.heap.size ≤ q) s.heap H locs → W p l e room_1 s m #[Value.ref b] below meth c H locs cells slots Q (F0 m 569 ls []) := by
  obtain ⟨v, μ1, μ2, m1, m2, hB2⟩ := CALL_count (xs (i + 1)) μ hB
  obtain ⟨hx, hb, hml, hown, hts, hW, hK, hA, hX, hbl, hL⟩ := id X
  have hbA : ¬ s.heap.size ≤ b := by omega
  intro H locs ls hl hP hS
  refine lv_aload_n hx hb dL_law_569 rfl (lv_at hl 2 rfl) ?_
  refine lv_aload_n hx hb dL_law_570 rfl (lv_at hl 3 rfl) ?_
  refine lv_iload_n hx hb dL_law_571 rfl (lv_at hl 0 rfl) ?_
  refine lv_iconst (v := nI 1) hx hb dL_law_572 (by decide) ?_
  refine lv_iadd hx hb dL_law_573 ?_
  rw [nI_plus]
  refine va_sld (A := fun q => s.heap.size ≤ q) hx hb hX hbl hbA hS (vp_in_nI (by omega) (by omega)) dL_law_574 ?_
  rw [nI_cl (by omega)]
  refine law_call X hl.1 hP hS (As := [xs (i + 1)]) (rest := []) (r := 0) (a := 0) (o := 0) dL_law_575 (show cT 12 68 = some (59, 634) by decide) (by decide) (by decide) rfl (by decide) (by decide) (by decide) (Nat.le_of_ble_eq_true rfl) (m1 0) hcs (fun H locs hP hS => ?_)
  refine lv_aload_n hx hb dL_law_578 rfl (lv_at hl 1 rfl) ?_
  refine lv_aload_n hx hb dL_law_579 rfl (lv_at hl 3 rfl) ?_
  refine lv_iload_n hx hb dL_law_580 rfl (lv_at hl 0 rfl) ?_
  refine lv_iconst (v := nI 1) hx hb dL_law_581 (by decide) ?_
  refine lv_iadd hx hb dL_law_582 ?_
  rw [nI_plus]
  refine va_sld (A := fun q => s.heap.size ≤ q) hx hb hX hbl hbA hS (vp_in_nI (by omega) (by omega)) dL_law_583 ?_
  rw [nI_cl (by omega)]
  refine law_call X hl.1 hP hS (As := [xs (i + 1)]) (rest := [.int v]) (r := 3) (a := 40) (o := 0) dL_law_584 (show cT 12 71 = some (121, 1083) by decide) (by decide) (by decide) rfl (by decide) (by decide) (by decide) (Nat.le_of_ble_eq_true rfl) (m2 0) hcs (fun H locs hP hS => ?_)
  exact lv_icmp_eq (tgt := 714) hx hb dL_law_587 (by decide) (fun _ => next μ2 hB2 H locs ls hl hP hS) (fun g => absurd rfl g)
theorem law_rest (X : LC dC dI cI cS ad p s m c b L xs) {i : Nat} (hi : i + 5 ≤ L) {μ : Mem} (hB : BR μ) (hcs : cells ≤ 600000 ∧ slots ≤ 7302250) (next : ∀ μ', BR μ' → ∀ (H : Heap) (locs : List Loc) (ls : Array Slot), lv_has ls 4 [(3, .int (nI i)), (2, .ref (ad 3 40 0)), (1, .ref (ad 0 0 0)), (0, .ref b)] → va_P (dC, dI) cls10 (wl cI cS ad μ') H → va_S (fun q => s.heap.size ≤ q) s.heap H locs → W p l e room_1 s m #[Value.ref b] below meth c H locs cells slots Q (F0 m 714 ls [])) : ∀ (H : Heap) (locs : List Loc) (ls : Array Slot), lv_has ls 4 [(3, .int (nI i)), (2, .ref (ad 3 40 0)), (1, .ref (ad 0 0 0)), (0, .ref b)] → va_P (dC, dI) cls10 (wl cI cS ad μ) H → va_S (fun q => s.heap.size ≤ q) s.heap H locs → W p l e room_1 s m #[Value.ref b] below meth c H locs cells slots Q (F0 m 592 ls []) := by
  obtain ⟨v, μ1, μ2, m1, m2, hB2⟩ := CALL_rest (xs (i + 1)) μ hB
  obtain ⟨hx, hb, hml, hown, hts, hW, hK, hA, hX, hbl, hL⟩ := id X
  have hbA : ¬ s.heap.size ≤ b := by omega
  intro H locs ls hl hP hS
  refine lv_aload_n hx hb dL_law_592 rfl (lv_at hl 2 rfl) ?_
  refine lv_aload_n hx hb dL_law_593 rfl (lv_at hl 3 rfl) ?_
  refine lv_iload_n hx hb dL_law_594 rfl (lv_at hl 0 rfl) ?_
  refine lv_iconst (v := nI 1) hx hb dL_law_595 (by decide) ?_
  refine lv_iadd hx hb dL_law_596 ?_
  rw [nI_plus]
  refine va_sld (A := fun q => s.heap.size ≤ q) hx hb hX hbl hbA hS (vp_in_nI (by omega) (by omega)) dL_law_597 ?_
  rw [nI_cl (by omega)]
  refine law_call X hl.1 hP hS (As := [xs (i + 1)]) (rest := []) (r := 0) (a := 0) (o := 0) dL_law_598 (show cT 12 72 = some (60, 638) by decide) (by decide) (by decide) rfl (by decide) (by decide) (by decide) (Nat.le_of_ble_eq_true rfl) (m1 0) hcs (fun H locs hP hS => ?_)
  refine lv_aload_n hx hb dL_law_601 rfl (lv_at hl 1 rfl) ?_
  refine lv_aload_n hx hb dL_law_602 rfl (lv_at hl 3 rfl) ?_
  refine lv_iload_n hx hb dL_law_603 rfl (lv_at hl 0 rfl) ?_
  refine lv_iconst (v := nI 1) hx hb dL_law_604 (by decide) ?_
  refine lv_iadd hx hb dL_law_605 ?_
  rw [nI_plus]
  refine va_sld (A := fun q => s.heap.size ≤ q) hx hb hX hbl hbA hS (vp_in_nI (by omega) (by omega)) dL_law_606 ?_
  rw [nI_cl (by omega)]
  refine law_call X hl.1 hP hS (As := [xs (i + 1)]) (rest := [.int v]) (r := 3) (a := 40) (o := 0) dL_law_607 (show cT 12 75 = some (123, 1087) by decide) (by decide) (by decide) rfl (by decide) (by decide) (by decide) (Nat.le_of_ble_eq_true rfl) (m2 0) hcs (fun H locs hP hS => ?_)
  exact lv_icmp_eq (tgt := 714) hx hb dL_law_610 (by decide) (fun _ => next μ2 hB2 H locs ls hl hP hS) (fun g => absurd rfl g)
theorem law_bears (X : LC dC dI cI cS ad p s m c b L xs) {i : Nat} (hi : i + 5 ≤ L) {μ : Mem} (hB : BR μ) (hcs : cells ≤ 600000 ∧ slots ≤ 7302250) (next : ∀ μ', BR μ' → ∀ (H : Heap) (locs : List Loc) (ls : Array Slot), lv_has ls 4 [(3, .int (nI i)), (2, .ref (ad 3 40 0)), (1, .ref (ad 0 0 0)), (0, .ref b)] → va_P (dC, dI) cls10 (wl cI cS ad μ') H → va_S (fun q => s.heap.size ≤ q) s.heap H locs → W p l e room_1 s m #[Value.ref b] below meth c H locs cells slots Q (F0 m 714 ls [])) : ∀ (H : Heap) (locs : List Loc) (ls : Array Slot), lv_has ls 4 [(3, .int (nI i)), (2, .ref (ad 3 40 0)), (1, .ref (ad 0 0 0)), (0, .ref b)] → va_P (dC, dI) cls10 (wl cI cS ad μ) H → va_S (fun q => s.heap.size ≤ q) s.heap H locs → W p l e room_1 s m #[Value.ref b] below meth c H locs cells slots Q (F0 m 615 ls []) := by
  obtain ⟨v, μ1, μ2, m1, m2, hB2⟩ := CALL_bears (xs (i + 1)) (xs (i + 2)) μ hB
  obtain ⟨hx, hb, hml, hown, hts, hW, hK, hA, hX, hbl, hL⟩ := id X
  have hbA : ¬ s.heap.size ≤ b := by omega
  intro H locs ls hl hP hS
  refine lv_aload_n hx hb dL_law_615 rfl (lv_at hl 2 rfl) ?_
  refine lv_aload_n hx hb dL_law_616 rfl (lv_at hl 3 rfl) ?_
  refine lv_iload_n hx hb dL_law_617 rfl (lv_at hl 0 rfl) ?_
  refine lv_iconst (v := nI 1) hx hb dL_law_618 (by decide) ?_
  refine lv_iadd hx hb dL_law_619 ?_
  rw [nI_plus]
  refine va_sld (A := fun q => s.heap.size ≤ q) hx hb hX hbl hbA hS (vp_in_nI (by omega) (by omega)) dL_law_620 ?_
  rw [nI_cl (by omega)]
  refine lv_aload_n hx hb dL_law_621 rfl (lv_at hl 3 rfl) ?_
  refine lv_iload_n hx hb dL_law_622 rfl (lv_at hl 0 rfl) ?_
  refine lv_iconst (v := nI 2) hx hb dL_law_623 (by decide) ?_
  refine lv_iadd hx hb dL_law_624 ?_
  rw [nI_plus]
  refine va_sld (A := fun q => s.heap.size ≤ q) hx hb hX hbl hbA hS (vp_in_nI (by omega) (by omega)) dL_law_625 ?_
  rw [nI_cl (by omega)]
  refine law_call X hl.1 hP hS (As := [xs (i + 1), xs (i + 2)]) (rest := []) (r := 0) (a := 0) (o := 0) dL_law_626 (show cT 12 76 = some (61, 685) by decide) (by decide) (by decide) rfl (by decide) (by decide) (by decide) (Nat.le_of_ble_eq_true rfl) (m1 0) hcs (fun H locs hP hS => ?_)
  refine lv_aload_n hx hb dL_law_629 rfl (lv_at hl 1 rfl) ?_
  refine lv_aload_n hx hb dL_law_630 rfl (lv_at hl 3 rfl) ?_
  refine lv_iload_n hx hb dL_law_631 rfl (lv_at hl 0 rfl) ?_
  refine lv_iconst (v := nI 1) hx hb dL_law_632 (by decide) ?_
  refine lv_iadd hx hb dL_law_633 ?_
  rw [nI_plus]
  refine va_sld (A := fun q => s.heap.size ≤ q) hx hb hX hbl hbA hS (vp_in_nI (by omega) (by omega)) dL_law_634 ?_
  rw [nI_cl (by omega)]
  refine lv_aload_n hx hb dL_law_635 rfl (lv_at hl 3 rfl) ?_
  refine lv_iload_n hx hb dL_law_636 rfl (lv_at hl 0 rfl) ?_
  refine lv_iconst (v := nI 2) hx hb dL_law_637 (by decide) ?_
  refine lv_iadd hx hb dL_law_638 ?_
  rw [nI_plus]
  refine va_sld (A := fun q => s.heap.size ≤ q) hx hb hX hbl hbA hS (vp_in_nI (by omega) (by omega)) dL_law_639 ?_
  rw [nI_cl (by omega)]
  refine law_call X hl.1 hP hS (As := [xs (i + 1), xs (i + 2)]) (rest := [.int v]) (r := 3) (a := 40) (o := 0) dL_law_640 (show cT 12 79 = some (124, 1099) by decide) (by decide) (by decide) rfl (by decide) (by decide) (by decide) (Nat.le_of_ble_eq_true rfl) (m2 0) hcs (fun H locs hP hS => ?_)
  exact lv_icmp_eq (tgt := 714) hx hb dL_law_643 (by decide) (fun _ => next μ2 hB2 H locs ls hl hP hS) (fun g => absurd rfl g)
theorem law_best (X : LC dC dI cI cS ad p s m c b L xs) {i : Nat} (hi : i + 5 ≤ L) {μ : Mem} (hB : BR μ) (hcs : cells ≤ 600000 ∧ slots ≤ 7302250) (next : ∀ μ', BR μ' → ∀ (H : Heap) (locs : List Loc) (ls : Array Slot), lv_has ls 4 [(3, .int (nI i)), (2, .ref (ad 3 40 0)), (1, .ref (ad 0 0 0)), (0, .ref b)] → va_P (dC, dI) cls10 (wl cI cS ad μ') H → va_S (fun q => s.heap.size ≤ q) s.heap H locs → W p l e room_1 s m #[Value.ref b] below meth c H locs cells slots Q (F0 m 714 ls [])) : ∀ (H : Heap) (locs : List Loc) (ls : Array Slot), lv_has ls 4 [(3, .int (nI i)), (2, .ref (ad 3 40 0)), (1, .ref (ad 0 0 0)), (0, .ref b)] → va_P (dC, dI) cls10 (wl cI cS ad μ) H → va_S (fun q => s.heap.size ≤ q) s.heap H locs → W p l e room_1 s m #[Value.ref b] below meth c H locs cells slots Q (F0 m 648 ls []) := by
  obtain ⟨v, μ1, μ2, m1, m2, hB2⟩ := CALL_best (xs (i + 1)) (xs (i + 2)) (xs (i + 3)) (xs (i + 4)) μ hB
  obtain ⟨hx, hb, hml, hown, hts, hW, hK, hA, hX, hbl, hL⟩ := id X
  have hbA : ¬ s.heap.size ≤ b := by omega
  intro H locs ls hl hP hS
  refine lv_aload_n hx hb dL_law_648 rfl (lv_at hl 2 rfl) ?_
  refine lv_aload_n hx hb dL_law_649 rfl (lv_at hl 3 rfl) ?_
  refine lv_iload_n hx hb dL_law_650 rfl (lv_at hl 0 rfl) ?_
  refine lv_iconst (v := nI 1) hx hb dL_law_651 (by decide) ?_
  refine lv_iadd hx hb dL_law_652 ?_
  rw [nI_plus]
  refine va_sld (A := fun q => s.heap.size ≤ q) hx hb hX hbl hbA hS (vp_in_nI (by omega) (by omega)) dL_law_653 ?_
  rw [nI_cl (by omega)]
  refine lv_aload_n hx hb dL_law_654 rfl (lv_at hl 3 rfl) ?_
  refine lv_iload_n hx hb dL_law_655 rfl (lv_at hl 0 rfl) ?_
  refine lv_iconst (v := nI 2) hx hb dL_law_656 (by decide) ?_
  refine lv_iadd hx hb dL_law_657 ?_
  rw [nI_plus]
  refine va_sld (A := fun q => s.heap.size ≤ q) hx hb hX hbl hbA hS (vp_in_nI (by omega) (by omega)) dL_law_658 ?_
  rw [nI_cl (by omega)]
  refine lv_aload_n hx hb dL_law_659 rfl (lv_at hl 3 rfl) ?_
  refine lv_iload_n hx hb dL_law_660 rfl (lv_at hl 0 rfl) ?_
  refine lv_iconst (v := nI 3) hx hb dL_law_661 (by decide) ?_
  refine lv_iadd hx hb dL_law_662 ?_
  rw [nI_plus]
  refine va_sld (A := fun q => s.heap.size ≤ q) hx hb hX hbl hbA hS (vp_in_nI (by omega) (by omega)) dL_law_663 ?_
  rw [nI_cl (by omega)]
  refine lv_aload_n hx hb dL_law_664 rfl (lv_at hl 3 rfl) ?_
  refine lv_iload_n hx hb dL_law_665 rfl (lv_at hl 0 rfl) ?_
  refine lv_iconst (v := nI 4) hx hb dL_law_666 (by decide) ?_
  refine lv_iadd hx hb dL_law_667 ?_
  rw [nI_plus]
  refine va_sld (A := fun q => s.heap.size ≤ q) hx hb hX hbl hbA hS (vp_in_nI (by omega) (by omega)) dL_law_668 ?_
  rw [nI_cl (by omega)]
  refine law_call X hl.1 hP hS (As := [xs (i + 1), xs (i + 2), xs (i + 3), xs (i + 4)]) (rest := []) (r := 0) (a := 0) (o := 0) dL_law_669 (show cT 12 80 = some (62, 689) by decide) (by decide) (by decide) rfl (by decide) (by decide) (by decide) (Nat.le_of_ble_eq_true rfl) (m1 0) hcs (fun H locs hP hS => ?_)
  refine lv_aload_n hx hb dL_law_672 rfl (lv_at hl 1 rfl) ?_
  refine lv_aload_n hx hb dL_law_673 rfl (lv_at hl 3 rfl) ?_
  refine lv_iload_n hx hb dL_law_674 rfl (lv_at hl 0 rfl) ?_
  refine lv_iconst (v := nI 1) hx hb dL_law_675 (by decide) ?_
  refine lv_iadd hx hb dL_law_676 ?_
  rw [nI_plus]
  refine va_sld (A := fun q => s.heap.size ≤ q) hx hb hX hbl hbA hS (vp_in_nI (by omega) (by omega)) dL_law_677 ?_
  rw [nI_cl (by omega)]
  refine lv_aload_n hx hb dL_law_678 rfl (lv_at hl 3 rfl) ?_
  refine lv_iload_n hx hb dL_law_679 rfl (lv_at hl 0 rfl) ?_
  refine lv_iconst (v := nI 2) hx hb dL_law_680 (by decide) ?_
  refine lv_iadd hx hb dL_law_681 ?_
  rw [nI_plus]
  refine va_sld (A := fun q => s.heap.size ≤ q) hx hb hX hbl hbA hS (vp_in_nI (by omega) (by omega)) dL_law_682 ?_
  rw [nI_cl (by omega)]
  refine lv_aload_n hx hb dL_law_683 rfl (lv_at hl 3 rfl) ?_
  refine lv_iload_n hx hb dL_law_684 rfl (lv_at hl 0 rfl) ?_
  refine lv_iconst (v := nI 3) hx hb dL_law_685 (by decide) ?_
  refine lv_iadd hx hb dL_law_686 ?_
  rw [nI_plus]
  refine va_sld (A := fun q => s.heap.size ≤ q) hx hb hX hbl hbA hS (vp_in_nI (by omega) (by omega)) dL_law_687 ?_
  rw [nI_cl (by omega)]
  refine lv_aload_n hx hb dL_law_688 rfl (lv_at hl 3 rfl) ?_
  refine lv_iload_n hx hb dL_law_689 rfl (lv_at hl 0 rfl) ?_
  refine lv_iconst (v := nI 4) hx hb dL_law_690 (by decide) ?_
  refine lv_iadd hx hb dL_law_691 ?_
  rw [nI_plus]
  refine va_sld (A := fun q => s.heap.size ≤ q) hx hb hX hbl hbA hS (vp_in_nI (by omega) (by omega)) dL_law_692 ?_
  rw [nI_cl (by omega)]
  refine law_call X hl.1 hP hS (As := [xs (i + 1), xs (i + 2), xs (i + 3), xs (i + 4)]) (rest := [.int v]) (r := 3) (a := 40) (o := 0) dL_law_693 (show cT 12 84 = some (125, 1103) by decide) (by decide) (by decide) rfl (by decide) (by decide) (by decide) (Nat.le_of_ble_eq_true rfl) (m2 0) hcs (fun H locs hP hS => ?_)
  exact lv_icmp_eq (tgt := 714) hx hb dL_law_696 (by decide) (fun _ => next μ2 hB2 H locs ls hl hP hS) (fun g => absurd rfl g)
theorem law_price (X : LC dC dI cI cS ad p s m c b L xs) {i : Nat} (hi : i + 5 ≤ L) {μ : Mem} (hB : BR μ) (hcs : cells ≤ 600000 ∧ slots ≤ 7302250) (next : ∀ μ', BR μ' → ∀ (H : Heap) (locs : List Loc) (ls : Array Slot), lv_has ls 4 [(3, .int (nI i)), (2, .ref (ad 3 40 0)), (1, .ref (ad 0 0 0)), (0, .ref b)] → va_P (dC, dI) cls10 (wl cI cS ad μ') H → va_S (fun q => s.heap.size ≤ q) s.heap H locs → W p l e room_1 s m #[Value.ref b] below meth c H locs cells slots Q (F0 m 714 ls [])) : ∀ (H : Heap) (locs : List Loc) (ls : Array Slot), lv_has ls 4 [(3, .int (nI i)), (2, .ref (ad 3 40 0)), (1, .ref (ad 0 0 0)), (0, .ref b)] → va_P (dC, dI) cls10 (wl cI cS ad μ) H → va_S (fun q => s.heap.size ≤ q) s.heap H locs → W p l e room_1 s m #[Value.ref b] below meth c H locs cells slots Q (F0 m 701 ls []) := by
  obtain ⟨v, μ1, μ2, m1, m2, hB2⟩ := CALL_price  μ hB
  obtain ⟨hx, hb, hml, hown, hts, hW, hK, hA, hX, hbl, hL⟩ := id X
  have hbA : ¬ s.heap.size ≤ b := by omega
  intro H locs ls hl hP hS
  refine lv_aload_n hx hb dL_law_701 rfl (lv_at hl 2 rfl) ?_
  refine law_call X hl.1 hP hS (As := []) (rest := []) (r := 0) (a := 0) (o := 0) dL_law_702 (show cT 12 85 = some (63, 697) by decide) (by decide) (by decide) rfl (by decide) (by decide) (by decide) (Nat.le_of_ble_eq_true rfl) (m1 0) hcs (fun H locs hP hS => ?_)
  refine lv_aload_n hx hb dL_law_705 rfl (lv_at hl 1 rfl) ?_
  refine law_call X hl.1 hP hS (As := []) (rest := [.int v]) (r := 3) (a := 40) (o := 0) dL_law_706 (show cT 12 89 = some (126, 1107) by decide) (by decide) (by decide) rfl (by decide) (by decide) (by decide) (Nat.le_of_ble_eq_true rfl) (m2 0) hcs (fun H locs hP hS => ?_)
  exact lv_icmp_eq (tgt := 714) hx hb dL_law_709 (by decide) (fun _ => next μ2 hB2 H locs ls hl hP hS) (fun g => absurd rfl g)
end LAW1
