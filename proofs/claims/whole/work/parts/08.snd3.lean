/-! THE ABSTRACT MACHINE IS SOUND, 3: a run, and every method at every depth -/
section SN3
variable {p : Program} {l : Launch} {e : Env} {R : Room} {s : State} {m : MethodId} {args : Array Value} {below : List Frame} {meth : Method} {c : Code} {cells slots : Nat} {Q : State → Prop}
variable {dC : Nat → ClassId} {dI : Nat → Nat → Nat} {cI cS : ClassId} {ad : Nat → Nat → Nat → Nat} {y d : Nat} {res : Res} {C : Nat → List AV → Mem → Res → Prop}
theorem okc {v : AV} {S : List AV} (h : okv v) (hS : ∀ w ∈ S, okv w) : ∀ w ∈ v :: S, okv w := fun w hw => (List.mem_cons.mp hw).elim (fun e => e ▸ h) (hS w)
theorem okt {v : AV} {S : List AV} (h : ∀ w ∈ v :: S, okv w) : ∀ w ∈ S, okv w := fun w hw => h w (List.mem_cons_of_mem _ hw)
theorem okh {v : AV} {S : List AV} (h : ∀ w ∈ v :: S, okv w) : okv v := h v List.mem_cons_self
theorem okap {A B : List AV} (h : ∀ w ∈ A.reverse ++ B, okv w) : (∀ w ∈ A, okv w) ∧ ∀ w ∈ B, okv w := ⟨fun w hw => h w (List.mem_append_left _ (List.mem_reverse.mpr hw)), fun w hw => h w (List.mem_append_right _ hw)⟩
set_option maxHeartbeats 2000000 in
theorem core (hC : Snd l dC dI cI cS ad d C) (X : Cx dC dI cI cS ad p R s m args c cells slots d y)
    (hretI : ∀ (pc : Nat) (ls : Array Slot) (H : Heap) (locs : List Loc) (v : Int32) (μ' : Mem), decode (mB y) pc = .ok (.ireturn, 1) → ¬ mR y = none → (mR y = some .boolean → v = 0 ∨ v = 1) → res = (some v, μ') → va_P (dC, dI) cls10 (wl cI cS ad μ') H → va_S (A0 ad) s.heap H locs → W p l e R s m args below meth c H locs cells slots Q (F0 m pc ls [.int v]))
    (hretV : ∀ (pc : Nat) (ls : Array Slot) (H : Heap) (locs : List Loc) (μ' : Mem), decode (mB y) pc = .ok (.return_, 1) → mR y = none → res = (none, μ') → va_P (dC, dI) cls10 (wl cI cS ad μ') H → va_S (A0 ad) s.heap H locs → W p l e R s m args below meth c H locs cells slots Q (F0 m pc ls [])) :
    ∀ (n pc : Nat) (L : Lc) (S : List AV) (μ : Mem), Ev C y res n pc L S μ → ∀ (H : Heap) (locs : List Loc) (ls : Array Slot), LR ad (mL y) ls L → (∀ (i : Nat) (v : AV), L[i]? = some (some v) → okv v) → (∀ v ∈ S, okv v) → va_P (dC, dI) cls10 (wl cI cS ad μ) H → va_S (A0 ad) s.heap H locs → W p l e R s m args below meth c H locs cells slots Q (F0 m pc ls (S.map (vl ad))) := by
  intro n
  induction n with
  | zero => intro pc L S μ h; exact h.elim
  | succ n ih =>
    intro pc L S μ h H locs ls hL hoL hoS hP hS
    obtain ⟨i, k, hd, h⟩ := h
    have hx : p.tables.exec = Jvm.exec := X.1
    have hb : c.code = mB y := X.2.1
    cases i
    case iconst v =>
      obtain ⟨rfl, h⟩ := h
      exact lv_iconst hx hb hd rfl (ih _ _ _ _ h H locs ls hL hoL (okc True.intro hoS) hP hS)
    case bipush v =>
      obtain ⟨rfl, h⟩ := h
      exact lv_bipush hx hb hd rfl (ih _ _ _ _ h H locs ls hL hoL (okc True.intro hoS) hP hS)
    case sipush v =>
      obtain ⟨rfl, h⟩ := h
      exact lv_sipush hx hb hd rfl (ih _ _ _ _ h H locs ls hL hoL (okc True.intro hoS) hP hS)
    case ldc x =>
      obtain ⟨rfl, v, h1, h⟩ := h
      exact sn_ldc X hd h1 (ih _ _ _ _ h H locs ls hL hoL (okc True.intro hoS) hP hS)
    case iload_n x =>
      obtain ⟨rfl, v, h1, h⟩ := h
      exact lv_iload_n hx hb hd rfl (hL.2.2 _ _ h1) (ih _ _ _ _ h H locs ls hL hoL (okc True.intro hoS) hP hS)
    case iload x =>
      obtain ⟨rfl, v, h1, h⟩ := h
      exact lv_iload hx hb hd (hL.2.2 _ _ h1) (ih _ _ _ _ h H locs ls hL hoL (okc True.intro hoS) hP hS)
    case aload_n x =>
      obtain ⟨rfl, v, h1, h⟩ := h
      exact lv_aload_n hx hb hd rfl (hL.2.2 _ _ h1) (ih _ _ _ _ h H locs ls hL hoL (okc (hoL _ _ h1) hoS) hP hS)
    case aload x =>
      obtain ⟨rfl, v, h1, h⟩ := h
      exact lv_aload hx hb hd (hL.2.2 _ _ h1) (ih _ _ _ _ h H locs ls hL hoL (okc (hoL _ _ h1) hoS) hP hS)
    case istore_n x =>
      obtain ⟨rfl, v, S', rfl, h1, h⟩ := h
      exact lv_istore_n hx hb hd rfl hL.has (hL.set_len h1) rfl (fun ls' hl' => ih _ _ _ _ h H locs ls' (hL.store (v := .inl v) h1 hl') (okL_set hoL True.intro) (okt hoS) hP hS)
    case istore x =>
      obtain ⟨rfl, v, S', rfl, h1, h⟩ := h
      exact lv_istore hx hb hd hL.has (hL.set_len h1) rfl (fun ls' hl' => ih _ _ _ _ h H locs ls' (hL.store (v := .inl v) h1 hl') (okL_set hoL True.intro) (okt hoS) hP hS)
    case astore_n x =>
      obtain ⟨rfl, r, a, o, S', rfl, h1, h⟩ := h
      exact lv_astore_n hx hb hd rfl hL.has (hL.set_len h1) rfl (fun ls' hl' => ih _ _ _ _ h H locs ls' (hL.store (v := .inr (r, a, o)) h1 hl') (okL_set hoL (okh hoS)) (okt hoS) hP hS)
    case astore x =>
      obtain ⟨rfl, r, a, o, S', rfl, h1, h⟩ := h
      exact lv_astore hx hb hd hL.has (hL.set_len h1) rfl (fun ls' hl' => ih _ _ _ _ h H locs ls' (hL.store (v := .inr (r, a, o)) h1 hl') (okL_set hoL (okh hoS)) (okt hoS) hP hS)
    case iinc x v =>
      obtain ⟨rfl, w, h1, h⟩ := h
      have hlen : x < L.length := (List.getElem?_eq_some_iff.mp h1).1
      obtain ⟨kx, hkx⟩ := List.mem_iff_getElem?.mp (prs_mem.mpr ⟨.inl w, h1, rfl⟩ : (x, vl ad (.inl w)) ∈ prs ad L)
      exact lv_iinc hx hb hd hL.has hkx rfl (hL.set_len hlen) rfl (fun ls' hl' => ih _ _ _ _ h H locs ls' (hL.store (v := .inl _) hlen hl') (okL_set hoL True.intro) hoS hP hS)
    case iadd =>
      obtain ⟨rfl, b, S1, rfl, a, S2, rfl, h⟩ := h
      exact lv_iadd hx hb hd (ih _ _ _ _ h H locs ls hL hoL (okc True.intro (okt (okt hoS))) hP hS)
    case isub =>
      obtain ⟨rfl, b, S1, rfl, a, S2, rfl, h⟩ := h
      exact lv_isub hx hb hd (ih _ _ _ _ h H locs ls hL hoL (okc True.intro (okt (okt hoS))) hP hS)
    case imul =>
      obtain ⟨rfl, b, S1, rfl, a, S2, rfl, h⟩ := h
      exact lv_imul hx hb hd (ih _ _ _ _ h H locs ls hL hoL (okc True.intro (okt (okt hoS))) hP hS)
    case iand =>
      obtain ⟨rfl, b, S1, rfl, a, S2, rfl, h⟩ := h
      exact lv_iand hx hb hd (ih _ _ _ _ h H locs ls hL hoL (okc True.intro (okt (okt hoS))) hP hS)
    case ixor =>
      obtain ⟨rfl, b, S1, rfl, a, S2, rfl, h⟩ := h
      exact lv_ixor hx hb hd (ih _ _ _ _ h H locs ls hL hoL (okc True.intro (okt (okt hoS))) hP hS)
    case ishl =>
      obtain ⟨rfl, b, S1, rfl, a, S2, rfl, h⟩ := h
      exact lv_ishl hx hb hd (ih _ _ _ _ h H locs ls hL hoL (okc True.intro (okt (okt hoS))) hP hS)
    case irem =>
      obtain ⟨rfl, b, S1, rfl, a, S2, rfl, h0, h⟩ := h
      exact lv_irem hx hb hd h0 (ih _ _ _ _ h H locs ls hL hoL (okc True.intro (okt (okt hoS))) hP hS)
    case dup =>
      obtain ⟨rfl, v, S', rfl, h⟩ := h
      exact lv_dup hx hb hd (vl_cat _ _) (ih _ _ _ _ h H locs ls hL hoL (okc (okh hoS) hoS) hP hS)
    case dup2 =>
      obtain ⟨rfl, v, w, S', rfl, h⟩ := h
      exact lv_dup2_11 hx hb hd (vl_cat _ _) (vl_cat _ _) (ih _ _ _ _ h H locs ls hL hoL (okc (okh hoS) (okc (okh (okt hoS)) hoS)) hP hS)
    case pop =>
      obtain ⟨rfl, v, S', rfl, h⟩ := h
      exact lv_pop hx hb hd (vl_cat _ _) (ih _ _ _ _ h H locs ls hL hoL (okt hoS) hP hS)
    case if_icmp q z =>
      obtain ⟨rfl, b, S1, rfl, a, S2, rfl, t, ht, h1, h2⟩ := h
      have g1 := fun hh => ih _ _ _ _ (h1 hh) H locs ls hL hoL (okt (okt hoS)) hP hS
      have g2 := fun hh => ih _ _ _ _ (h2 hh) H locs ls hL hoL (okt (okt hoS)) hP hS
      cases q
      · exact lv_icmp_eq hx hb hd ht g1 g2
      · exact lv_icmp_ne hx hb hd ht g1 (fun hh => g2 (fun hn => hn hh))
      · exact lv_icmp_lt hx hb hd ht g1 g2
      · exact lv_icmp_ge hx hb hd ht g1 g2
      · exact lv_icmp_gt hx hb hd ht g1 g2
      · exact lv_icmp_le hx hb hd ht g1 g2
    case ifCond q z =>
      obtain ⟨rfl, a, S2, rfl, t, ht, h1, h2⟩ := h
      have g1 := fun hh => ih _ _ _ _ (h1 hh) H locs ls hL hoL (okt hoS) hP hS
      have g2 := fun hh => ih _ _ _ _ (h2 hh) H locs ls hL hoL (okt hoS) hP hS
      cases q
      · exact lv_if_eq hx hb hd ht g1 g2
      · exact lv_if_ne hx hb hd ht g1 (fun hh => g2 (fun hn => hn hh))
      · exact lv_if_lt hx hb hd ht g1 g2
      · exact lv_if_ge hx hb hd ht g1 g2
      · exact lv_if_gt hx hb hd ht g1 g2
      · exact lv_if_le hx hb hd ht g1 g2
    case goto z =>
      obtain ⟨rfl, t, ht, h⟩ := h
      exact lv_goto hx hb hd ht (ih _ _ _ _ h H locs ls hL hoL hoS hP hS)
    case tableswitch df lo hi offs =>
      obtain ⟨x, S1, rfl, h1, h2⟩ := h
      by_cases hlo : x.toInt < lo ∨ hi < x.toInt
      · obtain ⟨t, ht, h⟩ := h2 hlo
        exact lv_tableOut hx hb hd hlo ht (ih _ _ _ _ h H locs ls hL hoL (okt hoS) hP hS)
      · obtain ⟨z, t, hz, ht, h⟩ := h1 ⟨fun e => hlo (Or.inl e), fun e => hlo (Or.inr e)⟩
        exact lv_tableIn hx hb hd (fun e => hlo (Or.inl e)) (fun e => hlo (Or.inr e)) hz ht (ih _ _ _ _ h H locs ls hL hoL (okt hoS) hP hS)
    case lookupswitch df ps =>
      obtain ⟨x, S1, rfl, h1, t, ht, h⟩ := h
      exact lv_lookup hx hb hd h1 rfl ht (ih _ _ _ _ h H locs ls hL hoL (okt hoS) hP hS)
    case getfield x =>
      obtain ⟨rfl, r, a, o, S1, rfl, k, j, b, q, hf, hk, h⟩ := h
      exact sn_get X hP hd hf hk (okh hoS) (fun hok => ih _ _ _ _ h H locs ls hL hoL (okc hok (okt hoS)) hP hS)
    case putfield x =>
      obtain ⟨rfl, v, S0, rfl, r, a, o, S1, rfl, k, j, b, q, hf, hk, hfk, hbz, h⟩ := h
      exact sn_put X hP hS hd hf hk (okh (okt hoS)) hfk hbz (fun H1 locs1 hP1 hS1 => ih _ _ _ _ h H1 locs1 ls hL hoL (okt (okt hoS)) hP1 hS1)
    case iaload =>
      obtain ⟨rfl, x, S0, rfl, r, a, o, S1, rfl, hin, h1, h2⟩ := h
      by_cases hk : kc a = 10
      · exact sn_iald X hP hd hk (okh (okt hoS)) hin (ih _ _ _ _ (h1 hk) H locs ls hL hoL (okc True.intro (okt (okt hoS))) hP hS)
      · obtain ⟨hk2, h⟩ := h2 hk
        exact sn_imld X hS hd hk2 (okh (okt hoS)) hin (ih _ _ _ _ h H locs ls hL hoL (okc True.intro (okt (okt hoS))) hP hS)
    case iastore =>
      obtain ⟨rfl, v, S00, rfl, x, S0, rfl, r, a, o, S1, rfl, hk, hin, h⟩ := h
      exact sn_iast X hP hS hd hk (okh (okt (okt hoS))) hin (fun H1 locs1 hP1 hS1 => ih _ _ _ _ h H1 locs1 ls hL hoL (okt (okt (okt hoS))) hP1 hS1)
    case aaload =>
      obtain ⟨rfl, x, S0, rfl, r, a, o, S1, rfl, hk, hin, h⟩ := h
      exact sn_aald X hP hd hk (okh (okt hoS)) hin (fun hok => ih _ _ _ _ h H locs ls hL hoL (okc hok (okt (okt hoS))) hP hS)
    case arraylength =>
      obtain ⟨rfl, r, a, o, S1, rfl, hk, h⟩ := h
      exact sn_alen X hP hd hk (okh hoS) (ih _ _ _ _ h H locs ls hL hoL (okc True.intro (okt hoS)) hP hS)
    case getstatic x =>
      obtain ⟨rfl, a, hg, h⟩ := h
      exact sn_gets X hS hd hg (fun hok => ih _ _ _ _ h H locs ls hL hoL (okc hok hoS) hP hS)
    case invokevirtual x =>
      obtain ⟨rfl, z, q, hc, hz, hs, As, S0, hn, rfl, r, a, o, S1, rfl, hk, hl, h1, h2⟩ := h
      obtain ⟨o1, o2⟩ := okap hoS
      by_cases hr : mR z = none
      · obtain ⟨μ', hc1, h⟩ := h1 hr
        exact sn_virV hC X hL.1.1 hP hS hd hc hz hs hn hk (okh o2) hl o1 hc1 (fun H1 locs1 hP1 hS1 => ih _ _ _ _ h H1 locs1 ls hL hoL (okt o2) hP1 hS1)
      · obtain ⟨v, μ', hc1, h⟩ := h2 hr
        exact sn_virI hC X hL.1.1 hP hS hd hc hz hs hn hk (okh o2) hl o1 hc1 (fun H1 locs1 hP1 hS1 => ih _ _ _ _ h H1 locs1 ls hL hoL (okc True.intro (okt o2)) hP1 hS1)
    case invokestatic x =>
      obtain ⟨rfl, z, q, hc, h⟩ := h
      rcases h with ⟨rfl, k, S0, rfl, dp, S1, rfl, r', a', o', S2, rfl, sp, S3, rfl, r, a, o, S4, rfl, hk, hk', h1, h2, h3, h4, h5, hl, h⟩ | ⟨hz, hs, As, S1, hn, rfl, hl, h1, h2⟩
      · exact sn_cpy X hL.1.1 hP hS hd hc hk hk' (okh (okt (okt (okt (okt hoS))))) (okh (okt (okt hoS))) h1 h2 h3 h4 h5 (by rw [cat_sum]; exact hl) (fun H1 locs1 hP1 hS1 => ih _ _ _ _ h H1 locs1 ls hL hoL (okt (okt (okt (okt (okt hoS))))) hP1 hS1)
      · obtain ⟨o1, o2⟩ := okap hoS
        by_cases hr : mR z = none
        · obtain ⟨μ', hc1, h⟩ := h1 hr
          exact sn_staV hC X hL.1.1 hP hS hd hc hz hs hn hl o1 hc1 (fun H1 locs1 hP1 hS1 => ih _ _ _ _ h H1 locs1 ls hL hoL o2 hP1 hS1)
        · obtain ⟨v, μ', hc1, h⟩ := h2 hr
          exact sn_staI hC X hL.1.1 hP hS hd hc hz hs hn hl o1 hc1 (fun H1 locs1 hP1 hS1 => ih _ _ _ _ h H1 locs1 ls hL hoL (okc True.intro o2) hP1 hS1)
    case ireturn =>
      obtain ⟨rfl, v, rfl, h1, h2, h3⟩ := h
      exact hretI pc ls H locs v μ hd h2 h1 h3 hP hS
    case return_ =>
      obtain ⟨rfl, rfl, h1, h2⟩ := h
      exact hretV pc ls H locs μ hd h1 h2 hP hS
    all_goals exact False.elim h
theorem Met.ofW2 {y : MethodName} {ws ws' : List Cond} {rm : Room} {Pc : Array Value → State → Prop} {Qc : Array Value → State → Outcome → State → Prop} {mc ms : Nat} {free : Addr → Prop} {cc : ByteArray} {maxL : Nat} {ret : Option FieldType}
    (hy : plainFor y = true) (hw : ws = Cond.code y cc maxL ret :: ws')
    (body : ∀ p e s m args below meth c s₁, BodyLoose p l y (headSpec ws rm) cc maxL ret e s m args below meth c s₁ → c.maxLocals = maxL → Pc args s →
      W p l e (headSpec ws rm).room s m args below meth c s.heap [] 0 0 (MQ below Qc args s mc ms free) (entryFrame m args maxL)) : Met l y ws rm Pc Qc mc ms free := by
  refine MetFree.of_bodySF (code := cc) (maxLocals := maxL) (ret := ret) hy ?_ ?_
  · intro args s m h hn
    obtain ⟨meth, c, h1, h2, h3, h4, h5, h6, -, -⟩ := Cond.code_spec hn (atoms_spec (ws := ws) h _ (by rw [hw]; exact List.mem_cons_self))
    exact ⟨meth, c, h1, h2, h3, h4, h5, h6⟩
  · intro p e s m args below meth c s₁ B hml hP _
    have hh0 : s₁.heap = s.heap := by rw [B.state]; rfl
    obtain ⟨t, a1, o, b1, b2, b3⟩ := body p e s m args below meth c s₁ B hml hP s₁ hh0 (Stand.of_body B)
    exact ⟨t, o, a1, b1, b2, ⟨b3.1, b3.2⟩⟩
theorem lg_sl_map (as : List AV) : lg_sl (as.map (vl ad)) = as.map (fun v => Slot.val (vl ad v)) := by
  unfold lg_sl
  induction as with
  | nil => rfl
  | cons a as ih =>
    rw [List.map_cons, List.flatMap_cons, ih, if_neg (by rw [vl_cat]; decide)]
    rfl
theorem lc0_LR {n : Nat} {as : List AV} (h : as.length ≤ n) : LR ad n ((lg_sl (as.map (vl ad)) ++ List.replicate (n - (lg_sl (as.map (vl ad))).length) Slot.unset).toArray) (lc0 n as) := by
  have hl : (lg_sl (as.map (vl ad))).length ≤ n := by rw [lg_sl_map, List.length_map]; exact h
  have h0 := lv_entry (as.map (vl ad)) hl
  refine ⟨⟨h0.1, h0.2.1, fun q hq => by cases hq⟩, ?_, fun i v hv => ?_⟩
  · unfold lc0
    rw [List.length_append, List.length_map, List.length_replicate]; omega
  · unfold lc0 at hv
    rw [List.getElem?_append] at hv
    rw [List.getElem?_toArray, List.getElem?_append, lg_sl_map]
    rw [List.length_map] at hv ⊢
    by_cases hi : i < as.length
    · rw [if_pos hi] at hv ⊢
      rw [List.getElem?_map] at hv ⊢
      cases ha : as[i]? with
      | none => rw [ha] at hv; cases hv
      | some w => rw [ha] at hv; cases hv; rfl
    · rw [if_neg hi] at hv
      rw [List.getElem?_replicate] at hv
      split at hv <;> cases hv
theorem lc0_ok {n : Nat} {as : List AV} (h : ∀ v ∈ as, okv v) : ∀ (i : Nat) (v : AV), (lc0 n as)[i]? = some (some v) → okv v := by
  intro i v hv
  unfold lc0 at hv
  rw [List.getElem?_append] at hv
  rw [List.length_map] at hv
  by_cases hi : i < as.length
  · rw [if_pos hi, List.getElem?_map] at hv
    cases ha : as[i]? with
    | none => rw [ha] at hv; cases hv
    | some w => rw [ha] at hv; cases hv; exact h _ (List.mem_of_getElem? ha)
  · rw [if_neg hi, List.getElem?_replicate] at hv
    split at hv <;> cases hv
set_option maxHeartbeats 1000000 in
theorem sound (l : Launch) (dC : Nat → ClassId) (dI : Nat → Nat → Nat) (cI cS : ClassId) (ad : Nat → Nat → Nat → Nat) : ∀ d, Snd l dC dI cI cS ad d (M d) := by
  intro d
  induction d with
  | zero => intro z as μ res h; exact h.elim
  | succ d ih =>
    intro z as μ res h hz has
    obtain ⟨hlen, n, h⟩ := h
    obtain ⟨k1, k2, k3, k4, k5, k6, k7, k8, k9⟩ := chkM_spec hz
    refine Met.ofW2 (cc := mB z) (maxL := mL z) (ret := mR z) k2 rfl ?_
    intro p e s m args below meth c s₁ B hml hv
    obtain ⟨rfl, hP, hW⟩ := hv
    have hts := atoms_spec (ws := wsU z) B.pre
    have hown : s.vm.findClass (mN z).cls = some m.cls := findClass_of_methodNamed B.named
    have hlocks := B.notSynchronized
    have hr := B.returns
    have X : Cx dC dI cI cS ad p (headSpec (wsU z) (rmd (d + 1))).room s m (as.map (vl ad)).toArray c 0 0 d z :=
      ⟨B.exec, B.bytes, hml, by rw [k1]; exact hown, fun w hw => hts w (List.mem_cons_of_mem _ hw), hW, Nat.le_refl _, Nat.le_refl _, Nat.le_refl _, Nat.le_refl _⟩
    rw [lg_entry_eq]
    refine core (res := res) ih X ?_ ?_ n 0 _ [] μ h s.heap [] _ (lc0_LR hlen) (lc0_ok has) (fun v hv => by cases hv) hP va_S.rf
    · intro pc ls H locs v μ' hd hn hb e hP1 hS1
      subst e
      have hq : ∀ t : State, t.heap = H → s.WarmedH t.vm → Qm dC dI cI cS ad (some v, μ') (as.map (vl ad)).toArray s (.returned (some (.int v))) t := fun t ht hWt => ⟨⟨v, (), rfl, rfl, by show va_P _ _ _ t.heap; rw [ht]; exact hP1⟩, hS1.F ht⟩
      cases hR : mR z with
      | none => exact absurd hR hn
      | some ty =>
        have hty : narrow ty (.int v) = .int v := by
          have hall : ∀ y, y < 131 → mR y = none ∨ mR y = some .int ∨ mR y = some .boolean := by decide +kernel
          rcases hall z hz with h1 | h1 | h1
          · exact absurd h1 hn
          · rw [hR] at h1; cases h1; rfl
          · rcases hb h1 with rfl | rfl <;> (rw [hR] at h1; cases h1; rfl)
        exact W.zret B.exec B.bytes (hr.trans hR) hty hq hS1.2.2 hd
    · intro pc ls H locs μ' hd hn e hP1 hS1
      subst e
      exact W.vret B.exec B.bytes (hr.trans hn) (fun t ht hWt => ⟨⟨(), rfl, trivial, by show va_P _ _ _ t.heap; rw [ht]; exact hP1⟩, hS1.F ht⟩) hS1.2.2 hd
end SN3
