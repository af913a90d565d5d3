/-! block lemmas: what the printed proofs use -/
theorem mget_a {μ : Mem} {r a o i r' a' o' i' : Nat} {v : Int32} (h : a' ≠ a) : mset μ r a o i v r' a' o' i' = μ r' a' o' i' := by
  unfold mset
  have := mrow_ne (μ := μ) (f := va_up (μ r a o) i v) (k := (r', a', o')) (r := r) (a := a) (o := o) (fun e => h (by cases e; rfl))
  exact congrFun this i'
theorem mrget_a {μ : Mem} {r a o r' a' o' i' : Nat} {f : Nat → Int32} (h : a' ≠ a) : mrow μ r a o f r' a' o' i' = μ r' a' o' i' := congrFun (mrow_ne (μ := μ) (f := f) (k := (r', a', o')) (r := r) (a := a) (o := o) (fun e => h (by cases e; rfl))) i'
theorem mget_r {μ : Mem} {r a o i r' a' o' i' : Nat} {v : Int32} (h : r' ≠ r) : mset μ r a o i v r' a' o' i' = μ r' a' o' i' := by
  unfold mset
  have := mrow_ne (μ := μ) (f := va_up (μ r a o) i v) (k := (r', a', o')) (r := r) (a := a) (o := o) (fun e => h (by cases e; rfl))
  exact congrFun this i'
theorem mrget_r {μ : Mem} {r a o r' a' o' i' : Nat} {f : Nat → Int32} (h : r' ≠ r) : mrow μ r a o f r' a' o' i' = μ r' a' o' i' := congrFun (mrow_ne (μ := μ) (f := f) (k := (r', a', o')) (r := r) (a := a) (o := o) (fun e => h (by cases e; rfl))) i'
theorem mget_i {μ : Mem} {r a o i r' a' o' i' : Nat} {v : Int32} (h : i' ≠ i) : mset μ r a o i v r' a' o' i' = μ r' a' o' i' := by
  unfold mset
  by_cases hk : (r', a', o') = (r, a, o)
  · cases hk
    rw [mrow_self, va_up_ne _ _ h]
  · exact congrFun (mrow_ne (k := (r', a', o')) hk) i'
theorem mget_s {μ : Mem} {r a o i : Nat} {v : Int32} : mset μ r a o i v r a o i = v := by
  unfold mset
  rw [mrow_self, va_up_self]
theorem mgetR_a {μ : Mem} {r a o i r' a' o' : Nat} {v : Int32} (h : a' ≠ a) : mset μ r a o i v r' a' o' = μ r' a' o' := mrow_ne (k := (r', a', o')) (fun e => h (by cases e; rfl))
theorem mrgetR_a {μ : Mem} {r a o r' a' o' : Nat} {f : Nat → Int32} (h : a' ≠ a) : mrow μ r a o f r' a' o' = μ r' a' o' := mrow_ne (k := (r', a', o')) (fun e => h (by cases e; rfl))
section BL0
variable {C : Nat → List AV → Mem → Res → Prop} {y pc n : Nat} {res : Res} {L : Lc} {S : List AV} {μ : Mem}
theorem ev_getI2 {x r a o c j q : Nat} {b : Bool} {v : Int32} (h : decode (mB y) pc = .ok (.getfield x, 3)) (hf : fT (mO y) x = some (c, j, b, q)) (hk : fk c j = none) (hv : μ r a o j = v) : EvE C y pc L (.inr (r, a, o) :: S) μ res ↔ kc a = c ∧ EvE C y (pc + 3) L (.inl v :: S) μ res := by
  subst hv
  exact ev_getI h hf hk
theorem ev_iald2 {r a o : Nat} {i v : Int32} (h : decode (mB y) pc = .ok (.iaload, 1)) (hk : kc a = 10) (hv : μ r a o i.toNatClampNeg = v) : EvE C y pc L (.inl i :: .inr (r, a, o) :: S) μ res ↔ vp_in i (al a) ∧ EvE C y (pc + 1) L (.inl v :: S) μ res := by
  subst hv
  exact ev_iald h hk
theorem ev_acpy2 {x q r a o r' a' o' : Nat} {sp dp k : Int32} {f g : Nat → Int32} (h : decode (mB y) pc = .ok (.invokestatic x, 3)) (hc : cT (mO y) x = some (900, q)) (hk : kc a = 10) (hk' : kc a' = 10) (hl : S.length ≤ 8) (hf : μ r a o = f) (hg : μ r' a' o' = g) : EvE C y pc L (.inl k :: .inl dp :: .inr (r', a', o') :: .inl sp :: .inr (r, a, o) :: S) μ res ↔ (¬ sp < 0 ∧ ¬ dp < 0 ∧ ¬ k < 0 ∧ sp.toNatClampNeg + k.toNatClampNeg ≤ al a ∧ dp.toNatClampNeg + k.toNatClampNeg ≤ al a') ∧ EvE C y (pc + 3) L S (mrow μ r' a' o' (va_cpy f g sp.toNatClampNeg dp.toNatClampNeg k.toNatClampNeg)) res := by
  subst hf; subst hg
  exact ev_acpy h hc hk hk' hl
theorem ev_tab {df hi : Int} {offs : Array Int} {k : Nat} {x : Int32} {ts : List Nat} {td : Nat} (h : decode (mB y) pc = .ok (.tableswitch df 0 hi offs, k)) (hts : offs.toList.map (fun d => (pc : Int) + d) = ts.map Int.ofNat) (hh : hi + 1 = (ts.length : Int)) (hl : ts.length < 1000) (htd : (pc : Int) + df = td) : EvE C y pc L (.inl x :: S) μ res ↔ (∀ k t : Nat, ts[k]? = some t → x = nI k → EvE C y t L S μ res) ∧ ((∀ k : Nat, k < ts.length → ¬ x = nI k) → EvE C y td L S μ res) := by
  have hi2 : ∀ k : Nat, k < ts.length → (nI k).toInt = k := fun k hk => nI_toInt (by omega)
  have hof : ∀ k t : Nat, ts[k]? = some t → ∃ d : Int, offs[k]? = some d ∧ (pc : Int) + d = t := by
    intro k t ht
    have h1 : (offs.toList.map (fun d => (pc : Int) + d))[k]? = some (Int.ofNat t) := by rw [hts, List.getElem?_map, ht]; rfl
    rw [List.getElem?_map] at h1
    obtain ⟨d, h2, h3⟩ := Option.map_eq_some_iff.mp h1
    exact ⟨d, by rw [← Array.getElem?_toList]; exact h2, h3⟩
  refine (ev_of h).trans ⟨?_, ?_⟩
  · rintro ⟨n, hn⟩
    obtain ⟨h1, h2⟩ := popI_iff.mp hn
    constructor
    · intro k t ht hx
      have hk : k < ts.length := (List.getElem?_eq_some_iff.mp ht).1
      have hxi : x.toInt = k := by rw [hx]; exact hi2 k hk
      obtain ⟨d, t', h3, h4, h5⟩ := h1 ⟨by omega, by omega⟩
      obtain ⟨d', h6, h7⟩ := hof k t ht
      have : (x.toInt - 0).toNat = k := by omega
      rw [this, h6] at h3
      cases h3
      have : t' = t := by omega
      subst this
      exact ⟨n, h5⟩
    · intro hno
      by_cases hr : x.toInt < 0 ∨ hi < x.toInt
      · obtain ⟨t, h3, h4⟩ := h2 hr
        have : t = td := by omega
        subst this
        exact ⟨n, h4⟩
      · have hk : x.toInt.toNat < ts.length := by omega
        refine absurd ?_ (hno x.toInt.toNat hk)
        apply Int32.toInt_inj.mp
        rw [hi2 _ hk]
        omega
  · rintro ⟨h1, h2⟩
    by_cases hr : x.toInt < 0 ∨ hi < x.toInt
    · obtain ⟨n, hn⟩ := h2 (fun k hk e => by
        have := hi2 k hk
        rw [← e] at this
        omega)
      exact ⟨n, popI_iff.mpr ⟨fun hh => absurd hr (by omega), fun _ => ⟨td, htd, hn⟩⟩⟩
    · have hk : x.toInt.toNat < ts.length := by omega
      obtain ⟨t, ht⟩ : ∃ t, ts[x.toInt.toNat]? = some t := ⟨_, List.getElem?_eq_getElem hk⟩
      obtain ⟨d, h6, h7⟩ := hof _ t ht
      obtain ⟨n, hn⟩ := h1 _ t ht (by
        apply Int32.toInt_inj.mp
        rw [hi2 _ hk]
        omega)
      exact ⟨n, popI_iff.mpr ⟨fun _ => ⟨d, t, by rw [show (x.toInt - 0).toNat = x.toInt.toNat by omega]; exact h6, h7, hn⟩, fun hh => absurd hh hr⟩⟩
theorem ev_look {df a d b e : Int} {k ta tb td : Nat} {x xa xb : Int32} (h : decode (mB y) pc = .ok (.lookupswitch df #[(a, d), (b, e)], k)) (hab : a < b ∧ xa.toInt = a ∧ xb.toInt = b) (ha : (pc : Int) + d = ta) (hb : (pc : Int) + e = tb) (hd : (pc : Int) + df = td) : EvE C y pc L (.inl x :: S) μ res ↔ (x = xa → EvE C y ta L S μ res) ∧ (x = xb → EvE C y tb L S μ res) ∧ (¬ x = xa → ¬ x = xb → EvE C y td L S μ res) := by
  obtain ⟨h1, h2, h3⟩ := hab
  have hoff : ∀ z : Int, Op.lookupswitch.offset [(a, d), (b, e)] df z = if z = a then d else if z = b then e else df := by
    intro z
    simp only [Op.lookupswitch.offset]
    by_cases q1 : z = a
    · simp [q1]
    · have q1' : ¬ a = z := fun q => q1 q.symm
      by_cases q2 : z = b
      · subst q2
        simp [q1, q1']
      · have q2' : ¬ b = z := fun q => q2 q.symm
        simp [q1, q2, q1', q2']
  have hall : (([(a, d), (b, e)] : List (Int × Int)).zip (([(a, d), (b, e)] : List (Int × Int)).drop 1)).all (fun (a, next) => a.1 < next.1) = true := by simp [h1]
  have hxa : x = xa ↔ x.toInt = a := by rw [← h2]; exact Int32.toInt_inj.symm
  have hxb : x = xb ↔ x.toInt = b := by rw [← h3]; exact Int32.toInt_inj.symm
  refine (ev_of h).trans ⟨?_, ?_⟩
  · rintro ⟨n, hn⟩
    obtain ⟨-, t, ht, h4⟩ := popI_iff.mp hn
    rw [hoff] at ht
    refine ⟨fun hx => ?_, fun hx => ?_, fun g1 g2 => ?_⟩
    · rw [if_pos (hxa.mp hx)] at ht
      have : t = ta := by omega
      subst this; exact ⟨n, h4⟩
    · have hx2 := hxb.mp hx
      rw [if_neg (by omega), if_pos hx2] at ht
      have : t = tb := by omega
      subst this; exact ⟨n, h4⟩
    · rw [if_neg (fun q => g1 (hxa.mpr q)), if_neg (fun q => g2 (hxb.mpr q))] at ht
      have : t = td := by omega
      subst this; exact ⟨n, h4⟩
  · rintro ⟨g1, g2, g3⟩
    by_cases q1 : x = xa
    · obtain ⟨n, hn⟩ := g1 q1
      exact ⟨n, popI_iff.mpr ⟨hall, ta, by rw [hoff, if_pos (hxa.mp q1)]; exact ha, hn⟩⟩
    · by_cases q2 : x = xb
      · obtain ⟨n, hn⟩ := g2 q2
        exact ⟨n, popI_iff.mpr ⟨hall, tb, by rw [hoff, if_neg (fun q => q1 (hxa.mpr q)), if_pos (hxb.mp q2)]; exact hb, hn⟩⟩
      · obtain ⟨n, hn⟩ := g3 q1 q2
        exact ⟨n, popI_iff.mpr ⟨hall, td, by rw [hoff, if_neg (fun q => q1 (hxa.mpr q)), if_neg (fun q => q2 (hxb.mpr q))]; exact hd, hn⟩⟩
end BL0

theorem f_0_14 : fT 0 14 = some (0, 0, false, 182) := by decide
theorem f_0_20 : fT 0 20 = some (0, 1, false, 185) := by decide
theorem f_0_24 : fT 0 24 = some (0, 2, false, 188) := by decide
theorem f_0_27 : fT 0 27 = some (0, 3, false, 191) := by decide
theorem f_0_30 : fT 0 30 = some (0, 4, false, 194) := by decide
theorem f_0_33 : fT 0 33 = some (0, 5, false, 197) := by decide
theorem f_0_37 : fT 0 37 = some (0, 6, false, 200) := by decide
theorem f_0_40 : fT 0 40 = some (0, 7, false, 203) := by decide
theorem f_0_43 : fT 0 43 = some (0, 8, false, 206) := by decide
theorem f_0_46 : fT 0 46 = some (0, 9, false, 209) := by decide
theorem f_0_49 : fT 0 49 = some (0, 10, false, 212) := by decide
theorem f_1_11 : fT 1 11 = some (1, 0, false, 333) := by decide
theorem f_1_17 : fT 1 17 = some (1, 1, false, 335) := by decide
theorem f_1_21 : fT 1 21 = some (1, 2, false, 337) := by decide
theorem f_1_24 : fT 1 24 = some (1, 3, false, 339) := by decide
theorem f_1_28 : fT 1 28 = some (1, 4, false, 341) := by decide
theorem f_1_34 : fT 1 34 = some (1, 5, false, 343) := by decide
theorem f_1_41 : fT 1 41 = some (1, 6, false, 345) := by decide
theorem f_1_48 : fT 1 48 = some (1, 7, false, 347) := by decide
theorem f_1_55 : fT 1 55 = some (1, 8, false, 349) := by decide
theorem f_1_59 : fT 1 59 = some (1, 9, false, 351) := by decide
theorem f_1_63 : fT 1 63 = some (1, 10, false, 352) := by decide
theorem f_1_66 : fT 1 66 = some (1, 11, false, 353) := by decide
theorem f_1_69 : fT 1 69 = some (1, 12, false, 354) := by decide
theorem f_1_73 : fT 1 73 = some (5, 0, true, 295) := by decide
theorem f_1_94 : fT 1 94 = some (6, 3, true, 249) := by decide
theorem f_1_97 : fT 1 97 = some (6, 1, true, 246) := by decide
theorem f_1_116 : fT 1 116 = some (4, 0, true, 267) := by decide
theorem f_1_117 : fT 1 117 = some (4, 1, true, 270) := by decide
theorem f_1_120 : fT 1 120 = some (2, 0, true, 128) := by decide
theorem f_1_124 : fT 1 124 = some (3, 2, true, 106) := by decide
theorem f_1_129 : fT 1 129 = some (2, 7, true, 146) := by decide
theorem f_1_132 : fT 1 132 = some (3, 1, true, 103) := by decide
theorem f_1_139 : fT 1 139 = some (2, 2, true, 133) := by decide
theorem f_1_152 : fT 1 152 = some (2, 8, true, 149) := by decide
theorem f_1_155 : fT 1 155 = some (2, 6, true, 144) := by decide
theorem f_1_165 : fT 1 165 = some (0, 0, true, 183) := by decide
theorem f_1_166 : fT 1 166 = some (0, 3, true, 192) := by decide
theorem f_1_169 : fT 1 169 = some (0, 2, true, 189) := by decide
theorem f_1_172 : fT 1 172 = some (0, 4, true, 195) := by decide
theorem f_1_173 : fT 1 173 = some (0, 6, true, 202) := by decide
theorem f_1_176 : fT 1 176 = some (0, 10, true, 213) := by decide
theorem f_1_182 : fT 1 182 = some (0, 9, true, 210) := by decide
theorem f_1_188 : fT 1 188 = some (5, 4, true, 306) := by decide
theorem f_1_202 : fT 1 202 = some (0, 7, true, 204) := by decide
theorem f_1_208 : fT 1 208 = some (0, 5, true, 199) := by decide
theorem f_1_211 : fT 1 211 = some (0, 1, true, 186) := by decide
theorem f_1_224 : fT 1 224 = some (2, 3, true, 136) := by decide
theorem f_1_229 : fT 1 229 = some (5, 1, true, 299) := by decide
theorem f_1_248 : fT 1 248 = some (2, 5, true, 141) := by decide
theorem f_1_254 : fT 1 254 = some (5, 5, true, 309) := by decide
theorem f_1_257 : fT 1 257 = some (5, 2, true, 302) := by decide
theorem f_1_263 : fT 1 263 = some (5, 7, true, 315) := by decide
theorem f_1_266 : fT 1 266 = some (0, 8, true, 208) := by decide
theorem f_1_269 : fT 1 269 = some (5, 6, true, 312) := by decide
theorem f_2_14 : fT 2 14 = some (2, 0, false, 127) := by decide
theorem f_2_20 : fT 2 20 = some (2, 1, false, 130) := by decide
theorem f_2_24 : fT 2 24 = some (2, 2, false, 132) := by decide
theorem f_2_27 : fT 2 27 = some (2, 3, false, 135) := by decide
theorem f_2_30 : fT 2 30 = some (2, 4, false, 138) := by decide
theorem f_2_33 : fT 2 33 = some (2, 5, false, 140) := by decide
theorem f_2_36 : fT 2 36 = some (2, 6, false, 143) := by decide
theorem f_2_39 : fT 2 39 = some (2, 7, false, 145) := by decide
theorem f_2_42 : fT 2 42 = some (2, 8, false, 148) := by decide
theorem f_2_45 : fT 2 45 = some (2, 9, false, 151) := by decide
theorem f_2_56 : fT 2 56 = some (3, 2, true, 107) := by decide
theorem f_2_59 : fT 2 59 = some (3, 5, true, 111) := by decide
theorem f_2_62 : fT 2 62 = some (3, 1, true, 104) := by decide
theorem f_3_9 : fT 3 9 = some (3, 2, false, 105) := by decide
theorem f_3_15 : fT 3 15 = some (3, 3, false, 108) := by decide
theorem f_3_18 : fT 3 18 = some (3, 4, false, 109) := by decide
theorem f_3_21 : fT 3 21 = some (3, 5, false, 110) := by decide
theorem f_3_30 : fT 3 30 = some (3, 0, false, 101) := by decide
theorem f_3_34 : fT 3 34 = some (3, 1, false, 102) := by decide
theorem f_4_9 : fT 4 9 = some (4, 0, false, 266) := by decide
theorem f_4_15 : fT 4 15 = some (4, 1, false, 269) := by decide
theorem f_4_18 : fT 4 18 = some (4, 2, false, 272) := by decide
theorem f_5_9 : fT 5 9 = some (5, 0, false, 294) := by decide
theorem f_5_15 : fT 5 15 = some (5, 1, false, 297) := by decide
theorem f_5_18 : fT 5 18 = some (5, 2, false, 300) := by decide
theorem f_5_21 : fT 5 21 = some (5, 3, false, 303) := by decide
theorem f_5_24 : fT 5 24 = some (5, 4, false, 305) := by decide
theorem f_5_28 : fT 5 28 = some (5, 5, false, 308) := by decide
theorem f_5_31 : fT 5 31 = some (5, 6, false, 310) := by decide
theorem f_5_34 : fT 5 34 = some (5, 7, false, 313) := by decide
theorem f_6_9 : fT 6 9 = some (6, 0, false, 244) := by decide
theorem f_6_15 : fT 6 15 = some (6, 1, false, 245) := by decide
theorem f_6_18 : fT 6 18 = some (6, 2, false, 247) := by decide
theorem f_6_21 : fT 6 21 = some (6, 3, false, 248) := by decide
theorem f_7_10 : fT 7 10 = some (7, 0, false, 382) := by decide
theorem f_7_16 : fT 7 16 = some (7, 1, false, 383) := by decide
theorem f_7_19 : fT 7 19 = some (7, 2, false, 384) := by decide
theorem f_7_27 : fT 7 27 = some (1, 1, true, 336) := by decide
theorem f_7_30 : fT 7 30 = some (1, 2, true, 338) := by decide
theorem f_7_45 : fT 7 45 = some (1, 0, true, 334) := by decide
theorem f_7_49 : fT 7 49 = some (5, 0, true, 296) := by decide
theorem f_7_55 : fT 7 55 = some (1, 6, true, 346) := by decide
theorem f_7_59 : fT 7 59 = some (0, 5, true, 198) := by decide
theorem f_7_64 : fT 7 64 = some (0, 6, true, 201) := by decide
theorem f_7_71 : fT 7 71 = some (1, 7, true, 348) := by decide
theorem f_7_75 : fT 7 75 = some (6, 3, true, 250) := by decide
theorem f_7_84 : fT 7 84 = some (1, 8, true, 350) := by decide
theorem f_7_94 : fT 7 94 = some (4, 2, true, 273) := by decide
theorem f_7_97 : fT 7 97 = some (4, 0, true, 268) := by decide
theorem f_7_100 : fT 7 100 = some (4, 1, true, 271) := by decide
theorem f_7_106 : fT 7 106 = some (5, 1, true, 298) := by decide
theorem f_7_112 : fT 7 112 = some (5, 6, true, 311) := by decide
theorem f_7_115 : fT 7 115 = some (5, 7, true, 314) := by decide
theorem f_7_118 : fT 7 118 = some (1, 5, true, 344) := by decide
theorem f_7_131 : fT 7 131 = some (5, 2, true, 301) := by decide
theorem f_7_134 : fT 7 134 = some (2, 0, true, 129) := by decide
theorem f_7_144 : fT 7 144 = some (2, 1, true, 131) := by decide
theorem f_7_147 : fT 7 147 = some (2, 2, true, 134) := by decide
theorem f_7_150 : fT 7 150 = some (2, 3, true, 137) := by decide
theorem f_7_153 : fT 7 153 = some (2, 4, true, 139) := by decide
theorem f_7_159 : fT 7 159 = some (2, 7, true, 147) := by decide
theorem f_7_162 : fT 7 162 = some (2, 8, true, 150) := by decide
theorem f_7_165 : fT 7 165 = some (5, 4, true, 307) := by decide
theorem f_7_168 : fT 7 168 = some (5, 3, true, 304) := by decide
theorem f_7_171 : fT 7 171 = some (0, 0, true, 184) := by decide
theorem f_7_172 : fT 7 172 = some (0, 1, true, 187) := by decide
theorem f_7_173 : fT 7 173 = some (0, 2, true, 190) := by decide
theorem f_7_176 : fT 7 176 = some (0, 3, true, 193) := by decide
theorem f_7_179 : fT 7 179 = some (0, 4, true, 196) := by decide
theorem f_7_180 : fT 7 180 = some (3, 5, true, 112) := by decide
theorem f_7_181 : fT 7 181 = some (0, 7, true, 205) := by decide
theorem f_7_184 : fT 7 184 = some (0, 8, true, 207) := by decide
theorem f_7_187 : fT 7 187 = some (0, 9, true, 211) := by decide
theorem f_7_190 : fT 7 190 = some (0, 10, true, 214) := by decide
theorem f_7_193 : fT 7 193 = some (1, 4, true, 342) := by decide
theorem f_7_196 : fT 7 196 = some (2, 9, true, 152) := by decide
theorem f_7_197 : fT 7 197 = some (1, 3, true, 340) := by decide
theorem f_7_220 : fT 7 220 = some (2, 5, true, 142) := by decide
theorem f_8_9 : fT 8 9 = some (8, 1, false, 715) := by decide
theorem f_8_15 : fT 8 15 = some (8, 2, false, 717) := by decide
theorem f_8_18 : fT 8 18 = some (8, 3, false, 719) := by decide
theorem f_8_21 : fT 8 21 = some (8, 4, false, 721) := by decide
theorem f_8_24 : fT 8 24 = some (8, 5, false, 723) := by decide
theorem f_8_27 : fT 8 27 = some (8, 6, false, 725) := by decide
theorem f_8_30 : fT 8 30 = some (8, 7, false, 727) := by decide
theorem f_8_33 : fT 8 33 = some (8, 8, false, 729) := by decide
theorem f_8_36 : fT 8 36 = some (8, 9, false, 731) := by decide
theorem f_8_39 : fT 8 39 = some (8, 10, false, 733) := by decide
theorem f_8_42 : fT 8 42 = some (8, 11, false, 735) := by decide
theorem f_8_45 : fT 8 45 = some (8, 12, false, 737) := by decide
theorem f_8_48 : fT 8 48 = some (8, 13, false, 739) := by decide
theorem f_8_51 : fT 8 51 = some (8, 14, false, 741) := by decide
theorem f_8_54 : fT 8 54 = some (8, 17, false, 747) := by decide
theorem f_8_57 : fT 8 57 = some (8, 18, false, 749) := by decide
theorem f_8_60 : fT 8 60 = some (8, 19, false, 751) := by decide
theorem f_8_63 : fT 8 63 = some (8, 20, false, 753) := by decide
theorem f_8_66 : fT 8 66 = some (8, 21, false, 755) := by decide
theorem f_8_69 : fT 8 69 = some (8, 0, false, 713) := by decide
theorem f_8_73 : fT 8 73 = some (8, 15, false, 743) := by decide
theorem f_8_76 : fT 8 76 = some (8, 16, false, 745) := by decide
theorem f_8_79 : fT 8 79 = some (8, 22, false, 757) := by decide
theorem f_8_82 : fT 8 82 = some (8, 23, false, 759) := by decide
theorem f_8_85 : fT 8 85 = some (8, 24, false, 761) := by decide
theorem f_8_88 : fT 8 88 = some (8, 25, false, 763) := by decide
theorem f_8_91 : fT 8 91 = some (8, 26, false, 765) := by decide
theorem f_8_94 : fT 8 94 = some (8, 27, false, 767) := by decide
theorem f_8_97 : fT 8 97 = some (8, 28, false, 770) := by decide
theorem f_9_9 : fT 9 9 = some (9, 0, false, 830) := by decide
theorem f_9_13 : fT 9 13 = some (9, 1, false, 831) := by decide
theorem f_9_16 : fT 9 16 = some (9, 3, false, 833) := by decide
theorem f_9_20 : fT 9 20 = some (9, 5, false, 835) := by decide
theorem f_9_23 : fT 9 23 = some (9, 6, false, 836) := by decide
theorem f_9_26 : fT 9 26 = some (9, 7, false, 837) := by decide
theorem f_9_29 : fT 9 29 = some (9, 10, false, 840) := by decide
theorem f_9_32 : fT 9 32 = some (9, 11, false, 841) := by decide
theorem f_9_38 : fT 9 38 = some (9, 12, false, 842) := by decide
theorem f_9_42 : fT 9 42 = some (9, 13, false, 843) := by decide
theorem f_9_45 : fT 9 45 = some (9, 18, false, 848) := by decide
theorem f_9_48 : fT 9 48 = some (9, 20, false, 850) := by decide
theorem f_9_51 : fT 9 51 = some (8, 28, true, 769) := by decide
theorem f_9_55 : fT 9 55 = some (8, 4, true, 722) := by decide
theorem f_9_58 : fT 9 58 = some (8, 1, true, 716) := by decide
theorem f_9_61 : fT 9 61 = some (9, 2, false, 832) := by decide
theorem f_9_68 : fT 9 68 = some (8, 0, true, 714) := by decide
theorem f_9_83 : fT 9 83 = some (9, 4, false, 834) := by decide
theorem f_9_90 : fT 9 90 = some (9, 8, false, 838) := by decide
theorem f_9_93 : fT 9 93 = some (9, 9, false, 839) := by decide
theorem f_9_96 : fT 9 96 = some (8, 15, true, 744) := by decide
theorem f_9_99 : fT 9 99 = some (8, 7, true, 728) := by decide
theorem f_9_102 : fT 9 102 = some (8, 22, true, 758) := by decide
theorem f_9_105 : fT 9 105 = some (8, 18, true, 750) := by decide
theorem f_9_108 : fT 9 108 = some (8, 3, true, 720) := by decide
theorem f_9_111 : fT 9 111 = some (8, 8, true, 730) := by decide
theorem f_9_114 : fT 9 114 = some (8, 10, true, 734) := by decide
theorem f_9_121 : fT 9 121 = some (8, 9, true, 732) := by decide
theorem f_9_124 : fT 9 124 = some (8, 11, true, 736) := by decide
theorem f_9_127 : fT 9 127 = some (8, 12, true, 738) := by decide
theorem f_9_130 : fT 9 130 = some (8, 13, true, 740) := by decide
theorem f_9_133 : fT 9 133 = some (8, 14, true, 742) := by decide
theorem f_9_140 : fT 9 140 = some (8, 6, true, 726) := by decide
theorem f_9_143 : fT 9 143 = some (8, 5, true, 724) := by decide
theorem f_9_149 : fT 9 149 = some (8, 16, true, 746) := by decide
theorem f_9_179 : fT 9 179 = some (8, 24, true, 762) := by decide
theorem f_9_185 : fT 9 185 = some (8, 19, true, 752) := by decide
theorem f_9_188 : fT 9 188 = some (8, 17, true, 748) := by decide
theorem f_9_191 : fT 9 191 = some (8, 20, true, 754) := by decide
theorem f_9_194 : fT 9 194 = some (8, 21, true, 756) := by decide
theorem f_9_197 : fT 9 197 = some (8, 27, true, 768) := by decide
theorem f_9_200 : fT 9 200 = some (8, 2, true, 718) := by decide
theorem f_9_216 : fT 9 216 = some (8, 23, true, 760) := by decide
theorem f_9_219 : fT 9 219 = some (8, 25, true, 764) := by decide
theorem f_9_225 : fT 9 225 = some (9, 19, false, 849) := by decide
theorem f_9_237 : fT 9 237 = some (8, 26, true, 766) := by decide
theorem f_9_240 : fT 9 240 = some (9, 14, false, 844) := by decide
theorem f_9_243 : fT 9 243 = some (9, 16, false, 846) := by decide
theorem f_9_246 : fT 9 246 = some (9, 15, false, 845) := by decide
theorem f_9_280 : fT 9 280 = some (9, 21, false, 851) := by decide
theorem f_9_287 : fT 9 287 = some (9, 17, false, 847) := by decide
theorem c_0_52 : cT 0 52 = some (30, 584) := by decide
theorem c_0_56 : cT 0 56 = some (33, 674) := by decide
theorem c_0_60 : cT 0 60 = some (900, 675) := by decide
theorem c_1_76 : cT 1 76 = some (4, 455) := by decide
theorem c_1_79 : cT 1 79 = some (5, 459) := by decide
theorem c_1_82 : cT 1 82 = some (6, 548) := by decide
theorem c_1_85 : cT 1 85 = some (7, 552) := by decide
theorem c_1_88 : cT 1 88 = some (8, 560) := by decide
theorem c_1_91 : cT 1 91 = some (9, 568) := by decide
theorem c_1_100 : cT 1 100 = some (44, 572) := by decide
theorem c_1_104 : cT 1 104 = some (10, 576) := by decide
theorem c_1_108 : cT 1 108 = some (45, 585) := by decide
theorem c_1_112 : cT 1 112 = some (35, 589) := by decide
theorem c_1_135 : cT 1 135 = some (27, 463) := by decide
theorem c_1_142 : cT 1 142 = some (12, 467) := by decide
theorem c_1_145 : cT 1 145 = some (18, 475) := by decide
theorem c_1_149 : cT 1 149 = some (20, 535) := by decide
theorem c_1_158 : cT 1 158 = some (17, 556) := by decide
theorem c_1_161 : cT 1 161 = some (22, 544) := by decide
theorem c_1_179 : cT 1 179 = some (11, 564) := by decide
theorem c_1_185 : cT 1 185 = some (31, 543) := by decide
theorem c_1_191 : cT 1 191 = some (39, 503) := by decide
theorem c_1_195 : cT 1 195 = some (41, 531) := by decide
theorem c_1_199 : cT 1 199 = some (16, 523) := by decide
theorem c_1_205 : cT 1 205 = some (0, 580) := by decide
theorem c_1_214 : cT 1 214 = some (13, 495) := by decide
theorem c_1_218 : cT 1 218 = some (38, 471) := by decide
theorem c_1_221 : cT 1 221 = some (26, 491) := by decide
theorem c_1_225 : cT 1 225 = some (37, 499) := by decide
theorem c_1_232 : cT 1 232 = some (19, 487) := by decide
theorem c_1_235 : cT 1 235 = some (24, 507) := by decide
theorem c_1_238 : cT 1 238 = some (15, 515) := by decide
theorem c_1_242 : cT 1 242 = some (14, 519) := by decide
theorem c_1_245 : cT 1 245 = some (40, 527) := by decide
theorem c_1_251 : cT 1 251 = some (25, 479) := by decide
theorem c_1_260 : cT 1 260 = some (21, 539) := by decide
theorem c_1_272 : cT 1 272 = some (42, 653) := by decide
theorem c_1_276 : cT 1 276 = some (29, 657) := by decide
theorem c_1_279 : cT 1 279 = some (1, 670) := by decide
theorem c_1_282 : cT 1 282 = some (36, 676) := by decide
theorem c_2_49 : cT 2 49 = some (30, 511) := by decide
theorem c_2_53 : cT 2 53 = some (31, 483) := by decide
theorem c_2_65 : cT 2 65 = some (33, 661) := by decide
theorem c_2_69 : cT 2 69 = some (900, 669) := by decide
theorem c_3_24 : cT 3 24 = some (128, 98) := by decide
theorem c_3_37 : cT 3 37 = some (129, 665) := by decide
theorem c_3_40 : cT 3 40 = some (900, 668) := by decide
theorem c_4_22 : cT 4 22 = some (130, 442) := by decide
theorem c_4_28 : cT 4 28 = some (127, 593) := by decide
theorem c_4_34 : cT 4 34 = some (900, 680) := by decide
theorem c_5_40 : cT 5 40 = some (900, 288) := by decide
theorem c_5_46 : cT 5 46 = some (130, 291) := by decide
theorem c_7_23 : cT 7 23 = some (71, 396) := by decide
theorem c_7_33 : cT 7 33 = some (2, 406) := by decide
theorem c_7_37 : cT 7 37 = some (68, 414) := by decide
theorem c_7_41 : cT 7 41 = some (72, 399) := by decide
theorem c_7_68 : cT 7 68 = some (69, 427) := by decide
theorem c_7_80 : cT 7 80 = some (43, 430) := by decide
theorem c_7_88 : cT 7 88 = some (34, 438) := by decide
theorem c_7_103 : cT 7 103 = some (3, 451) := by decide
theorem c_7_109 : cT 7 109 = some (38, 600) := by decide
theorem c_7_122 : cT 7 122 = some (28, 601) := by decide
theorem c_7_128 : cT 7 128 = some (37, 613) := by decide
theorem c_7_138 : cT 7 138 = some (32, 618) := by decide
theorem c_7_156 : cT 7 156 = some (67, 622) := by decide
theorem c_7_201 : cT 7 201 = some (70, 642) := by decide
theorem c_7_204 : cT 7 204 = some (64, 645) := by decide
theorem c_7_208 : cT 7 208 = some (65, 681) := by decide
theorem c_7_212 : cT 7 212 = some (66, 693) := by decide
theorem c_7_216 : cT 7 216 = some (23, 649) := by decide
theorem c_9_64 : cT 9 64 = some (74, 901) := by decide
theorem c_9_71 : cT 9 71 = some (75, 908) := by decide
theorem c_9_75 : cT 9 75 = some (79, 912) := by decide
theorem c_9_79 : cT 9 79 = some (77, 915) := by decide
theorem c_9_87 : cT 9 87 = some (76, 928) := by decide
theorem c_9_117 : cT 9 117 = some (85, 959) := by decide
theorem c_9_136 : cT 9 136 = some (87, 975) := by decide
theorem c_9_146 : cT 9 146 = some (88, 1011) := by decide
theorem c_9_152 : cT 9 152 = some (90, 1015) := by decide
theorem c_9_156 : cT 9 156 = some (91, 1019) := by decide
theorem c_9_159 : cT 9 159 = some (93, 1023) := by decide
theorem c_9_162 : cT 9 162 = some (89, 979) := by decide
theorem c_9_165 : cT 9 165 = some (94, 983) := by decide
theorem c_9_169 : cT 9 169 = some (98, 987) := by decide
theorem c_9_173 : cT 9 173 = some (86, 995) := by decide
theorem c_9_176 : cT 9 176 = some (95, 999) := by decide
theorem c_9_182 : cT 9 182 = some (96, 1003) := by decide
theorem c_9_203 : cT 9 203 = some (97, 971) := by decide
theorem c_9_206 : cT 9 206 = some (99, 991) := by decide
theorem c_9_209 : cT 9 209 = some (100, 967) := by decide
theorem c_9_212 : cT 9 212 = some (92, 1007) := by decide
theorem c_9_222 : cT 9 222 = some (102, 1039) := by decide
theorem c_9_228 : cT 9 228 = some (104, 951) := by decide
theorem c_9_231 : cT 9 231 = some (105, 955) := by decide
theorem c_9_234 : cT 9 234 = some (101, 963) := by decide
theorem c_9_249 : cT 9 249 = some (103, 1051) := by decide
theorem c_9_252 : cT 9 252 = some (106, 947) := by decide
theorem c_9_255 : cT 9 255 = some (107, 1027) := by decide
theorem c_9_258 : cT 9 258 = some (108, 1031) := by decide
theorem c_9_261 : cT 9 261 = some (109, 1035) := by decide
theorem c_9_264 : cT 9 264 = some (110, 1043) := by decide
theorem c_9_267 : cT 9 267 = some (111, 1047) := by decide
theorem c_9_270 : cT 9 270 = some (112, 943) := by decide
theorem c_9_273 : cT 9 273 = some (117, 1071) := by decide
theorem c_9_276 : cT 9 276 = some (73, 1095) := by decide
theorem c_9_283 : cT 9 283 = some (122, 1091) := by decide
theorem c_12_13 : cT 12 13 = some (46, 392) := by decide
theorem c_12_17 : cT 12 17 = some (78, 897) := by decide
theorem c_12_18 : cT 12 18 = some (47, 410) := by decide
theorem c_12_21 : cT 12 21 = some (80, 904) := by decide
theorem c_12_22 : cT 12 22 = some (48, 418) := by decide
theorem c_12_26 : cT 12 26 = some (81, 919) := by decide
theorem c_12_27 : cT 12 27 = some (49, 422) := by decide
theorem c_12_30 : cT 12 30 = some (82, 923) := by decide
theorem c_12_31 : cT 12 31 = some (50, 434) := by decide
theorem c_12_35 : cT 12 35 = some (83, 931) := by decide
theorem c_12_36 : cT 12 36 = some (51, 443) := by decide
theorem c_12_39 : cT 12 39 = some (84, 935) := by decide
theorem c_12_40 : cT 12 40 = some (52, 447) := by decide
theorem c_12_43 : cT 12 43 = some (113, 939) := by decide
theorem c_12_44 : cT 12 44 = some (53, 596) := by decide
theorem c_12_47 : cT 12 47 = some (114, 1055) := by decide
theorem c_12_48 : cT 12 48 = some (54, 605) := by decide
theorem c_12_51 : cT 12 51 = some (115, 1059) := by decide
theorem c_12_52 : cT 12 52 = some (55, 609) := by decide
theorem c_12_55 : cT 12 55 = some (116, 1063) := by decide
theorem c_12_56 : cT 12 56 = some (56, 614) := by decide
theorem c_12_59 : cT 12 59 = some (118, 1067) := by decide
theorem c_12_60 : cT 12 60 = some (57, 626) := by decide
theorem c_12_63 : cT 12 63 = some (119, 1075) := by decide
theorem c_12_64 : cT 12 64 = some (58, 630) := by decide
theorem c_12_67 : cT 12 67 = some (120, 1079) := by decide
theorem c_12_68 : cT 12 68 = some (59, 634) := by decide
theorem c_12_71 : cT 12 71 = some (121, 1083) := by decide
theorem c_12_72 : cT 12 72 = some (60, 638) := by decide
theorem c_12_75 : cT 12 75 = some (123, 1087) := by decide
theorem c_12_76 : cT 12 76 = some (61, 685) := by decide
theorem c_12_79 : cT 12 79 = some (124, 1099) := by decide
theorem c_12_80 : cT 12 80 = some (62, 689) := by decide
theorem c_12_84 : cT 12 84 = some (125, 1103) := by decide
theorem c_12_85 : cT 12 85 = some (63, 697) := by decide
theorem c_12_89 : cT 12 89 = some (126, 1107) := by decide
