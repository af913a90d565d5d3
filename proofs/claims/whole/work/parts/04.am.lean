/-! THE ABSTRACT MACHINE: one step, a run, a method at a depth -/
def mrow (μ : Mem) (r a o : Nat) (f : Nat → Int32) : Mem := va_up μ r (va_up (μ r) a (va_up (μ r a) o f))
def mset (μ : Mem) (r a o i : Nat) (v : Int32) : Mem := mrow μ r a o (va_up (μ r a o) i v)
def cmpI (c : ClassFile.Cond) (x y : Int32) : Prop := match c with
  | .eq => x = y
  | .ne => ¬ x = y
  | .lt => x < y
  | .ge => y ≤ x
  | .gt => y < x
  | .le => x ≤ y
def gfv (c j r a o : Nat) (μ : Mem) : AV := match fk c j with
  | none => .inl (μ r a o j)
  | some q => .inr (r + q.1, a + q.2, o)
abbrev Kont : Type := Nat → Lc → List AV → Mem → Prop
/-- ints and cells loaded and stored -/
def ldI (L : Lc) (k : Nat) (f : Int32 → Prop) : Prop := ∃ v, L[k]? = some (some (.inl v)) ∧ f v
def ldR (L : Lc) (k : Nat) (f : Nat × Nat × Nat → Prop) : Prop := ∃ q, L[k]? = some (some (.inr q)) ∧ f q
def popI (S : List AV) (f : Int32 → List AV → Prop) : Prop := ∃ v S', S = .inl v :: S' ∧ f v S'
def popR (S : List AV) (f : Nat → Nat → Nat → List AV → Prop) : Prop := ∃ r a o S', S = .inr (r, a, o) :: S' ∧ f r a o S'
def popN (n : Nat) (S : List AV) (f : List AV → List AV → Prop) : Prop := ∃ As S', As.length = n ∧ S = As.reverse ++ S' ∧ f As S'
def stp (C : Nat → List AV → Mem → Res → Prop) (y : Nat) (res : Res) (i : Instr) (n pc : Nat) (K : Kont) (L : Lc) (S : List AV) (μ : Mem) : Prop :=
  match i with
  | .iconst v => n = 1 ∧ K (pc + 1) L (.inl (Int32.ofInt v) :: S) μ
  | .bipush v => n = 2 ∧ K (pc + 2) L (.inl (Int8.ofInt v).toInt32 :: S) μ
  | .sipush v => n = 3 ∧ K (pc + 3) L (.inl (Int16.ofInt v).toInt32 :: S) μ
  | .ldc x => n = 2 ∧ ∃ v, lT (mO y) x = some v ∧ K (pc + 2) L (.inl v :: S) μ
  | .iload_n k => n = 1 ∧ ldI L k fun v => K (pc + 1) L (.inl v :: S) μ
  | .iload k => n = 2 ∧ ldI L k fun v => K (pc + 2) L (.inl v :: S) μ
  | .aload_n k => n = 1 ∧ ldR L k fun q => K (pc + 1) L (.inr q :: S) μ
  | .aload k => n = 2 ∧ ldR L k fun q => K (pc + 2) L (.inr q :: S) μ
  | .istore_n k => n = 1 ∧ popI S fun v S' => (k : Nat) < L.length ∧ K (pc + 1) (L.set k (some (.inl v))) S' μ
  | .istore k => n = 2 ∧ popI S fun v S' => k < L.length ∧ K (pc + 2) (L.set k (some (.inl v))) S' μ
  | .astore_n k => n = 1 ∧ popR S fun r a o S' => (k : Nat) < L.length ∧ K (pc + 1) (L.set k (some (.inr (r, a, o)))) S' μ
  | .astore k => n = 2 ∧ popR S fun r a o S' => k < L.length ∧ K (pc + 2) (L.set k (some (.inr (r, a, o)))) S' μ
  | .iinc k d => n = 3 ∧ ldI L k fun v => K (pc + 3) (L.set k (some (.inl (v + Int32.ofInt d)))) S μ
  | .iadd => n = 1 ∧ popI S fun b S1 => popI S1 fun a S2 => K (pc + 1) L (.inl (a + b) :: S2) μ
  | .isub => n = 1 ∧ popI S fun b S1 => popI S1 fun a S2 => K (pc + 1) L (.inl (a - b) :: S2) μ
  | .imul => n = 1 ∧ popI S fun b S1 => popI S1 fun a S2 => K (pc + 1) L (.inl (a * b) :: S2) μ
  | .iand => n = 1 ∧ popI S fun b S1 => popI S1 fun a S2 => K (pc + 1) L (.inl (a &&& b) :: S2) μ
  | .ixor => n = 1 ∧ popI S fun b S1 => popI S1 fun a S2 => K (pc + 1) L (.inl (a ^^^ b) :: S2) μ
  | .ishl => n = 1 ∧ popI S fun b S1 => popI S1 fun a S2 => K (pc + 1) L (.inl (a <<< (b &&& 31)) :: S2) μ
  | .irem => n = 1 ∧ popI S fun b S1 => popI S1 fun a S2 => ¬ b = 0 ∧ K (pc + 1) L (.inl (a - a / b * b) :: S2) μ
  | .dup => n = 1 ∧ ∃ v S', S = v :: S' ∧ K (pc + 1) L (v :: v :: S') μ
  | .dup2 => n = 1 ∧ ∃ v w S', S = v :: w :: S' ∧ K (pc + 1) L (v :: w :: v :: w :: S') μ
  | .pop => n = 1 ∧ ∃ v S', S = v :: S' ∧ K (pc + 1) L S' μ
  | .if_icmp c d => n = 3 ∧ popI S fun b S1 => popI S1 fun a S2 => ∃ t : Nat, (pc : Int) + d = t ∧ (cmpI c a b → K t L S2 μ) ∧ (¬ cmpI c a b → K (pc + 3) L S2 μ)
  | .ifCond c d => n = 3 ∧ popI S fun a S2 => ∃ t : Nat, (pc : Int) + d = t ∧ (cmpI c a 0 → K t L S2 μ) ∧ (¬ cmpI c a 0 → K (pc + 3) L S2 μ)
  | .goto d => n = 3 ∧ ∃ t : Nat, (pc : Int) + d = t ∧ K t L S μ
  | .tableswitch df lo hi offs => popI S fun x S1 => (¬ x.toInt < lo ∧ ¬ hi < x.toInt → ∃ (d : Int) (t : Nat), offs[(x.toInt - lo).toNat]? = some d ∧ (pc : Int) + d = t ∧ K t L S1 μ) ∧ (x.toInt < lo ∨ hi < x.toInt → ∃ t : Nat, (pc : Int) + df = t ∧ K t L S1 μ)
  | .lookupswitch df ps => popI S fun x S1 => (ps.toList.zip (ps.toList.drop 1)).all (fun (a, next) => a.1 < next.1) = true ∧ ∃ t : Nat, (pc : Int) + Op.lookupswitch.offset ps.toList df x.toInt = t ∧ K t L S1 μ
  | .getfield x => n = 3 ∧ popR S fun r a o S1 => ∃ c j b q, fT (mO y) x = some (c, j, b, q) ∧ kc a = c ∧ K (pc + 3) L (gfv c j r a o μ :: S1) μ
  | .putfield x => n = 3 ∧ popI S fun v S0 => popR S0 fun r a o S1 => ∃ c j b q, fT (mO y) x = some (c, j, b, q) ∧ kc a = c ∧ fk c j = none ∧ (bz c j = true → v = 0 ∨ v = 1) ∧ K (pc + 3) L S1 (mset μ r a o j v)
  | .iaload => n = 1 ∧ popI S fun i S0 => popR S0 fun r a o S1 => vp_in i (al a) ∧ (kc a = 10 → K (pc + 1) L (.inl (μ r a o i.toNatClampNeg) :: S1) μ) ∧ (¬ kc a = 10 → kc a = 12 ∧ K (pc + 1) L (.inl (imC a i.toNatClampNeg) :: S1) μ)
  | .iastore => n = 1 ∧ popI S fun v S00 => popI S00 fun i S0 => popR S0 fun r a o S1 => kc a = 10 ∧ vp_in i (al a) ∧ K (pc + 1) L S1 (mset μ r a o i.toNatClampNeg v)
  | .aaload => n = 1 ∧ popI S fun i S0 => popR S0 fun r a o S1 => kc a = 11 ∧ vp_in i 6 ∧ K (pc + 1) L (.inr (r, a + 1, i.toNatClampNeg) :: S1) μ
  | .arraylength => n = 1 ∧ popR S fun _ a _ S1 => kc a = 10 ∧ K (pc + 1) L (.inl (nI (al a)) :: S1) μ
  | .getstatic x => n = 3 ∧ ∃ a, gT (mO y) x = some a ∧ K (pc + 3) L (.inr (9, a, 0) :: S) μ
  | .invokevirtual x => n = 3 ∧ ∃ z q, cT (mO y) x = some (z, q) ∧ ¬ z = 900 ∧ mS z = false ∧ popN (mK z) S fun As S0 => popR S0 fun r a o S1 => kc a = mO z ∧ S1.length ≤ 8 ∧
      (mR z = none → ∃ μ', C z (.inr (r, a, o) :: As) μ (none, μ') ∧ K (pc + 3) L S1 μ') ∧ (¬ mR z = none → ∃ v μ', C z (.inr (r, a, o) :: As) μ (some v, μ') ∧ K (pc + 3) L (.inl v :: S1) μ')
  | .invokestatic x => n = 3 ∧ ∃ z q, cT (mO y) x = some (z, q) ∧
      ((z = 900 ∧ popI S fun k S0 => popI S0 fun dp S1 => popR S1 fun r' a' o' S2 => popI S2 fun sp S3 => popR S3 fun r a o S4 => kc a = 10 ∧ kc a' = 10 ∧ ¬ sp < 0 ∧ ¬ dp < 0 ∧ ¬ k < 0 ∧ sp.toNatClampNeg + k.toNatClampNeg ≤ al a ∧ dp.toNatClampNeg + k.toNatClampNeg ≤ al a' ∧ S4.length ≤ 8 ∧ K (pc + 3) L S4 (mrow μ r' a' o' (va_cpy (μ r a o) (μ r' a' o') sp.toNatClampNeg dp.toNatClampNeg k.toNatClampNeg)))
      ∨ (¬ z = 900 ∧ mS z = true ∧ popN (mK z) S fun As S1 => S1.length ≤ 8 ∧
      (mR z = none → ∃ μ', C z As μ (none, μ') ∧ K (pc + 3) L S1 μ') ∧ (¬ mR z = none → ∃ v μ', C z As μ (some v, μ') ∧ K (pc + 3) L (.inl v :: S1) μ')))
  | .ireturn => n = 1 ∧ ∃ v, S = [.inl v] ∧ (mR y = some .boolean → v = 0 ∨ v = 1) ∧ ¬ mR y = none ∧ res = (some v, μ)
  | .return_ => n = 1 ∧ S = [] ∧ mR y = none ∧ res = (none, μ)
  | _ => False
def Ev (C : Nat → List AV → Mem → Res → Prop) (y : Nat) (res : Res) : Nat → Kont
  | 0 => fun _ _ _ _ => False
  | n + 1 => fun pc L S μ => ∃ i k, decode (mB y) pc = .ok (i, k) ∧ stp C y res i k pc (Ev C y res n) L S μ
def EvE (C : Nat → List AV → Mem → Res → Prop) (y pc : Nat) (L : Lc) (S : List AV) (μ : Mem) (res : Res) : Prop := ∃ n, Ev C y res n pc L S μ
def lc0 (n : Nat) (as : List AV) : Lc := as.map some ++ List.replicate (n - as.length) none
def M : Nat → Nat → List AV → Mem → Res → Prop
  | 0 => fun _ _ _ _ => False
  | d + 1 => fun y as μ res => as.length ≤ mL y ∧ EvE (M d) y 0 (lc0 (mL y) as) [] μ res
section EVL
variable {C : Nat → List AV → Mem → Res → Prop} {y pc n : Nat} {res : Res} {L : Lc} {S : List AV} {μ : Mem}
theorem ev_of {i : Instr} {k : Nat} (h : decode (mB y) pc = .ok (i, k)) : EvE C y pc L S μ res ↔ ∃ n, stp C y res i k pc (Ev C y res n) L S μ := by
  constructor
  · rintro ⟨n, hn⟩
    cases n with
    | zero => exact hn.elim
    | succ n =>
      obtain ⟨i', k', h1, h2⟩ := hn
      rw [h] at h1
      cases h1
      exact ⟨n, h2⟩
  · rintro ⟨n, hn⟩
    exact ⟨n + 1, i, k, h, hn⟩
theorem ev_iconst {v : Int} {w : Int32} (h : decode (mB y) pc = .ok (.iconst v, 1)) (hw : Int32.ofInt v = w) : EvE C y pc L S μ res ↔ EvE C y (pc + 1) L (.inl w :: S) μ res := by
  subst hw
  exact (ev_of h).trans (exists_congr fun _ => and_iff_right rfl)
theorem ev_bipush {v : Int} {w : Int32} (h : decode (mB y) pc = .ok (.bipush v, 2)) (hw : (Int8.ofInt v).toInt32 = w) : EvE C y pc L S μ res ↔ EvE C y (pc + 2) L (.inl w :: S) μ res := by
  subst hw
  exact (ev_of h).trans (exists_congr fun _ => and_iff_right rfl)
theorem ev_sipush {v : Int} {w : Int32} (h : decode (mB y) pc = .ok (.sipush v, 3)) (hw : (Int16.ofInt v).toInt32 = w) : EvE C y pc L S μ res ↔ EvE C y (pc + 3) L (.inl w :: S) μ res := by
  subst hw
  exact (ev_of h).trans (exists_congr fun _ => and_iff_right rfl)
theorem ev_ldc {x : Nat} {w : Int32} (h : decode (mB y) pc = .ok (.ldc x, 2)) (hw : lT (mO y) x = some w) : EvE C y pc L S μ res ↔ EvE C y (pc + 2) L (.inl w :: S) μ res := by
  refine (ev_of h).trans (exists_congr fun k => (and_iff_right rfl).trans ⟨?_, fun h => ⟨w, hw, h⟩⟩)
  rintro ⟨v, h1, h2⟩
  rw [hw] at h1; cases h1; exact h2
theorem ldI_iff {k : Nat} {v : Int32} {f : Int32 → Prop} (hv : L[k]? = some (some (.inl v))) : ldI L k f ↔ f v := by
  constructor
  · rintro ⟨w, h1, h2⟩
    rw [hv] at h1; cases h1; exact h2
  · exact fun h => ⟨v, hv, h⟩
theorem ldR_iff {k : Nat} {q : Nat × Nat × Nat} {f : Nat × Nat × Nat → Prop} (hv : L[k]? = some (some (.inr q))) : ldR L k f ↔ f q := by
  constructor
  · rintro ⟨w, h1, h2⟩
    rw [hv] at h1; cases h1; exact h2
  · exact fun h => ⟨q, hv, h⟩
theorem popI_iff {v : Int32} {f : Int32 → List AV → Prop} : popI (.inl v :: S) f ↔ f v S := by
  constructor
  · rintro ⟨w, S', h1, h2⟩
    cases h1; exact h2
  · exact fun h => ⟨v, S, rfl, h⟩
theorem popR_iff {r a o : Nat} {f : Nat → Nat → Nat → List AV → Prop} : popR (.inr (r, a, o) :: S) f ↔ f r a o S := by
  constructor
  · rintro ⟨r, a, o, S', h1, h2⟩
    cases h1; exact h2
  · exact fun h => ⟨r, a, o, S, rfl, h⟩
theorem popN_iff {As : List AV} {k : Nat} (hk : As.length = k) {f : List AV → List AV → Prop} : popN k (As.reverse ++ S) f ↔ f As S := by
  constructor
  · rintro ⟨Bs, S', h0, h1, h2⟩
    have := List.append_inj h1 (by simp [hk, h0])
    rw [List.reverse_inj] at this
    rw [this.1, this.2]; exact h2
  · exact fun h => ⟨As, S, hk, rfl, h⟩
theorem ev_iload_n {k : Fin 4} {v : Int32} (h : decode (mB y) pc = .ok (.iload_n k, 1)) (hv : L[(k : Nat)]? = some (some (.inl v))) : EvE C y pc L S μ res ↔ EvE C y (pc + 1) L (.inl v :: S) μ res := (ev_of h).trans (exists_congr fun _ => (and_iff_right rfl).trans (ldI_iff hv))
theorem ev_iload {k : Nat} {v : Int32} (h : decode (mB y) pc = .ok (.iload k, 2)) (hv : L[k]? = some (some (.inl v))) : EvE C y pc L S μ res ↔ EvE C y (pc + 2) L (.inl v :: S) μ res := (ev_of h).trans (exists_congr fun _ => (and_iff_right rfl).trans (ldI_iff hv))
theorem ev_aload_n {k : Fin 4} {q : Nat × Nat × Nat} (h : decode (mB y) pc = .ok (.aload_n k, 1)) (hv : L[(k : Nat)]? = some (some (.inr q))) : EvE C y pc L S μ res ↔ EvE C y (pc + 1) L (.inr q :: S) μ res := (ev_of h).trans (exists_congr fun _ => (and_iff_right rfl).trans (ldR_iff hv))
theorem ev_aload {k : Nat} {q : Nat × Nat × Nat} (h : decode (mB y) pc = .ok (.aload k, 2)) (hv : L[k]? = some (some (.inr q))) : EvE C y pc L S μ res ↔ EvE C y (pc + 2) L (.inr q :: S) μ res := (ev_of h).trans (exists_congr fun _ => (and_iff_right rfl).trans (ldR_iff hv))
theorem ev_istore_n {k : Fin 4} {v : Int32} {L' : Lc} (h : decode (mB y) pc = .ok (.istore_n k, 1)) (hk : (k : Nat) < L.length) (hL : L.set k (some (.inl v)) = L') : EvE C y pc L (.inl v :: S) μ res ↔ EvE C y (pc + 1) L' S μ res := by
  subst hL
  exact (ev_of h).trans (exists_congr fun _ => (and_iff_right rfl).trans (popI_iff.trans (and_iff_right hk)))
theorem ev_istore {k : Nat} {v : Int32} {L' : Lc} (h : decode (mB y) pc = .ok (.istore k, 2)) (hk : k < L.length) (hL : L.set k (some (.inl v)) = L') : EvE C y pc L (.inl v :: S) μ res ↔ EvE C y (pc + 2) L' S μ res := by
  subst hL
  exact (ev_of h).trans (exists_congr fun _ => (and_iff_right rfl).trans (popI_iff.trans (and_iff_right hk)))
theorem ev_astore_n {k : Fin 4} {r a o : Nat} {L' : Lc} (h : decode (mB y) pc = .ok (.astore_n k, 1)) (hk : (k : Nat) < L.length) (hL : L.set k (some (.inr (r, a, o))) = L') : EvE C y pc L (.inr (r, a, o) :: S) μ res ↔ EvE C y (pc + 1) L' S μ res := by
  subst hL
  exact (ev_of h).trans (exists_congr fun _ => (and_iff_right rfl).trans (popR_iff.trans (and_iff_right hk)))
theorem ev_astore {k : Nat} {r a o : Nat} {L' : Lc} (h : decode (mB y) pc = .ok (.astore k, 2)) (hk : k < L.length) (hL : L.set k (some (.inr (r, a, o))) = L') : EvE C y pc L (.inr (r, a, o) :: S) μ res ↔ EvE C y (pc + 2) L' S μ res := by
  subst hL
  exact (ev_of h).trans (exists_congr fun _ => (and_iff_right rfl).trans (popR_iff.trans (and_iff_right hk)))
theorem ev_iinc {k : Nat} {d : Int} {v w : Int32} {L' : Lc} (h : decode (mB y) pc = .ok (.iinc k d, 3)) (hv : L[k]? = some (some (.inl v))) (hw : Int32.ofInt d = w) (hL : L.set k (some (.inl (v + w))) = L') : EvE C y pc L S μ res ↔ EvE C y (pc + 3) L' S μ res := by
  subst hw; subst hL
  exact (ev_of h).trans (exists_congr fun _ => (and_iff_right rfl).trans (ldI_iff hv))
theorem ev_iadd {a b : Int32} (h : decode (mB y) pc = .ok (.iadd, 1)) : EvE C y pc L (.inl b :: .inl a :: S) μ res ↔ EvE C y (pc + 1) L (.inl (a + b) :: S) μ res := (ev_of h).trans (exists_congr fun _ => (and_iff_right rfl).trans (popI_iff.trans popI_iff))
theorem ev_isub {a b : Int32} (h : decode (mB y) pc = .ok (.isub, 1)) : EvE C y pc L (.inl b :: .inl a :: S) μ res ↔ EvE C y (pc + 1) L (.inl (a - b) :: S) μ res := (ev_of h).trans (exists_congr fun _ => (and_iff_right rfl).trans (popI_iff.trans popI_iff))
theorem ev_imul {a b : Int32} (h : decode (mB y) pc = .ok (.imul, 1)) : EvE C y pc L (.inl b :: .inl a :: S) μ res ↔ EvE C y (pc + 1) L (.inl (a * b) :: S) μ res := (ev_of h).trans (exists_congr fun _ => (and_iff_right rfl).trans (popI_iff.trans popI_iff))
theorem ev_iand {a b : Int32} (h : decode (mB y) pc = .ok (.iand, 1)) : EvE C y pc L (.inl b :: .inl a :: S) μ res ↔ EvE C y (pc + 1) L (.inl (a &&& b) :: S) μ res := (ev_of h).trans (exists_congr fun _ => (and_iff_right rfl).trans (popI_iff.trans popI_iff))
theorem ev_ixor {a b : Int32} (h : decode (mB y) pc = .ok (.ixor, 1)) : EvE C y pc L (.inl b :: .inl a :: S) μ res ↔ EvE C y (pc + 1) L (.inl (a ^^^ b) :: S) μ res := (ev_of h).trans (exists_congr fun _ => (and_iff_right rfl).trans (popI_iff.trans popI_iff))
theorem ev_ishl {a b : Int32} (h : decode (mB y) pc = .ok (.ishl, 1)) : EvE C y pc L (.inl b :: .inl a :: S) μ res ↔ EvE C y (pc + 1) L (.inl (a <<< (b &&& 31)) :: S) μ res := (ev_of h).trans (exists_congr fun _ => (and_iff_right rfl).trans (popI_iff.trans popI_iff))
theorem ex_and {P : Prop} {A : Nat → Prop} : (∃ n, P ∧ A n) ↔ P ∧ ∃ n, A n := ⟨fun ⟨n, a, b⟩ => ⟨a, n, b⟩, fun ⟨a, n, b⟩ => ⟨n, a, b⟩⟩
theorem ex_br {P : Prop} {A B : Nat → Prop} : (∃ n, (P → A n) ∧ (¬ P → B n)) ↔ (P → ∃ n, A n) ∧ (¬ P → ∃ n, B n) := by
  constructor
  · exact fun ⟨n, a, b⟩ => ⟨fun h => ⟨n, a h⟩, fun h => ⟨n, b h⟩⟩
  · intro ⟨a, b⟩
    by_cases h : P
    · obtain ⟨n, hn⟩ := a h
      exact ⟨n, fun _ => hn, fun h' => absurd h h'⟩
    · obtain ⟨n, hn⟩ := b h
      exact ⟨n, fun h' => absurd h' h, fun _ => hn⟩
theorem ev_irem {a b : Int32} (h : decode (mB y) pc = .ok (.irem, 1)) : EvE C y pc L (.inl b :: .inl a :: S) μ res ↔ ¬ b = 0 ∧ EvE C y (pc + 1) L (.inl (a - a / b * b) :: S) μ res := ((ev_of h).trans (exists_congr fun _ => (and_iff_right rfl).trans (popI_iff.trans popI_iff))).trans ex_and
theorem ev_dup {v : AV} (h : decode (mB y) pc = .ok (.dup, 1)) : EvE C y pc L (v :: S) μ res ↔ EvE C y (pc + 1) L (v :: v :: S) μ res := by
  refine (ev_of h).trans (exists_congr fun _ => (and_iff_right rfl).trans ⟨?_, fun h => ⟨v, S, rfl, h⟩⟩)
  rintro ⟨_, _, e, h⟩; cases e; exact h
theorem ev_dup2 {v w : AV} (h : decode (mB y) pc = .ok (.dup2, 1)) : EvE C y pc L (v :: w :: S) μ res ↔ EvE C y (pc + 1) L (v :: w :: v :: w :: S) μ res := by
  refine (ev_of h).trans (exists_congr fun _ => (and_iff_right rfl).trans ⟨?_, fun h => ⟨v, w, S, rfl, h⟩⟩)
  rintro ⟨_, _, _, e, h⟩; cases e; exact h
theorem ev_pop {v : AV} (h : decode (mB y) pc = .ok (.pop, 1)) : EvE C y pc L (v :: S) μ res ↔ EvE C y (pc + 1) L S μ res := by
  refine (ev_of h).trans (exists_congr fun _ => (and_iff_right rfl).trans ⟨?_, fun h => ⟨v, S, rfl, h⟩⟩)
  rintro ⟨_, _, e, h⟩; cases e; exact h
theorem ex_tgt {z : Int} {t : Nat} (ht : z = t) {A : Nat → Prop} : (∃ t' : Nat, z = t' ∧ A t') ↔ A t := by
  constructor
  · rintro ⟨t', h1, h2⟩
    have : t' = t := by omega
    rw [← this]; exact h2
  · exact fun h => ⟨t, ht, h⟩
theorem ev_icmp {c : ClassFile.Cond} {d : Int} {t : Nat} {a b : Int32} (h : decode (mB y) pc = .ok (.if_icmp c d, 3)) (ht : (pc : Int) + d = t) : EvE C y pc L (.inl b :: .inl a :: S) μ res ↔ (cmpI c a b → EvE C y t L S μ res) ∧ (¬ cmpI c a b → EvE C y (pc + 3) L S μ res) :=
  ((ev_of h).trans (exists_congr fun _ => (and_iff_right rfl).trans (popI_iff.trans (popI_iff.trans (ex_tgt ht))))).trans ex_br
theorem ev_ifc {c : ClassFile.Cond} {d : Int} {t : Nat} {a : Int32} (h : decode (mB y) pc = .ok (.ifCond c d, 3)) (ht : (pc : Int) + d = t) : EvE C y pc L (.inl a :: S) μ res ↔ (cmpI c a 0 → EvE C y t L S μ res) ∧ (¬ cmpI c a 0 → EvE C y (pc + 3) L S μ res) :=
  ((ev_of h).trans (exists_congr fun _ => (and_iff_right rfl).trans (popI_iff.trans (ex_tgt ht)))).trans ex_br
theorem ev_goto {d : Int} {t : Nat} (h : decode (mB y) pc = .ok (.goto d, 3)) (ht : (pc : Int) + d = t) : EvE C y pc L S μ res ↔ EvE C y t L S μ res :=
  (ev_of h).trans (exists_congr fun _ => (and_iff_right rfl).trans (ex_tgt ht))
theorem ev_getI {x r a o c j q : Nat} {b : Bool} (h : decode (mB y) pc = .ok (.getfield x, 3)) (hf : fT (mO y) x = some (c, j, b, q)) (hk : fk c j = none) : EvE C y pc L (.inr (r, a, o) :: S) μ res ↔ kc a = c ∧ EvE C y (pc + 3) L (.inl (μ r a o j) :: S) μ res := by
  refine ((ev_of h).trans (exists_congr fun _ => (and_iff_right rfl).trans (popR_iff.trans ⟨?_, fun h => ⟨c, j, b, q, hf, h.1, ?_⟩⟩))).trans ex_and
  · rintro ⟨c', j', b', q', h1, h2, h3⟩
    rw [hf] at h1; cases h1
    unfold gfv at h3; rw [hk] at h3; exact ⟨h2, h3⟩
  · unfold gfv; rw [hk]; exact h.2
theorem ev_getR {x r a o c j q dr da : Nat} {b : Bool} (h : decode (mB y) pc = .ok (.getfield x, 3)) (hf : fT (mO y) x = some (c, j, b, q)) (hk : fk c j = some (dr, da)) : EvE C y pc L (.inr (r, a, o) :: S) μ res ↔ kc a = c ∧ EvE C y (pc + 3) L (.inr (r + dr, a + da, o) :: S) μ res := by
  refine ((ev_of h).trans (exists_congr fun _ => (and_iff_right rfl).trans (popR_iff.trans ⟨?_, fun h => ⟨c, j, b, q, hf, h.1, ?_⟩⟩))).trans ex_and
  · rintro ⟨c', j', b', q', h1, h2, h3⟩
    rw [hf] at h1; cases h1
    unfold gfv at h3; rw [hk] at h3; exact ⟨h2, h3⟩
  · unfold gfv; rw [hk]; exact h.2
theorem ev_put {x r a o c j q : Nat} {b : Bool} {v : Int32} (h : decode (mB y) pc = .ok (.putfield x, 3)) (hf : fT (mO y) x = some (c, j, b, q)) (hk : fk c j = none) (hb : bz c j = false) : EvE C y pc L (.inl v :: .inr (r, a, o) :: S) μ res ↔ kc a = c ∧ EvE C y (pc + 3) L S (mset μ r a o j v) res := by
  refine ((ev_of h).trans (exists_congr fun _ => (and_iff_right rfl).trans (popI_iff.trans (popR_iff.trans ⟨?_, fun h => ⟨c, j, b, q, hf, h.1, hk, fun e => (by rw [hb] at e; cases e), h.2⟩⟩)))).trans ex_and
  rintro ⟨c', j', b', q', h1, h2, h3, h4, h5⟩
  rw [hf] at h1; cases h1
  exact ⟨h2, h5⟩
theorem ev_putZ {x r a o c j q : Nat} {b : Bool} {v : Int32} (h : decode (mB y) pc = .ok (.putfield x, 3)) (hf : fT (mO y) x = some (c, j, b, q)) (hk : fk c j = none) (hb : bz c j = true) : EvE C y pc L (.inl v :: .inr (r, a, o) :: S) μ res ↔ (kc a = c ∧ (v = 0 ∨ v = 1)) ∧ EvE C y (pc + 3) L S (mset μ r a o j v) res := by
  refine ((ev_of h).trans (exists_congr fun _ => (and_iff_right rfl).trans (popI_iff.trans (popR_iff.trans ⟨?_, fun h => ⟨c, j, b, q, hf, h.1.1, hk, fun _ => h.1.2, h.2⟩⟩)))).trans ex_and
  rintro ⟨c', j', b', q', h1, h2, h3, h4, h5⟩
  rw [hf] at h1; cases h1
  exact ⟨⟨h2, h4 hb⟩, h5⟩
theorem ev_iald {r a o : Nat} {i : Int32} (h : decode (mB y) pc = .ok (.iaload, 1)) (hk : kc a = 10) : EvE C y pc L (.inl i :: .inr (r, a, o) :: S) μ res ↔ vp_in i (al a) ∧ EvE C y (pc + 1) L (.inl (μ r a o i.toNatClampNeg) :: S) μ res :=
  ((ev_of h).trans (exists_congr fun _ => (and_iff_right rfl).trans (popI_iff.trans (popR_iff.trans (and_congr_right fun _ => ⟨fun h => h.1 hk, fun h => ⟨fun _ => h, fun h' => absurd hk h'⟩⟩))))).trans ex_and
theorem ev_imld {r a o : Nat} {i : Int32} (h : decode (mB y) pc = .ok (.iaload, 1)) (hk : kc a = 12) : EvE C y pc L (.inl i :: .inr (r, a, o) :: S) μ res ↔ vp_in i (al a) ∧ EvE C y (pc + 1) L (.inl (imC a i.toNatClampNeg) :: S) μ res :=
  have hk' : ¬ kc a = 10 := by rw [hk]; decide
  ((ev_of h).trans (exists_congr fun _ => (and_iff_right rfl).trans (popI_iff.trans (popR_iff.trans (and_congr_right fun _ => ⟨fun h => (h.2 hk').2, fun h => ⟨fun h' => absurd h' hk', fun _ => ⟨hk, h⟩⟩⟩))))).trans ex_and
theorem ev_iast {r a o : Nat} {i v : Int32} (h : decode (mB y) pc = .ok (.iastore, 1)) (hk : kc a = 10) : EvE C y pc L (.inl v :: .inl i :: .inr (r, a, o) :: S) μ res ↔ vp_in i (al a) ∧ EvE C y (pc + 1) L S (mset μ r a o i.toNatClampNeg v) res :=
  ((ev_of h).trans (exists_congr fun _ => (and_iff_right rfl).trans (popI_iff.trans (popI_iff.trans (popR_iff.trans (and_iff_right hk)))))).trans ex_and
theorem ev_aald {r a o : Nat} {i : Int32} (h : decode (mB y) pc = .ok (.aaload, 1)) (hk : kc a = 11) : EvE C y pc L (.inl i :: .inr (r, a, o) :: S) μ res ↔ vp_in i 6 ∧ EvE C y (pc + 1) L (.inr (r, a + 1, i.toNatClampNeg) :: S) μ res :=
  ((ev_of h).trans (exists_congr fun _ => (and_iff_right rfl).trans (popI_iff.trans (popR_iff.trans (and_iff_right hk))))).trans ex_and
theorem ev_alen {r a o : Nat} (h : decode (mB y) pc = .ok (.arraylength, 1)) (hk : kc a = 10) : EvE C y pc L (.inr (r, a, o) :: S) μ res ↔ EvE C y (pc + 1) L (.inl (nI (al a)) :: S) μ res :=
  (ev_of h).trans (exists_congr fun _ => (and_iff_right rfl).trans (popR_iff.trans (and_iff_right hk)))
theorem ev_gets {x a : Nat} (h : decode (mB y) pc = .ok (.getstatic x, 3)) (hg : gT (mO y) x = some a) : EvE C y pc L S μ res ↔ EvE C y (pc + 3) L (.inr (9, a, 0) :: S) μ res := by
  refine (ev_of h).trans (exists_congr fun k => (and_iff_right rfl).trans ⟨?_, fun h => ⟨a, hg, h⟩⟩)
  rintro ⟨v, h1, h2⟩
  rw [hg] at h1; cases h1; exact h2
theorem ex_2 {α β : Type} {A : Nat → α → β → Prop} : (∃ n a b, A n a b) ↔ ∃ a b n, A n a b := ⟨fun ⟨n, a, b, h⟩ => ⟨a, b, n, h⟩, fun ⟨a, b, n, h⟩ => ⟨n, a, b, h⟩⟩
theorem ev_virV {x z q r a o : Nat} {As S0 : List AV} (h : decode (mB y) pc = .ok (.invokevirtual x, 3)) (hc : cT (mO y) x = some (z, q)) (hz : ¬ z = 900) (hs : mS z = false) (hn : As.length = mK z) (hr : mR z = none) (hS : S0 = As.reverse ++ .inr (r, a, o) :: S) (hl : S.length ≤ 8) : EvE C y pc L S0 μ res ↔ kc a = mO z ∧ ∃ μ', C z (.inr (r, a, o) :: As) μ (none, μ') ∧ EvE C y (pc + 3) L S μ' res := by
  subst hS
  refine (ev_of h).trans ⟨?_, ?_⟩
  · rintro ⟨n, -, z', q', h1, -, h2, h3⟩
    rw [hc] at h1; cases h1
    obtain ⟨h4, h5, h6, h7⟩ := popR_iff.mp ((popN_iff hn).mp h3)
    obtain ⟨μ', h8, h9⟩ := h6 hr
    exact ⟨h4, μ', h8, n, h9⟩
  · rintro ⟨h4, μ', h8, n, h9⟩
    exact ⟨n, rfl, z, q, hc, hz, hs, (popN_iff hn).mpr (popR_iff.mpr ⟨h4, hl, fun _ => ⟨μ', h8, h9⟩, fun h' => absurd hr h'⟩)⟩
theorem ev_virI {x z q r a o : Nat} {As S0 : List AV} (h : decode (mB y) pc = .ok (.invokevirtual x, 3)) (hc : cT (mO y) x = some (z, q)) (hz : ¬ z = 900) (hs : mS z = false) (hn : As.length = mK z) (hr : ¬ mR z = none) (hS : S0 = As.reverse ++ .inr (r, a, o) :: S) (hl : S.length ≤ 8) : EvE C y pc L S0 μ res ↔ kc a = mO z ∧ ∃ v μ', C z (.inr (r, a, o) :: As) μ (some v, μ') ∧ EvE C y (pc + 3) L (.inl v :: S) μ' res := by
  subst hS
  refine (ev_of h).trans ⟨?_, ?_⟩
  · rintro ⟨n, -, z', q', h1, -, h2, h3⟩
    rw [hc] at h1; cases h1
    obtain ⟨h4, h5, h6, h7⟩ := popR_iff.mp ((popN_iff hn).mp h3)
    obtain ⟨v, μ', h8, h9⟩ := h7 hr
    exact ⟨h4, v, μ', h8, n, h9⟩
  · rintro ⟨h4, v, μ', h8, n, h9⟩
    exact ⟨n, rfl, z, q, hc, hz, hs, (popN_iff hn).mpr (popR_iff.mpr ⟨h4, hl, fun h' => absurd h' hr, fun _ => ⟨v, μ', h8, h9⟩⟩)⟩
theorem ev_staV {x z q : Nat} {As S0 : List AV} (h : decode (mB y) pc = .ok (.invokestatic x, 3)) (hc : cT (mO y) x = some (z, q)) (hz : ¬ z = 900) (hs : mS z = true) (hn : As.length = mK z) (hr : mR z = none) (hS : S0 = As.reverse ++ S) (hl : S.length ≤ 8) : EvE C y pc L S0 μ res ↔ ∃ μ', C z As μ (none, μ') ∧ EvE C y (pc + 3) L S μ' res := by
  subst hS
  refine (ev_of h).trans ⟨?_, ?_⟩
  · rintro ⟨n, -, z', q', h1, h2⟩
    rw [hc] at h1; cases h1
    rcases h2 with h2 | ⟨-, -, h3⟩
    · exact absurd h2.1 hz
    obtain ⟨h5, h6, h7⟩ := (popN_iff hn).mp h3
    obtain ⟨μ', h8, h9⟩ := h6 hr
    exact ⟨μ', h8, n, h9⟩
  · rintro ⟨μ', h8, n, h9⟩
    exact ⟨n, rfl, z, q, hc, Or.inr ⟨hz, hs, (popN_iff hn).mpr ⟨hl, fun _ => ⟨μ', h8, h9⟩, fun h' => absurd hr h'⟩⟩⟩
theorem ev_staI {x z q : Nat} {As S0 : List AV} (h : decode (mB y) pc = .ok (.invokestatic x, 3)) (hc : cT (mO y) x = some (z, q)) (hz : ¬ z = 900) (hs : mS z = true) (hn : As.length = mK z) (hr : ¬ mR z = none) (hS : S0 = As.reverse ++ S) (hl : S.length ≤ 8) : EvE C y pc L S0 μ res ↔ ∃ v μ', C z As μ (some v, μ') ∧ EvE C y (pc + 3) L (.inl v :: S) μ' res := by
  subst hS
  refine (ev_of h).trans ⟨?_, ?_⟩
  · rintro ⟨n, -, z', q', h1, h2⟩
    rw [hc] at h1; cases h1
    rcases h2 with h2 | ⟨-, -, h3⟩
    · exact absurd h2.1 hz
    obtain ⟨h5, h6, h7⟩ := (popN_iff hn).mp h3
    obtain ⟨v, μ', h8, h9⟩ := h7 hr
    exact ⟨v, μ', h8, n, h9⟩
  · rintro ⟨v, μ', h8, n, h9⟩
    exact ⟨n, rfl, z, q, hc, Or.inr ⟨hz, hs, (popN_iff hn).mpr ⟨hl, fun h' => absurd h' hr, fun _ => ⟨v, μ', h8, h9⟩⟩⟩⟩
theorem ev_acpy {x q r a o r' a' o' : Nat} {sp dp k : Int32} (h : decode (mB y) pc = .ok (.invokestatic x, 3)) (hc : cT (mO y) x = some (900, q)) (hk : kc a = 10) (hk' : kc a' = 10) (hl : S.length ≤ 8) : EvE C y pc L (.inl k :: .inl dp :: .inr (r', a', o') :: .inl sp :: .inr (r, a, o) :: S) μ res ↔ (¬ sp < 0 ∧ ¬ dp < 0 ∧ ¬ k < 0 ∧ sp.toNatClampNeg + k.toNatClampNeg ≤ al a ∧ dp.toNatClampNeg + k.toNatClampNeg ≤ al a') ∧ EvE C y (pc + 3) L S (mrow μ r' a' o' (va_cpy (μ r a o) (μ r' a' o') sp.toNatClampNeg dp.toNatClampNeg k.toNatClampNeg)) res := by
  refine (ev_of h).trans ⟨?_, ?_⟩
  · rintro ⟨n, -, z', q', h1, h2⟩
    rw [hc] at h1; cases h1
    rcases h2 with ⟨-, h2⟩ | h2
    · obtain ⟨h1, h2, h3, h4, h5, h6, h7, h8, h9⟩ := popR_iff.mp (popI_iff.mp (popR_iff.mp (popI_iff.mp (popI_iff.mp h2))))
      exact ⟨⟨h3, h4, h5, h6, h7⟩, n, h9⟩
    · exact absurd rfl h2.1
  · rintro ⟨⟨h3, h4, h5, h6, h7⟩, n, h9⟩
    exact ⟨n, rfl, 900, q, hc, Or.inl ⟨rfl, popI_iff.mpr (popI_iff.mpr (popR_iff.mpr (popI_iff.mpr (popR_iff.mpr ⟨hk, hk', h3, h4, h5, h6, h7, hl, h9⟩))))⟩⟩
theorem ev_ireturn {v : Int32} (h : decode (mB y) pc = .ok (.ireturn, 1)) (hr : mR y = some .int) : EvE C y pc L [.inl v] μ res ↔ res = (some v, μ) := by
  refine (ev_of h).trans ⟨?_, fun h => ⟨0, rfl, v, rfl, fun e => (by rw [hr] at e; cases e), fun e => (by rw [hr] at e; cases e), h⟩⟩
  rintro ⟨-, -, v', h1, h2, h3, h4⟩
  cases h1; exact h4
theorem ev_zreturn {v : Int32} (h : decode (mB y) pc = .ok (.ireturn, 1)) (hr : mR y = some .boolean) : EvE C y pc L [.inl v] μ res ↔ (v = 0 ∨ v = 1) ∧ res = (some v, μ) := by
  refine (ev_of h).trans ⟨?_, fun h => ⟨0, rfl, v, rfl, fun _ => h.1, fun e => (by rw [hr] at e; cases e), h.2⟩⟩
  rintro ⟨-, -, v', h1, h2, h3, h4⟩
  cases h1; exact ⟨h2 hr, h4⟩
theorem ev_return (h : decode (mB y) pc = .ok (.return_, 1)) (hr : mR y = none) : EvE C y pc L [] μ res ↔ res = (none, μ) := by
  refine (ev_of h).trans ⟨?_, fun h => ⟨0, rfl, rfl, hr, h⟩⟩
  rintro ⟨-, -, -, -, h4⟩
  exact h4
end EVL
