/-! a job comes: the model executed -/
theorem D92_hit {m h : Rg} {s q : Nat} {raw x4 : Int32} (hs : s < 6) (hq : q < 8) (hh : ¬ h 64 0 (8 * s + q) < h 60 0 0) : MX 2 92 [.inl (nI s), .inl (nI q), .inl raw, .inl x4] m h (some (-1)) m (cset h 63 0 (13 * s + 6) (h 63 0 (13 * s + 6) + 1)) := fun d μ => M92 (by
  have e0 : 8 * nI s + nI q = nI (8 * s + q) := ix_lin 8 rfl rfl
  have v0 : vp_in (nI (8 * s + q)) 48 := vp_in_nI (by omega) (by decide)
  have k0 : (nI (8 * s + q)).toNatClampNeg = 8 * s + q := nI_cl (by omega)
  rw [e0]
  refine ⟨v0, ?_⟩
  simp only [Nat.reduceAdd, mm4, k0]
  exact ⟨fun e => absurd e hh, fun _ => ⟨_, T_madd hs (by decide) rfl d μ, rfl⟩⟩)
theorem D92_pre {m h h' : Rg} {s q N w u hd rm o k : Nat} {raw x4 v : Int32} (hs : s < 6) (hq : q < 8) (hh : h 64 0 (8 * s + q) < h 60 0 0) (hN : h 60 0 15 = nI N) (hb : N ≤ 120) (hu0 : cnt (hup h (nI s)) N = u) (h66 : h 66 0 s = nI w) (h7 : m 41 0 (9 * s + 7) = nI hd) (h9 : m 42 0 s = nI rm) (h6 : m 41 0 (9 * s + 6) = nI o) (hw : w ≤ 20) (hu : u ≤ 120) (hhd : hd ≤ 9) (hrm : rm ≤ 20) (ho : o ≤ 1)
    (H : ∀ d μ, EvE (M (d + (k + 1))) 92 92 [some (.inr (3, 40, 0)), some (.inl (nI s)), some (.inl (nI q)), some (.inl raw), some (.inl x4), some (.inl (if u < hd ∧ w = 0 then 1 else 0)), none, none, none, none] [.inl (if 0 < o ∧ 0 < rm then 1 else 0)] (mm μ m h) (some v, mm μ m h')) : MX (k + 2) 92 [.inl (nI s), .inl (nI q), .inl raw, .inl x4] m h (some v) m h' := fun d μ => M92 (by
  have e0 : 8 * nI s + nI q = nI (8 * s + q) := ix_lin 8 rfl rfl
  have v0 : vp_in (nI (8 * s + q)) 48 := vp_in_nI (by omega) (by decide)
  have k0 : (nI (8 * s + q)).toNatClampNeg = 8 * s + q := nI_cl (by omega)
  have v1 : vp_in (nI s) 6 := vp_in_nI (by omega) (by decide)
  have k1 : (nI s).toNatClampNeg = s := nI_cl (by omega)
  have H2 : EvE (M (d + (k + 1))) 92 65 [some (.inr (3, 40, 0)), some (.inl (nI s)), some (.inl (nI q)), some (.inl raw), some (.inl x4), none, none, none, none, none] [.inl (if u < hd ∧ w = 0 then 1 else 0)] (mm μ m h) (some v, mm μ m h') := by
    have HH := H d μ
    rw [B92_65]
    refine ⟨_, _, (T_ruled (m := m) (h := h) hs (by decide) rfl).mono (by omega) d μ, ?_⟩
    have z0 : (nI rm ≤ 0) = (rm ≤ 0) := nI_le' (b := 0) (by omega) (by decide)
    have z1 : (nI o = 1) = (o = 1) := propext ⟨fun e => nI_inj (by omega) (by decide) e, fun e => by rw [e]; rfl⟩
    simp only [Nat.reduceAdd, mm3, mm4, k1, h6, h9, z0, z1]
    refine ⟨fun e => ?_, fun e => ⟨v1, fun e2 => ?_, fun e2 => ?_⟩⟩
    · rw [B92_91]; rw [if_neg (show ¬ (0 < o ∧ 0 < rm) by omega)] at HH; exact HH
    · rw [B92_91]; rw [if_neg (show ¬ (0 < o ∧ 0 < rm) by omega)] at HH; exact HH
    · rw [if_pos (show (0 < o ∧ 0 < rm) by omega)] at HH; exact HH
  rw [e0]
  refine ⟨v0, ?_⟩
  simp only [Nat.reduceAdd, mm4, k0]
  refine ⟨fun _ => ⟨_, _, (T_hands hN hb).mono (by omega) d μ, _, _, (T_ruled hs (by decide) rfl).mono (by omega) d μ, ?_⟩, fun e => absurd hh e⟩
  simp (disch := omega) only [hu0, h7, nI_le', mm4, k1, h66, nI_eq0, B92_64]
  refine ⟨fun e => ?_, fun e => ⟨v1, fun e2 => ?_, fun e2 => ?_⟩⟩
  · rw [if_neg (show ¬ (u < hd ∧ w = 0) by omega)] at H2; exact H2
  · rw [if_neg (show ¬ (u < hd ∧ w = 0) by omega)] at H2; exact H2
  · rw [if_pos (show (u < hd ∧ w = 0) by omega)] at H2; exact H2)
def mRef (h : Rg) (s : Nat) : Rg := cset (cset h 63 0 (13 * s + 10) (h 63 0 (13 * s + 10) + 1)) 60 0 28 0
theorem D92_no {m h : Rg} {s N w rm : Nat} {q raw x4 b1 b3 : Int32} (hs : s < 6) (hN : h 60 0 15 = nI N) (hb : N ≤ 120) (h66 : h 66 0 s = nI w) (h9 : m 42 0 s = nI rm) (hw : w ≤ 20) (hrm : rm ≤ 20) (hc : N = 120 ∨ (b1 = 0 ∧ rm ≤ w ∧ b3 = 0)) (d : Nat) (μ : Mem) : EvE (M (d + (0 + 1))) 92 92 [some (.inr (3, 40, 0)), some (.inl (nI s)), some (.inl q), some (.inl raw), some (.inl x4), some (.inl b1), none, none, none, none] [.inl b3] (mm μ m h) (some (-2), mm μ m (mRef h s)) := by
  have v1 : vp_in (nI s) 6 := vp_in_nI (by omega) (by decide)
  have k1 : (nI s).toNatClampNeg = s := nI_cl (by omega)
  have fin : EvE (M (d + (0 + 1))) 92 134 [some (.inr (3, 40, 0)), some (.inl (nI s)), some (.inl q), some (.inl raw), some (.inl x4), some (.inl b1), some (.inl b3), none, none, none] [] (mm μ m h) (some (-2), mm μ m (mRef h s)) := by
    rw [B92_134]
    refine ⟨_, T_madd (t := 10) hs (by decide) rfl d μ, ?_⟩
    simp only [Nat.reduceAdd, ms4]
    rfl
  rw [B92_92]
  simp (disch := omega) only [Nat.reduceAdd, mm3, mm4, k1, hN, h66, h9, nI_lt']
  refine ⟨fun _ => fin, fun e => ?_⟩
  rcases hc with hc | ⟨c1, c2, c3⟩
  · exact absurd (by rw [hc]; rfl) e
  · exact ⟨fun e1 => absurd c1 e1, fun _ => ⟨v1, v1, fun e2 => absurd e2 (by omega), fun _ => ⟨fun e3 => absurd c3 e3, fun _ => fin⟩⟩⟩
theorem D92_in {C : Nat → List AV → Mem → Res → Prop} {μ : Mem} {res : Res} {m h : Rg} {s N w rm : Nat} {q raw x4 b1 b3 : Int32} (hs : s < 6) (hN : h 60 0 15 = nI N) (hb : N < 120) (h66 : h 66 0 s = nI w) (h9 : m 42 0 s = nI rm) (hw : w ≤ 20) (hrm : rm ≤ 20) (hc : ¬ b1 = 0 ∨ w < rm ∨ ¬ b3 = 0) (H : EvE C 92 152 [some (.inr (3, 40, 0)), some (.inl (nI s)), some (.inl q), some (.inl raw), some (.inl x4), some (.inl b1), some (.inl b3), none, none, none] [] (mm μ m h) res) : EvE C 92 92 [some (.inr (3, 40, 0)), some (.inl (nI s)), some (.inl q), some (.inl raw), some (.inl x4), some (.inl b1), none, none, none, none] [.inl b3] (mm μ m h) res := by
  have v1 : vp_in (nI s) 6 := vp_in_nI (by omega) (by decide)
  have k1 : (nI s).toNatClampNeg = s := nI_cl (by omega)
  rw [B92_92]
  simp (disch := omega) only [Nat.reduceAdd, mm3, mm4, k1, hN, h66, h9, nI_lt']
  refine ⟨fun e => absurd (nI_inj (b := 120) (by omega) (by decide) e) (by omega), fun _ => ⟨fun _ => H, fun e1 => ⟨v1, v1, fun _ => H, fun e2 => ⟨fun _ => H, fun e3 => ?_⟩⟩⟩⟩
  rcases hc with c | c | c
  · exact absurd c e1
  · exact absurd c e2
  · exact absurd c e3
theorem D152_G {C : Nat → List AV → Mem → Res → Prop} {μ : Mem} {res : Res} {m h : Rg} {s q N nn jj : Nat} {raw b1 b3 : Int32} (hN : h 60 0 15 = nI N) (hb : N < 120) (hnn : h 60 0 16 = nI nn) (hraw : raw < 0) (hj : jj < 100)
    (H : EvE C 92 320 [some (.inr (3, 40, 0)), some (.inl (nI s)), some (.inl (nI q)), some (.inl raw), some (.inl (nI jj)), some (.inl b1), some (.inl b3), some (.inl (nI nn)), some (.inl (nI N)), none] [] (mm μ m (cset (mAdd h N s q nn raw) 76 0 jj (nI nn))) res) : EvE C 92 152 [some (.inr (3, 40, 0)), some (.inl (nI s)), some (.inl (nI q)), some (.inl raw), some (.inl (nI jj)), some (.inl b1), some (.inl b3), none, none, none] [] (mm μ m h) res := by
  have v1 : vp_in (nI N) 120 := vp_in_nI (by omega) (by decide)
  have k1 : (nI N).toNatClampNeg = N := nI_cl (by omega)
  have v2 : vp_in (nI jj) 100 := vp_in_nI (by omega) (by decide)
  have k2 : (nI jj).toNatClampNeg = jj := nI_cl (by omega)
  rw [B92_152]
  simp (disch := omega) only [Nat.reduceAdd, mm4, ms4, hN, hnn, v1, k1, v2, k2, nI_1, true_and]
  exact ⟨fun _ => H, fun e => absurd hraw e⟩
theorem D152_J {k d : Nat} {μ : Mem} {res : Res} {m h : Rg} {s q N nn kk nr : Nat} {x4 b1 b3 : Int32} (hN : h 60 0 15 = nI N) (hb : N < 120) (hnn : h 60 0 16 = nI nn) (hnr : nr < 1073741824) (hkk : kk < N) (hn : h 67 0 kk = nI nr) (hu : ∀ i, i < kk → ¬ h 67 0 i = nI nr)
    (H : EvE (M (d + (k + 1))) 92 320 [some (.inr (3, 40, 0)), some (.inl (nI s)), some (.inl (nI q)), some (.inl (nI nr)), some (.inl x4), some (.inl b1), some (.inl b3), some (.inl (nI nn)), some (.inl (nI N)), none] [] (mm μ m (cset (mAdd h N s q nn (nI nr)) 74 0 kk (nI nn))) res) : EvE (M (d + (k + 1))) 92 152 [some (.inr (3, 40, 0)), some (.inl (nI s)), some (.inl (nI q)), some (.inl (nI nr)), some (.inl x4), some (.inl b1), some (.inl b3), none, none, none] [] (mm μ m h) res := by
  have v1 : vp_in (nI N) 120 := vp_in_nI (by omega) (by decide)
  have k1 : (nI N).toNatClampNeg = N := nI_cl (by omega)
  have v2 : vp_in (nI kk) 120 := vp_in_nI (by omega) (by decide)
  have k2 : (nI kk).toNatClampNeg = kk := nI_cl (by omega)
  have c0 : ¬ nI nr < 0 := nI_pos (by omega)
  have e67 : mAdd h N s q nn (nI nr) 67 0 = va_up (h 67 0) N (nI nn) := by
    unfold mAdd; simp (disch := decide) only [cs_a, cs_r]
  have e15 : mAdd h N s q nn (nI nr) 60 0 15 = nI (N + 1) := by
    unfold mAdd; simp (disch := decide) only [cs_a, cs_i, cs_s]
  have T := (T_placeOf (m := m) (h := mAdd h N s q nn (nI nr)) (n := nI nr) e15 (by omega) (show kk < N + 1 by omega) (by rw [e67, va_up_ne _ _ (show kk ≠ N by omega)]; exact hn) (fun i hi => by rw [e67, va_up_ne _ _ (show i ≠ N by omega)]; exact hu i hi)).mono (Nat.le_add_left 1 k) d μ
  rw [B92_152]
  simp (disch := omega) only [Nat.reduceAdd, mm4, ms4, hN, hnn, v1, k1, nI_1, true_and]
  refine ⟨fun e => absurd e c0, fun _ => ⟨_, _, T, v2, ?_⟩⟩
  rw [ms4, k2]
  exact H
theorem D320_work {m h h' : Rg} {s q : Nat} {raw x4 x8 n b1 b3 : Int32} (hb : ¬ b1 = 0) (hB : MX 2 90 [.inl n] m h none m h') (k d : Nat) (μ : Mem) : EvE (M (d + (k + 1 + 1))) 92 320 [some (.inr (3, 40, 0)), some (.inl (nI s)), some (.inl (nI q)), some (.inl raw), some (.inl x4), some (.inl b1), some (.inl b3), some (.inl n), some (.inl x8), none] [] (mm μ m h) (some n, mm μ m h') := by
  rw [B92_320]
  exact ⟨fun e => absurd e hb, fun _ => ⟨_, hB.mono (by omega) d μ, rfl⟩⟩
theorem D380 {m h : Rg} {s q w : Nat} {raw x4 x8 n b1 b3 x9 : Int32} {C : Nat → List AV → Mem → Res → Prop} {μ : Mem} {h' : Rg} (hs : s < 6) (h66 : h 66 0 s = nI w) (hw : w < 20) (H : x9 < 0 ∧ h' = cset (cset h 65 0 (20 * s + w) n) 66 0 s (nI (w + 1)) ∨ ¬ x9 < 0 ∧ C 93 [.inr (3, 40, 0), .inl x9] (mm μ m (cset (cset h 65 0 (20 * s + w) n) 66 0 s (nI (w + 1)))) (none, mm μ m h')) : EvE C 92 380 [some (.inr (3, 40, 0)), some (.inl (nI s)), some (.inl (nI q)), some (.inl raw), some (.inl x4), some (.inl b1), some (.inl b3), some (.inl n), some (.inl x8), some (.inl x9)] [] (mm μ m h) (some n, mm μ m h') := by
  have v1 : vp_in (nI s) 6 := vp_in_nI (by omega) (by decide)
  have k1 : (nI s).toNatClampNeg = s := nI_cl (by omega)
  have e0 : 20 * nI s + nI w = nI (20 * s + w) := ix_lin 20 rfl rfl
  have v0 : vp_in (nI (20 * s + w)) 120 := vp_in_nI (by omega) (by decide)
  have k0 : (nI (20 * s + w)).toNatClampNeg = 20 * s + w := nI_cl (by omega)
  rw [B92_380]
  simp (disch := omega) only [B92_428, Nat.reduceAdd, mm4, ms4, h66, v1, k1, e0, v0, k0, nI_1, true_and]
  rcases H with ⟨c, e⟩ | ⟨c, e⟩
  · exact ⟨fun _ => by rw [e], fun e => absurd c e⟩
  · exact ⟨fun e => absurd e c, fun _ => ⟨_, e, rfl⟩⟩
theorem D320_wait {m h : Rg} {s q w rm : Nat} {raw x4 x8 n b1 b3 : Int32} (hs : s < 6) (hb : b1 = 0) (h66 : h 66 0 s = nI w) (h9 : m 42 0 s = nI rm) (hw : w < rm) (hrm : rm ≤ 20) {C : Nat → List AV → Mem → Res → Prop} (μ : Mem) : EvE C 92 320 [some (.inr (3, 40, 0)), some (.inl (nI s)), some (.inl (nI q)), some (.inl raw), some (.inl x4), some (.inl b1), some (.inl b3), some (.inl n), some (.inl x8), none] [] (mm μ m h) (some n, mm μ m (cset (cset h 65 0 (20 * s + w) n) 66 0 s (nI (w + 1)))) := by
  have v1 : vp_in (nI s) 6 := vp_in_nI (by omega) (by decide)
  have k1 : (nI s).toNatClampNeg = s := nI_cl (by omega)
  rw [B92_320]
  simp (disch := omega) only [B92_368, Nat.reduceAdd, mm3, mm4, h66, h9, v1, k1, nI_lt', true_and]
  refine ⟨fun _ => ⟨fun _ => ⟨fun _ => D380 hs h66 (by omega) (Or.inl ⟨by decide, rfl⟩), fun e => absurd (by decide) e⟩, fun e => absurd hw e⟩, fun e => absurd hb e⟩
theorem D320_push {m h h1 h2 : Rg} {s q w rm k n0 : Nat} {raw x4 x8 n b1 b3 : Int32} (hs : s < 6) (hb : b1 = 0) (h66 : h 66 0 s = nI w) (h9 : m 42 0 s = nI rm) (hw : rm ≤ w) (hw20 : w ≤ 20) (hn0 : n0 < 1073741824) (h65 : h 65 0 (20 * s) = nI n0) (hL : MX 1 91 [.inl (nI s)] m h none m h1) (h66' : h1 66 0 s = nI (w - 1)) (hw0 : 0 < w) (hE : MX (k + 1) 93 [.inl (nI n0)] m (cset (cset h1 65 0 (20 * s + (w - 1)) n) 66 0 s (nI (w - 1 + 1))) none m h2) (d : Nat) (μ : Mem) : EvE (M (d + (k + 1))) 92 320 [some (.inr (3, 40, 0)), some (.inl (nI s)), some (.inl (nI q)), some (.inl raw), some (.inl x4), some (.inl b1), some (.inl b3), some (.inl n), some (.inl x8), none] [] (mm μ m h) (some n, mm μ m h2) := by
  have v1 : vp_in (nI s) 6 := vp_in_nI (by omega) (by decide)
  have k1 : (nI s).toNatClampNeg = s := nI_cl (by omega)
  have e0 : 20 * nI s = nI (20 * s) := by have := ix_lin (c := 20) (s := s) (t := 0) (x := 0) 20 rfl rfl; rw [Int32.add_zero] at this; exact this
  have v0 : vp_in (nI (20 * s)) 120 := vp_in_nI (by omega) (by decide)
  have k0 : (nI (20 * s)).toNatClampNeg = 20 * s := nI_cl (by omega)
  have c0 : ¬ nI n0 < 0 := nI_pos (by omega)
  rw [B92_320]
  simp (disch := omega) only [B92_368, Nat.reduceAdd, mm3, mm4, h66, h9, v1, k1, e0, v0, k0, h65, nI_lt', true_and]
  refine ⟨fun _ => ⟨fun e => absurd e (by omega), fun _ => ⟨fun e => absurd e c0, fun _ => ⟨_, hL.mono (by omega) d μ, D380 hs h66' (by omega) (Or.inr ⟨c0, hE d μ⟩)⟩⟩⟩, fun e => absurd hb e⟩
theorem T_mref {m h h3 h' : Rg} {N z s k : Nat} {n v : Int32} (hN : h 60 0 15 = nI N) (hb : N ≤ 120) (hz : z < N) (hn : h 67 0 z = n) (hu : ∀ i, i < z → ¬ h 67 0 i = n) (hs : s < 6) (h68 : h 68 0 z = nI s) (hO : MX 2 89 [.inl n] m (mRef h s) none m h3) (hT : MX (k + 2) 94 [.inl n, .inl (h 71 0 z), .inl 0] m h3 (some v) m h') : MX (k + 3) 93 [.inl n] m h none m h' := fun d μ => M93 (by
  have v0 : vp_in (nI z) 120 := vp_in_nI (by omega) (by decide)
  have k0 : (nI z).toNatClampNeg = z := nI_cl (by omega)
  refine ⟨_, _, (T_placeOf hN hb hz hn hu).mono (Nat.le_add_left 1 (k + 1)) d μ, v0, v0, ?_⟩
  simp only [Nat.reduceAdd, mm4, k0, h68]
  refine ⟨_, (T_madd hs (by decide) (show (10 : Int32) = nI 10 from rfl)).mono (Nat.le_add_left 1 (k + 1)) d μ, ?_⟩
  rw [ms4]
  exact ⟨_, hO.mono (by omega) d μ, _, _, hT d μ, rfl⟩)
