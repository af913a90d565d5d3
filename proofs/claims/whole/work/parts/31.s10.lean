/-! a job comes: both sides executed -/
theorem nI_eq0 {a : Nat} (ha : a < 2147483648) : (nI a = 0) = (a = 0) := propext ⟨fun e => nI_inj ha (by decide) e, fun e => by rw [e]; rfl⟩
def cRef (σ : Rg) (s : Nat) (x : Int32) : Rg := cset (cset (cset (cset σ 5 s 4 (σ 5 s 4 + 1)) 1 0 3 0) 1 0 11 x) 1 0 12 0
theorem C13_hit {σ : Rg} {s q ns : Nat} {X : Int32} (hs : s < ns) (hns : ns ≤ 6) (h1 : σ 1 0 1 = nI ns) (hq : q < 8) (hh : ¬ σ 6 s q < σ 1 0 2) : CX 2 13 1 0 [.inl (nI s), .inl (nI q), .inl X] σ none (cset (cset (cset σ 5 s 0 (σ 5 s 0 + 1)) 1 0 11 X) 1 0 12 1) := fun d μ r => M13 (by
  have v1 : vp_in (nI s) 6 := vp_in_nI (by omega) (by decide)
  have k1 : (nI s).toNatClampNeg = s := nI_cl (by omega)
  have c0 : ¬ nI s < 0 := nI_pos (by omega)
  have c1 : nI s < nI ns := nI_lt hs (by omega)
  refine ⟨fun e => absurd e c0, fun _ => ⟨fun _ => ⟨v1, ?_⟩, fun e => absurd (by rw [va_up_self, h1]; exact c1) e⟩⟩
  simp only [va_up_self, k1]
  refine ⟨_, _, T_hasAnswer hq d μ r, ?_⟩
  rw [if_neg hh]
  refine ⟨fun e => absurd e (by decide), fun _ => ?_⟩
  simp only [va_up_self, ms_up]
  exact ⟨_, T_answer (Or.inr rfl) d μ r, rfl⟩)
theorem C13_pre {σ σ' : Rg} {s q ns w u hd rm o k : Nat} {X : Int32} (hs : s < ns) (hns : ns ≤ 6) (h1 : σ 1 0 1 = nI ns) (hq : q < 8) (hh : σ 6 s q < σ 1 0 2) (h4 : σ 3 s 4 = nI w) (h5 : σ 3 s 5 = nI u) (h7 : σ 4 s 7 = nI hd) (h9 : σ 4 s 9 = nI rm) (h6 : σ 4 s 6 = nI o) (hw : w ≤ 20) (hu : u ≤ 120) (hhd : hd ≤ 9) (hrm : rm ≤ 20) (ho : o ≤ 1)
    (H : ∀ d μ r, EvE (M (d + (k + 1))) 13 125 [some (.inr (r, 1, 0)), some (.inl (nI s)), some (.inl (nI q)), some (.inl X), some (.inr (r, 3, s)), some (.inl (if u < hd ∧ w = 0 then 1 else 0)), some (.inl (if w < rm then 1 else 0)), none, none, none] [.inl (if 0 < o ∧ 0 < rm then 1 else 0)] (va_up μ r σ) (none, va_up μ r σ')) : CX (k + 2) 13 1 0 [.inl (nI s), .inl (nI q), .inl X] σ none σ' := fun d μ r => M13 (by
  have v1 : vp_in (nI s) 6 := vp_in_nI (by omega) (by decide)
  have k1 : (nI s).toNatClampNeg = s := nI_cl (by omega)
  have c0 : ¬ nI s < 0 := nI_pos (by omega)
  have c1 : nI s < nI ns := nI_lt hs (by omega)
  have H2 : EvE (M (d + (k + 1))) 13 73 [some (.inr (r, 1, 0)), some (.inl (nI s)), some (.inl (nI q)), some (.inl X), some (.inr (r, 3, s)), none, none, none, none, none] [.inl (if u < hd ∧ w = 0 then 1 else 0)] (va_up μ r σ) (none, va_up μ r σ') := by
    have H3 : EvE (M (d + (k + 1))) 13 96 [some (.inr (r, 1, 0)), some (.inl (nI s)), some (.inl (nI q)), some (.inl X), some (.inr (r, 3, s)), some (.inl (if u < hd ∧ w = 0 then 1 else 0)), none, none, none, none] [.inl (if w < rm then 1 else 0)] (va_up μ r σ) (none, va_up μ r σ') := by
      have HH := H d μ r
      rw [B13_96]
      have z0 : (nI rm ≤ 0) = (rm ≤ 0) := nI_le' (b := 0) (by omega) (by decide)
      simp (disch := omega) only [va_up_self, h6, h9, nI_eq0, z0]
      refine ⟨fun e => ?_, fun e => ⟨fun e2 => ?_, fun e2 => ?_⟩⟩
      · rw [B13_124]; rw [if_neg (show ¬ (0 < o ∧ 0 < rm) by omega)] at HH; exact HH
      · rw [B13_124]; rw [if_neg (show ¬ (0 < o ∧ 0 < rm) by omega)] at HH; exact HH
      · rw [if_pos (show (0 < o ∧ 0 < rm) by omega)] at HH; exact HH
    rw [B13_73]
    simp (disch := omega) only [va_up_self, h4, h9, nI_le']
    refine ⟨fun e => ?_, fun e => ?_⟩
    · rw [if_neg (show ¬ w < rm by omega)] at H3; exact H3
    · rw [if_pos (show w < rm by omega)] at H3; exact H3
  refine ⟨fun e => absurd e c0, fun _ => ⟨fun _ => ⟨v1, ?_⟩, fun e => absurd (by rw [va_up_self, h1]; exact c1) e⟩⟩
  simp only [va_up_self, k1]
  refine ⟨_, _, (T_hasAnswer hq).mono (by omega) d μ r, ?_⟩
  rw [if_pos hh]
  refine ⟨fun _ => ⟨_, _, T_free.mono (by omega) d μ r, ?_⟩, fun e => absurd rfl e⟩
  simp (disch := omega) only [va_up_self, h4, h5, h7, nI_le', nI_eq0, B13_72]
  by_cases e1 : hd ≤ u
  · rw [if_pos e1]
    refine ⟨fun _ => ?_, fun e => absurd rfl e⟩
    rw [if_neg (show ¬ (u < hd ∧ w = 0) by omega)] at H2; exact H2
  · rw [if_neg e1]
    refine ⟨fun e => absurd e (by decide), fun _ => ⟨fun e2 => ?_, fun e2 => ?_⟩⟩
    · rw [if_neg (show ¬ (u < hd ∧ w = 0) by omega)] at H2; exact H2
    · rw [if_pos (show (u < hd ∧ w = 0) by omega)] at H2; exact H2)
/-- from 125 on -/
theorem E13_no {σ : Rg} {s q : Nat} {X : Int32} (d : Nat) (μ : Mem) (r : Nat) : EvE (M (d + (1 + 1))) 13 125 [some (.inr (r, 1, 0)), some (.inl (nI s)), some (.inl (nI q)), some (.inl X), some (.inr (r, 3, s)), some (.inl 0), some (.inl 0), none, none, none] [.inl 0] (va_up μ r σ) (none, va_up μ r (cRef σ s X)) := by
  rw [B13_125]
  simp only [B13_156, not_true_eq_false, not_false_eq_true, true_and, and_true, false_implies, true_implies]
  exact ⟨_, T_refuse d μ r, rfl⟩
theorem E13_in {C : Nat → List AV → Mem → Res → Prop} {μ : Mem} {res : Res} {s q r : Nat} {X b1 b2 b3 : Int32} (hb : ¬ b1 = 0 ∨ ¬ b2 = 0 ∨ ¬ b3 = 0) (H : EvE C 13 142 [some (.inr (r, 1, 0)), some (.inl (nI s)), some (.inl (nI q)), some (.inl X), some (.inr (r, 3, s)), some (.inl b1), some (.inl b2), some (.inl b3), none, none] [] μ res) : EvE C 13 125 [some (.inr (r, 1, 0)), some (.inl (nI s)), some (.inl (nI q)), some (.inl X), some (.inr (r, 3, s)), some (.inl b1), some (.inl b2), none, none, none] [.inl b3] μ res := by
  rw [B13_125]
  refine ⟨fun _ => H, fun e1 => ⟨fun _ => H, fun e2 => ⟨fun e3 => ?_, fun _ => H⟩⟩⟩
  rcases hb with w | w | w
  · exact absurd w e1
  · exact absurd w e2
  · exact absurd e3 w
theorem E13_full {σ : Rg} {s q : Nat} {X b1 b2 b3 : Int32} (hb : ¬ b1 = 0 ∨ ¬ b2 = 0 ∨ ¬ b3 = 0) (hA : CX 2 24 8 0 [.inl (nI s), .inl (nI q), .inl X] σ (some (-1)) σ) (d : Nat) (μ : Mem) (r : Nat) : EvE (M (d + (1 + 1))) 13 125 [some (.inr (r, 1, 0)), some (.inl (nI s)), some (.inl (nI q)), some (.inl X), some (.inr (r, 3, s)), some (.inl b1), some (.inl b2), none, none, none] [.inl b3] (va_up μ r σ) (none, va_up μ r (cRef σ s X)) := E13_in hb (B13_142.mpr ⟨_, _, hA d μ r, B13_156.mpr ⟨fun e => absurd rfl e, fun _ => ⟨_, T_refuse d μ r, rfl⟩⟩⟩)
theorem E13_work {σ σ1 σ2 σ3 : Rg} {s q p : Nat} {X b1 b2 b3 : Int32} (hb : ¬ b1 = 0) (hp : p < 120) (hA : CX 2 24 8 0 [.inl (nI s), .inl (nI q), .inl X] σ (some (nI p)) σ1) (hS : CX 1 14 1 0 [.inl X, .inl (nI p)] σ1 none σ2) (hB : CX 2 16 1 0 [.inl (nI p)] σ2 none σ3) (d : Nat) (μ : Mem) (r : Nat) : EvE (M (d + (1 + 1))) 13 125 [some (.inr (r, 1, 0)), some (.inl (nI s)), some (.inl (nI q)), some (.inl X), some (.inr (r, 3, s)), some (.inl b1), some (.inl b2), none, none, none] [.inl b3] (va_up μ r σ) (none, va_up μ r σ3) := E13_in (Or.inl hb) (B13_142.mpr ⟨_, _, hA d μ r, B13_156.mpr ⟨fun _ => ⟨_, hS.mono (by decide) d μ r, fun e => absurd e hb, fun _ => ⟨_, hB d μ r, B13_253.mpr rfl⟩⟩, fun e => absurd (nI_m1 (by omega)) e⟩⟩)
theorem E13_wait {σ σ1 σ2 σ3 : Rg} {s q p : Nat} {X b1 b2 b3 : Int32} (hb1 : b1 = 0) (hb : ¬ b2 = 0) (hp : p < 120) (hA : CX 2 24 8 0 [.inl (nI s), .inl (nI q), .inl X] σ (some (nI p)) σ1) (hS : CX 1 14 1 0 [.inl X, .inl (nI p)] σ1 none σ2) (hB : CX 1 40 3 s [.inl (nI p)] σ2 none σ3) (d : Nat) (μ : Mem) (r : Nat) : EvE (M (d + (1 + 1))) 13 125 [some (.inr (r, 1, 0)), some (.inl (nI s)), some (.inl (nI q)), some (.inl X), some (.inr (r, 3, s)), some (.inl b1), some (.inl b2), none, none, none] [.inl b3] (va_up μ r σ) (none, va_up μ r σ3) := E13_in (Or.inr (Or.inl hb)) (B13_142.mpr ⟨_, _, hA d μ r, B13_156.mpr ⟨fun _ => ⟨_, hS.mono (by decide) d μ r, fun _ => ⟨fun e => absurd e hb, fun _ => ⟨_, hB.mono (by decide) d μ r, B13_253.mpr rfl⟩⟩, fun e => absurd hb1 e⟩, fun e => absurd (nI_m1 (by omega)) e⟩⟩)
theorem E13_push {σ σ1 σ2 σ3 σ4 σ5 : Rg} {s q p p0 : Nat} {X b1 b2 b3 : Int32} (hb1 : b1 = 0) (hb2 : b2 = 0) (hb : ¬ b3 = 0) (hp : p < 120) (hp0 : p0 < 120) (hA : CX 2 24 8 0 [.inl (nI s), .inl (nI q), .inl X] σ (some (nI p)) σ1) (hS : CX 1 14 1 0 [.inl X, .inl (nI p)] σ1 none σ2) (hT : CX 1 41 3 s [] σ2 (some (nI p0)) σ3) (hB : CX 1 40 3 s [.inl (nI p)] σ3 none σ4) (hE : CX 2 25 8 0 [.inl (nI p0)] (cRef σ4 s (σ4 16 0 p0)) none σ5) (d : Nat) (μ : Mem) (r : Nat) : EvE (M (d + (1 + 1))) 13 125 [some (.inr (r, 1, 0)), some (.inl (nI s)), some (.inl (nI q)), some (.inl X), some (.inr (r, 3, s)), some (.inl b1), some (.inl b2), none, none, none] [.inl b3] (va_up μ r σ) (none, va_up μ r σ5) := E13_in (Or.inr (Or.inr hb)) (B13_142.mpr ⟨_, _, hA d μ r, B13_156.mpr ⟨fun _ => ⟨_, hS.mono (by decide) d μ r, fun _ => ⟨fun _ => ⟨_, _, hT.mono (by decide) d μ r, _, hB.mono (by decide) d μ r, fun e => absurd e (nI_m1 (by omega)), fun _ => ⟨vp_in_nI hp0 (by decide), by
  rw [va_up_self, nI_cl (by omega)]
  exact ⟨_, T_refuse d μ r, _, hE d μ r, B13_253.mpr rfl⟩⟩⟩, fun e => absurd hb2 e⟩, fun e => absurd hb1 e⟩, fun e => absurd (nI_m1 (by omega)) e⟩⟩)
