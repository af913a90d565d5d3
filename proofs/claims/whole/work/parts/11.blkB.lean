/-! X8_copy -/
theorem B73_0 {C : Nat → List AV → Mem → Res → Prop} {μ : Mem} {res : Res} {r0 o0 r1 o1 : Nat} : EvE C 73 0 [some (.inr (r0, 60, o0)), some (.inr (r1, 60, o1)), none] [] μ res ↔ ((μ r1 60 o1 28) = 0 ∨ (μ r1 60 o1 28) = 1) ∧ EvE C 73 82 [some (.inr (r0, 60, o0)), some (.inr (r1, 60, o1)), some (.inl 0)] [] (mset (mset (mset (mset (mset (mset (mset (mset (mset (mset μ r0 60 o0 0 (μ r1 60 o1 0)) r0 60 o0 15 (μ r1 60 o1 15)) r0 60 o0 16 (μ r1 60 o1 16)) r0 60 o0 22 (μ r1 60 o1 22)) r0 60 o0 23 (μ r1 60 o1 23)) r0 60 o0 24 (μ r1 60 o1 24)) r0 60 o0 25 (μ r1 60 o1 25)) r0 60 o0 26 (μ r1 60 o1 26)) r0 60 o0 27 (μ r1 60 o1 27)) r0 60 o0 28 (μ r1 60 o1 28)) res := by
  refine (ev_aload_n dX8_copy_0 rfl).trans ?_
  refine (ev_aload_n dX8_copy_1 rfl).trans ?_
  refine (ev_getI2 dX8_copy_2 f_8_69 rfl (v := (μ r1 60 o1 0)) (rfl)).trans ((and_iff_right (by decide)).trans ?_)
  refine (ev_put dX8_copy_5 f_8_69 rfl (by decide)).trans ((and_iff_right (by decide)).trans ?_)
  refine (ev_aload_n dX8_copy_8 rfl).trans ?_
  refine (ev_aload_n dX8_copy_9 rfl).trans ?_
  refine (ev_getI2 dX8_copy_10 f_8_73 rfl (v := (μ r1 60 o1 15)) ((mget_i (by decide)).trans (rfl))).trans ((and_iff_right (by decide)).trans ?_)
  refine (ev_put dX8_copy_13 f_8_73 rfl (by decide)).trans ((and_iff_right (by decide)).trans ?_)
  refine (ev_aload_n dX8_copy_16 rfl).trans ?_
  refine (ev_aload_n dX8_copy_17 rfl).trans ?_
  refine (ev_getI2 dX8_copy_18 f_8_76 rfl (v := (μ r1 60 o1 16)) ((mget_i (by decide)).trans ((mget_i (by decide)).trans (rfl)))).trans ((and_iff_right (by decide)).trans ?_)
  refine (ev_put dX8_copy_21 f_8_76 rfl (by decide)).trans ((and_iff_right (by decide)).trans ?_)
  refine (ev_aload_n dX8_copy_24 rfl).trans ?_
  refine (ev_aload_n dX8_copy_25 rfl).trans ?_
  refine (ev_getI2 dX8_copy_26 f_8_79 rfl (v := (μ r1 60 o1 22)) ((mget_i (by decide)).trans ((mget_i (by decide)).trans ((mget_i (by decide)).trans (rfl))))).trans ((and_iff_right (by decide)).trans ?_)
  refine (ev_put dX8_copy_29 f_8_79 rfl (by decide)).trans ((and_iff_right (by decide)).trans ?_)
  refine (ev_aload_n dX8_copy_32 rfl).trans ?_
  refine (ev_aload_n dX8_copy_33 rfl).trans ?_
  refine (ev_getI2 dX8_copy_34 f_8_82 rfl (v := (μ r1 60 o1 23)) ((mget_i (by decide)).trans ((mget_i (by decide)).trans ((mget_i (by decide)).trans ((mget_i (by decide)).trans (rfl)))))).trans ((and_iff_right (by decide)).trans ?_)
  refine (ev_put dX8_copy_37 f_8_82 rfl (by decide)).trans ((and_iff_right (by decide)).trans ?_)
  refine (ev_aload_n dX8_copy_40 rfl).trans ?_
  refine (ev_aload_n dX8_copy_41 rfl).trans ?_
  refine (ev_getI2 dX8_copy_42 f_8_85 rfl (v := (μ r1 60 o1 24)) ((mget_i (by decide)).trans ((mget_i (by decide)).trans ((mget_i (by decide)).trans ((mget_i (by decide)).trans ((mget_i (by decide)).trans (rfl))))))).trans ((and_iff_right (by decide)).trans ?_)
  refine (ev_put dX8_copy_45 f_8_85 rfl (by decide)).trans ((and_iff_right (by decide)).trans ?_)
  refine (ev_aload_n dX8_copy_48 rfl).trans ?_
  refine (ev_aload_n dX8_copy_49 rfl).trans ?_
  refine (ev_getI2 dX8_copy_50 f_8_88 rfl (v := (μ r1 60 o1 25)) ((mget_i (by decide)).trans ((mget_i (by decide)).trans ((mget_i (by decide)).trans ((mget_i (by decide)).trans ((mget_i (by decide)).trans ((mget_i (by decide)).trans (rfl)))))))).trans ((and_iff_right (by decide)).trans ?_)
  refine (ev_put dX8_copy_53 f_8_88 rfl (by decide)).trans ((and_iff_right (by decide)).trans ?_)
  refine (ev_aload_n dX8_copy_56 rfl).trans ?_
  refine (ev_aload_n dX8_copy_57 rfl).trans ?_
  refine (ev_getI2 dX8_copy_58 f_8_91 rfl (v := (μ r1 60 o1 26)) ((mget_i (by decide)).trans ((mget_i (by decide)).trans ((mget_i (by decide)).trans ((mget_i (by decide)).trans ((mget_i (by decide)).trans ((mget_i (by decide)).trans ((mget_i (by decide)).trans (rfl))))))))).trans ((and_iff_right (by decide)).trans ?_)
  refine (ev_put dX8_copy_61 f_8_91 rfl (by decide)).trans ((and_iff_right (by decide)).trans ?_)
  refine (ev_aload_n dX8_copy_64 rfl).trans ?_
  refine (ev_aload_n dX8_copy_65 rfl).trans ?_
  refine (ev_getI2 dX8_copy_66 f_8_94 rfl (v := (μ r1 60 o1 27)) ((mget_i (by decide)).trans ((mget_i (by decide)).trans ((mget_i (by decide)).trans ((mget_i (by decide)).trans ((mget_i (by decide)).trans ((mget_i (by decide)).trans ((mget_i (by decide)).trans ((mget_i (by decide)).trans (rfl)))))))))).trans ((and_iff_right (by decide)).trans ?_)
  refine (ev_put dX8_copy_69 f_8_94 rfl (by decide)).trans ((and_iff_right (by decide)).trans ?_)
  refine (ev_aload_n dX8_copy_72 rfl).trans ?_
  refine (ev_aload_n dX8_copy_73 rfl).trans ?_
  refine (ev_getI2 dX8_copy_74 f_8_97 rfl (v := (μ r1 60 o1 28)) ((mget_i (by decide)).trans ((mget_i (by decide)).trans ((mget_i (by decide)).trans ((mget_i (by decide)).trans ((mget_i (by decide)).trans ((mget_i (by decide)).trans ((mget_i (by decide)).trans ((mget_i (by decide)).trans ((mget_i (by decide)).trans (rfl))))))))))).trans ((and_iff_right (by decide)).trans ?_)
  refine (ev_putZ dX8_copy_77 f_8_97 rfl (by decide)).trans (and_congr (and_iff_right (by decide)) ?_)
  refine (ev_iconst dX8_copy_80 (w := 0) (by decide)).trans ?_
  refine (ev_istore_n dX8_copy_81 (Nat.le_of_ble_eq_true rfl) rfl).trans ?_
  exact Iff.rfl
theorem B73_82 {C : Nat → List AV → Mem → Res → Prop} {μ : Mem} {res : Res} {x2 : Int32} {r0 o0 r1 o1 : Nat} : EvE C 73 82 [some (.inr (r0, 60, o0)), some (.inr (r1, 60, o1)), some (.inl x2)] [] μ res ↔ ((6 ≤ x2 → EvE C 73 132 [some (.inr (r0, 60, o0)), some (.inr (r1, 60, o1)), some (.inl 0)] [] μ res) ∧ (¬ (6 ≤ x2) → vp_in x2 6 ∧ vp_in x2 6 ∧ vp_in x2 6 ∧ vp_in x2 6 ∧ vp_in x2 6 ∧ vp_in x2 6 ∧ EvE C 73 82 [some (.inr (r0, 60, o0)), some (.inr (r1, 60, o1)), some (.inl (x2 + 1))] [] (mset (mset (mset μ r0 61 o0 x2.toNatClampNeg (μ r1 61 o1 x2.toNatClampNeg)) r0 62 o0 x2.toNatClampNeg (μ r1 62 o1 x2.toNatClampNeg)) r0 66 o0 x2.toNatClampNeg (μ r1 66 o1 x2.toNatClampNeg)) res)) := by
  refine (ev_iload_n dX8_copy_82 rfl).trans ?_
  refine (ev_bipush dX8_copy_83 (w := 6) (by decide)).trans ?_
  refine (ev_icmp dX8_copy_85 (t := 130) (by decide)).trans (and_congr (imp_congr Iff.rfl ?_) (imp_congr Iff.rfl ?_))
  · refine (ev_iconst dX8_copy_130 (w := 0) (by decide)).trans ?_
    refine (ev_istore_n dX8_copy_131 (Nat.le_of_ble_eq_true rfl) rfl).trans ?_
    exact Iff.rfl
  · refine (ev_aload_n dX8_copy_88 rfl).trans ?_
    refine (ev_getR dX8_copy_89 f_8_9 rfl).trans ((and_iff_right (by decide)).trans ?_)
    refine (ev_iload_n dX8_copy_92 rfl).trans ?_
    refine (ev_aload_n dX8_copy_93 rfl).trans ?_
    refine (ev_getR dX8_copy_94 f_8_9 rfl).trans ((and_iff_right (by decide)).trans ?_)
    refine (ev_iload_n dX8_copy_97 rfl).trans ?_
    refine (ev_iald2 dX8_copy_98 (by decide) (v := (μ r1 61 o1 x2.toNatClampNeg)) (rfl)).trans (and_congr_right fun _ => ?_)
    refine (ev_iast dX8_copy_99 (by decide)).trans (and_congr_right fun _ => ?_)
    refine (ev_aload_n dX8_copy_100 rfl).trans ?_
    refine (ev_getR dX8_copy_101 f_8_15 rfl).trans ((and_iff_right (by decide)).trans ?_)
    refine (ev_iload_n dX8_copy_104 rfl).trans ?_
    refine (ev_aload_n dX8_copy_105 rfl).trans ?_
    refine (ev_getR dX8_copy_106 f_8_15 rfl).trans ((and_iff_right (by decide)).trans ?_)
    refine (ev_iload_n dX8_copy_109 rfl).trans ?_
    refine (ev_iald2 dX8_copy_110 (by decide) (v := (μ r1 62 o1 x2.toNatClampNeg)) ((mget_a (by decide)).trans (rfl))).trans (and_congr_right fun _ => ?_)
    refine (ev_iast dX8_copy_111 (by decide)).trans (and_congr_right fun _ => ?_)
    refine (ev_aload_n dX8_copy_112 rfl).trans ?_
    refine (ev_getR dX8_copy_113 f_8_27 rfl).trans ((and_iff_right (by decide)).trans ?_)
    refine (ev_iload_n dX8_copy_116 rfl).trans ?_
    refine (ev_aload_n dX8_copy_117 rfl).trans ?_
    refine (ev_getR dX8_copy_118 f_8_27 rfl).trans ((and_iff_right (by decide)).trans ?_)
    refine (ev_iload_n dX8_copy_121 rfl).trans ?_
    refine (ev_iald2 dX8_copy_122 (by decide) (v := (μ r1 66 o1 x2.toNatClampNeg)) ((mget_a (by decide)).trans ((mget_a (by decide)).trans (rfl)))).trans (and_congr_right fun _ => ?_)
    refine (ev_iast dX8_copy_123 (by decide)).trans (and_congr_right fun _ => ?_)
    refine (ev_iinc dX8_copy_124 rfl (w := 1) (by decide) rfl).trans ?_
    refine (ev_goto dX8_copy_127 (t := 82) (by decide)).trans ?_
    exact Iff.rfl
theorem B73_132 {C : Nat → List AV → Mem → Res → Prop} {μ : Mem} {res : Res} {x2 : Int32} {r0 o0 r1 o1 : Nat} : EvE C 73 132 [some (.inr (r0, 60, o0)), some (.inr (r1, 60, o1)), some (.inl x2)] [] μ res ↔ ((78 ≤ x2 → EvE C 73 158 [some (.inr (r0, 60, o0)), some (.inr (r1, 60, o1)), some (.inl 0)] [] μ res) ∧ (¬ (78 ≤ x2) → vp_in x2 78 ∧ vp_in x2 78 ∧ EvE C 73 132 [some (.inr (r0, 60, o0)), some (.inr (r1, 60, o1)), some (.inl (x2 + 1))] [] (mset μ r0 63 o0 x2.toNatClampNeg (μ r1 63 o1 x2.toNatClampNeg)) res)) := by
  refine (ev_iload_n dX8_copy_132 rfl).trans ?_
  refine (ev_bipush dX8_copy_133 (w := 78) (by decide)).trans ?_
  refine (ev_icmp dX8_copy_135 (t := 156) (by decide)).trans (and_congr (imp_congr Iff.rfl ?_) (imp_congr Iff.rfl ?_))
  · refine (ev_iconst dX8_copy_156 (w := 0) (by decide)).trans ?_
    refine (ev_istore_n dX8_copy_157 (Nat.le_of_ble_eq_true rfl) rfl).trans ?_
    exact Iff.rfl
  · refine (ev_aload_n dX8_copy_138 rfl).trans ?_
    refine (ev_getR dX8_copy_139 f_8_18 rfl).trans ((and_iff_right (by decide)).trans ?_)
    refine (ev_iload_n dX8_copy_142 rfl).trans ?_
    refine (ev_aload_n dX8_copy_143 rfl).trans ?_
    refine (ev_getR dX8_copy_144 f_8_18 rfl).trans ((and_iff_right (by decide)).trans ?_)
    refine (ev_iload_n dX8_copy_147 rfl).trans ?_
    refine (ev_iald2 dX8_copy_148 (by decide) (v := (μ r1 63 o1 x2.toNatClampNeg)) (rfl)).trans (and_congr_right fun _ => ?_)
    refine (ev_iast dX8_copy_149 (by decide)).trans (and_congr_right fun _ => ?_)
    refine (ev_iinc dX8_copy_150 rfl (w := 1) (by decide) rfl).trans ?_
    refine (ev_goto dX8_copy_153 (t := 132) (by decide)).trans ?_
    exact Iff.rfl
theorem B73_158 {C : Nat → List AV → Mem → Res → Prop} {μ : Mem} {res : Res} {x2 : Int32} {r0 o0 r1 o1 : Nat} : EvE C 73 158 [some (.inr (r0, 60, o0)), some (.inr (r1, 60, o1)), some (.inl x2)] [] μ res ↔ ((48 ≤ x2 → EvE C 73 184 [some (.inr (r0, 60, o0)), some (.inr (r1, 60, o1)), some (.inl 0)] [] μ res) ∧ (¬ (48 ≤ x2) → vp_in x2 48 ∧ vp_in x2 48 ∧ EvE C 73 158 [some (.inr (r0, 60, o0)), some (.inr (r1, 60, o1)), some (.inl (x2 + 1))] [] (mset μ r0 64 o0 x2.toNatClampNeg (μ r1 64 o1 x2.toNatClampNeg)) res)) := by
  refine (ev_iload_n dX8_copy_158 rfl).trans ?_
  refine (ev_bipush dX8_copy_159 (w := 48) (by decide)).trans ?_
  refine (ev_icmp dX8_copy_161 (t := 182) (by decide)).trans (and_congr (imp_congr Iff.rfl ?_) (imp_congr Iff.rfl ?_))
  · refine (ev_iconst dX8_copy_182 (w := 0) (by decide)).trans ?_
    refine (ev_istore_n dX8_copy_183 (Nat.le_of_ble_eq_true rfl) rfl).trans ?_
    exact Iff.rfl
  · refine (ev_aload_n dX8_copy_164 rfl).trans ?_
    refine (ev_getR dX8_copy_165 f_8_21 rfl).trans ((and_iff_right (by decide)).trans ?_)
    refine (ev_iload_n dX8_copy_168 rfl).trans ?_
    refine (ev_aload_n dX8_copy_169 rfl).trans ?_
    refine (ev_getR dX8_copy_170 f_8_21 rfl).trans ((and_iff_right (by decide)).trans ?_)
    refine (ev_iload_n dX8_copy_173 rfl).trans ?_
    refine (ev_iald2 dX8_copy_174 (by decide) (v := (μ r1 64 o1 x2.toNatClampNeg)) (rfl)).trans (and_congr_right fun _ => ?_)
    refine (ev_iast dX8_copy_175 (by decide)).trans (and_congr_right fun _ => ?_)
    refine (ev_iinc dX8_copy_176 rfl (w := 1) (by decide) rfl).trans ?_
    refine (ev_goto dX8_copy_179 (t := 158) (by decide)).trans ?_
    exact Iff.rfl
theorem B73_184 {C : Nat → List AV → Mem → Res → Prop} {μ : Mem} {res : Res} {x2 : Int32} {r0 o0 r1 o1 : Nat} : EvE C 73 184 [some (.inr (r0, 60, o0)), some (.inr (r1, 60, o1)), some (.inl x2)] [] μ res ↔ ((120 ≤ x2 → EvE C 73 210 [some (.inr (r0, 60, o0)), some (.inr (r1, 60, o1)), some (.inl 0)] [] μ res) ∧ (¬ (120 ≤ x2) → vp_in x2 120 ∧ vp_in x2 120 ∧ EvE C 73 184 [some (.inr (r0, 60, o0)), some (.inr (r1, 60, o1)), some (.inl (x2 + 1))] [] (mset μ r0 65 o0 x2.toNatClampNeg (μ r1 65 o1 x2.toNatClampNeg)) res)) := by
  refine (ev_iload_n dX8_copy_184 rfl).trans ?_
  refine (ev_bipush dX8_copy_185 (w := 120) (by decide)).trans ?_
  refine (ev_icmp dX8_copy_187 (t := 208) (by decide)).trans (and_congr (imp_congr Iff.rfl ?_) (imp_congr Iff.rfl ?_))
  · refine (ev_iconst dX8_copy_208 (w := 0) (by decide)).trans ?_
    refine (ev_istore_n dX8_copy_209 (Nat.le_of_ble_eq_true rfl) rfl).trans ?_
    exact Iff.rfl
  · refine (ev_aload_n dX8_copy_190 rfl).trans ?_
    refine (ev_getR dX8_copy_191 f_8_24 rfl).trans ((and_iff_right (by decide)).trans ?_)
    refine (ev_iload_n dX8_copy_194 rfl).trans ?_
    refine (ev_aload_n dX8_copy_195 rfl).trans ?_
    refine (ev_getR dX8_copy_196 f_8_24 rfl).trans ((and_iff_right (by decide)).trans ?_)
    refine (ev_iload_n dX8_copy_199 rfl).trans ?_
    refine (ev_iald2 dX8_copy_200 (by decide) (v := (μ r1 65 o1 x2.toNatClampNeg)) (rfl)).trans (and_congr_right fun _ => ?_)
    refine (ev_iast dX8_copy_201 (by decide)).trans (and_congr_right fun _ => ?_)
    refine (ev_iinc dX8_copy_202 rfl (w := 1) (by decide) rfl).trans ?_
    refine (ev_goto dX8_copy_205 (t := 184) (by decide)).trans ?_
    exact Iff.rfl
theorem B73_210 {C : Nat → List AV → Mem → Res → Prop} {μ : Mem} {res : Res} {x2 : Int32} {r0 o0 r1 o1 : Nat} : EvE C 73 210 [some (.inr (r0, 60, o0)), some (.inr (r1, 60, o1)), some (.inl x2)] [] μ res ↔ (((μ r1 60 o1 15) ≤ x2 → EvE C 73 322 [some (.inr (r0, 60, o0)), some (.inr (r1, 60, o1)), some (.inl 0)] [] μ res) ∧ (¬ ((μ r1 60 o1 15) ≤ x2) → vp_in x2 120 ∧ vp_in x2 120 ∧ vp_in x2 120 ∧ vp_in x2 120 ∧ vp_in x2 120 ∧ vp_in x2 120 ∧ vp_in x2 120 ∧ vp_in x2 120 ∧ vp_in x2 120 ∧ vp_in x2 120 ∧ vp_in x2 120 ∧ vp_in x2 120 ∧ vp_in x2 120 ∧ vp_in x2 120 ∧ vp_in x2 120 ∧ vp_in x2 120 ∧ EvE C 73 210 [some (.inr (r0, 60, o0)), some (.inr (r1, 60, o1)), some (.inl (x2 + 1))] [] (mset (mset (mset (mset (mset (mset (mset (mset μ r0 67 o0 x2.toNatClampNeg (μ r1 67 o1 x2.toNatClampNeg)) r0 68 o0 x2.toNatClampNeg (μ r1 68 o1 x2.toNatClampNeg)) r0 69 o0 x2.toNatClampNeg (μ r1 69 o1 x2.toNatClampNeg)) r0 70 o0 x2.toNatClampNeg (μ r1 70 o1 x2.toNatClampNeg)) r0 71 o0 x2.toNatClampNeg (μ r1 71 o1 x2.toNatClampNeg)) r0 72 o0 x2.toNatClampNeg (μ r1 72 o1 x2.toNatClampNeg)) r0 73 o0 x2.toNatClampNeg (μ r1 73 o1 x2.toNatClampNeg)) r0 74 o0 x2.toNatClampNeg (μ r1 74 o1 x2.toNatClampNeg)) res)) := by
  refine (ev_iload_n dX8_copy_210 rfl).trans ?_
  refine (ev_aload_n dX8_copy_211 rfl).trans ?_
  refine (ev_getI2 dX8_copy_212 f_8_73 rfl (v := (μ r1 60 o1 15)) (rfl)).trans ((and_iff_right (by decide)).trans ?_)
  refine (ev_icmp dX8_copy_215 (t := 320) (by decide)).trans (and_congr (imp_congr Iff.rfl ?_) (imp_congr Iff.rfl ?_))
  · refine (ev_iconst dX8_copy_320 (w := 0) (by decide)).trans ?_
    refine (ev_istore_n dX8_copy_321 (Nat.le_of_ble_eq_true rfl) rfl).trans ?_
    exact Iff.rfl
  · refine (ev_aload_n dX8_copy_218 rfl).trans ?_
    refine (ev_getR dX8_copy_219 f_8_30 rfl).trans ((and_iff_right (by decide)).trans ?_)
    refine (ev_iload_n dX8_copy_222 rfl).trans ?_
    refine (ev_aload_n dX8_copy_223 rfl).trans ?_
    refine (ev_getR dX8_copy_224 f_8_30 rfl).trans ((and_iff_right (by decide)).trans ?_)
    refine (ev_iload_n dX8_copy_227 rfl).trans ?_
    refine (ev_iald2 dX8_copy_228 (by decide) (v := (μ r1 67 o1 x2.toNatClampNeg)) (rfl)).trans (and_congr_right fun _ => ?_)
    refine (ev_iast dX8_copy_229 (by decide)).trans (and_congr_right fun _ => ?_)
    refine (ev_aload_n dX8_copy_230 rfl).trans ?_
    refine (ev_getR dX8_copy_231 f_8_33 rfl).trans ((and_iff_right (by decide)).trans ?_)
    refine (ev_iload_n dX8_copy_234 rfl).trans ?_
    refine (ev_aload_n dX8_copy_235 rfl).trans ?_
    refine (ev_getR dX8_copy_236 f_8_33 rfl).trans ((and_iff_right (by decide)).trans ?_)
    refine (ev_iload_n dX8_copy_239 rfl).trans ?_
    refine (ev_iald2 dX8_copy_240 (by decide) (v := (μ r1 68 o1 x2.toNatClampNeg)) ((mget_a (by decide)).trans (rfl))).trans (and_congr_right fun _ => ?_)
    refine (ev_iast dX8_copy_241 (by decide)).trans (and_congr_right fun _ => ?_)
    refine (ev_aload_n dX8_copy_242 rfl).trans ?_
    refine (ev_getR dX8_copy_243 f_8_36 rfl).trans ((and_iff_right (by decide)).trans ?_)
    refine (ev_iload_n dX8_copy_246 rfl).trans ?_
    refine (ev_aload_n dX8_copy_247 rfl).trans ?_
    refine (ev_getR dX8_copy_248 f_8_36 rfl).trans ((and_iff_right (by decide)).trans ?_)
    refine (ev_iload_n dX8_copy_251 rfl).trans ?_
    refine (ev_iald2 dX8_copy_252 (by decide) (v := (μ r1 69 o1 x2.toNatClampNeg)) ((mget_a (by decide)).trans ((mget_a (by decide)).trans (rfl)))).trans (and_congr_right fun _ => ?_)
    refine (ev_iast dX8_copy_253 (by decide)).trans (and_congr_right fun _ => ?_)
    refine (ev_aload_n dX8_copy_254 rfl).trans ?_
    refine (ev_getR dX8_copy_255 f_8_39 rfl).trans ((and_iff_right (by decide)).trans ?_)
    refine (ev_iload_n dX8_copy_258 rfl).trans ?_
    refine (ev_aload_n dX8_copy_259 rfl).trans ?_
    refine (ev_getR dX8_copy_260 f_8_39 rfl).trans ((and_iff_right (by decide)).trans ?_)
    refine (ev_iload_n dX8_copy_263 rfl).trans ?_
    refine (ev_iald2 dX8_copy_264 (by decide) (v := (μ r1 70 o1 x2.toNatClampNeg)) ((mget_a (by decide)).trans ((mget_a (by decide)).trans ((mget_a (by decide)).trans (rfl))))).trans (and_congr_right fun _ => ?_)
    refine (ev_iast dX8_copy_265 (by decide)).trans (and_congr_right fun _ => ?_)
    refine (ev_aload_n dX8_copy_266 rfl).trans ?_
    refine (ev_getR dX8_copy_267 f_8_42 rfl).trans ((and_iff_right (by decide)).trans ?_)
    refine (ev_iload_n dX8_copy_270 rfl).trans ?_
    refine (ev_aload_n dX8_copy_271 rfl).trans ?_
    refine (ev_getR dX8_copy_272 f_8_42 rfl).trans ((and_iff_right (by decide)).trans ?_)
    refine (ev_iload_n dX8_copy_275 rfl).trans ?_
    refine (ev_iald2 dX8_copy_276 (by decide) (v := (μ r1 71 o1 x2.toNatClampNeg)) ((mget_a (by decide)).trans ((mget_a (by decide)).trans ((mget_a (by decide)).trans ((mget_a (by decide)).trans (rfl)))))).trans (and_congr_right fun _ => ?_)
    refine (ev_iast dX8_copy_277 (by decide)).trans (and_congr_right fun _ => ?_)
    refine (ev_aload_n dX8_copy_278 rfl).trans ?_
    refine (ev_getR dX8_copy_279 f_8_45 rfl).trans ((and_iff_right (by decide)).trans ?_)
    refine (ev_iload_n dX8_copy_282 rfl).trans ?_
    refine (ev_aload_n dX8_copy_283 rfl).trans ?_
    refine (ev_getR dX8_copy_284 f_8_45 rfl).trans ((and_iff_right (by decide)).trans ?_)
    refine (ev_iload_n dX8_copy_287 rfl).trans ?_
    refine (ev_iald2 dX8_copy_288 (by decide) (v := (μ r1 72 o1 x2.toNatClampNeg)) ((mget_a (by decide)).trans ((mget_a (by decide)).trans ((mget_a (by decide)).trans ((mget_a (by decide)).trans ((mget_a (by decide)).trans (rfl))))))).trans (and_congr_right fun _ => ?_)
    refine (ev_iast dX8_copy_289 (by decide)).trans (and_congr_right fun _ => ?_)
    refine (ev_aload_n dX8_copy_290 rfl).trans ?_
    refine (ev_getR dX8_copy_291 f_8_48 rfl).trans ((and_iff_right (by decide)).trans ?_)
    refine (ev_iload_n dX8_copy_294 rfl).trans ?_
    refine (ev_aload_n dX8_copy_295 rfl).trans ?_
    refine (ev_getR dX8_copy_296 f_8_48 rfl).trans ((and_iff_right (by decide)).trans ?_)
    refine (ev_iload_n dX8_copy_299 rfl).trans ?_
    refine (ev_iald2 dX8_copy_300 (by decide) (v := (μ r1 73 o1 x2.toNatClampNeg)) ((mget_a (by decide)).trans ((mget_a (by decide)).trans ((mget_a (by decide)).trans ((mget_a (by decide)).trans ((mget_a (by decide)).trans ((mget_a (by decide)).trans (rfl)))))))).trans (and_congr_right fun _ => ?_)
    refine (ev_iast dX8_copy_301 (by decide)).trans (and_congr_right fun _ => ?_)
    refine (ev_aload_n dX8_copy_302 rfl).trans ?_
    refine (ev_getR dX8_copy_303 f_8_51 rfl).trans ((and_iff_right (by decide)).trans ?_)
    refine (ev_iload_n dX8_copy_306 rfl).trans ?_
    refine (ev_aload_n dX8_copy_307 rfl).trans ?_
    refine (ev_getR dX8_copy_308 f_8_51 rfl).trans ((and_iff_right (by decide)).trans ?_)
    refine (ev_iload_n dX8_copy_311 rfl).trans ?_
    refine (ev_iald2 dX8_copy_312 (by decide) (v := (μ r1 74 o1 x2.toNatClampNeg)) ((mget_a (by decide)).trans ((mget_a (by decide)).trans ((mget_a (by decide)).trans ((mget_a (by decide)).trans ((mget_a (by decide)).trans ((mget_a (by decide)).trans ((mget_a (by decide)).trans (rfl))))))))).trans (and_congr_right fun _ => ?_)
    refine (ev_iast dX8_copy_313 (by decide)).trans (and_congr_right fun _ => ?_)
    refine (ev_iinc dX8_copy_314 rfl (w := 1) (by decide) rfl).trans ?_
    refine (ev_goto dX8_copy_317 (t := 210) (by decide)).trans ?_
    exact Iff.rfl
theorem B73_322 {C : Nat → List AV → Mem → Res → Prop} {μ : Mem} {res : Res} {x2 : Int32} {r0 o0 r1 o1 : Nat} : EvE C 73 322 [some (.inr (r0, 60, o0)), some (.inr (r1, 60, o1)), some (.inl x2)] [] μ res ↔ (((μ r1 60 o1 22) ≤ x2 → res = (none, μ)) ∧ (¬ ((μ r1 60 o1 22) ≤ x2) → vp_in x2 100 ∧ vp_in x2 100 ∧ vp_in x2 100 ∧ vp_in x2 100 ∧ vp_in x2 100 ∧ vp_in x2 100 ∧ vp_in x2 100 ∧ vp_in x2 100 ∧ vp_in x2 100 ∧ vp_in x2 100 ∧ EvE C 73 322 [some (.inr (r0, 60, o0)), some (.inr (r1, 60, o1)), some (.inl (x2 + 1))] [] (mset (mset (mset (mset (mset μ r0 75 o0 x2.toNatClampNeg (μ r1 75 o1 x2.toNatClampNeg)) r0 76 o0 x2.toNatClampNeg (μ r1 76 o1 x2.toNatClampNeg)) r0 77 o0 x2.toNatClampNeg (μ r1 77 o1 x2.toNatClampNeg)) r0 78 o0 x2.toNatClampNeg (μ r1 78 o1 x2.toNatClampNeg)) r0 79 o0 x2.toNatClampNeg (μ r1 79 o1 x2.toNatClampNeg)) res)) := by
  refine (ev_iload_n dX8_copy_322 rfl).trans ?_
  refine (ev_aload_n dX8_copy_323 rfl).trans ?_
  refine (ev_getI2 dX8_copy_324 f_8_79 rfl (v := (μ r1 60 o1 22)) (rfl)).trans ((and_iff_right (by decide)).trans ?_)
  refine (ev_icmp dX8_copy_327 (t := 396) (by decide)).trans (and_congr (imp_congr Iff.rfl ?_) (imp_congr Iff.rfl ?_))
  · exact ev_return dX8_copy_396 rfl
  · refine (ev_aload_n dX8_copy_330 rfl).trans ?_
    refine (ev_getR dX8_copy_331 f_8_54 rfl).trans ((and_iff_right (by decide)).trans ?_)
    refine (ev_iload_n dX8_copy_334 rfl).trans ?_
    refine (ev_aload_n dX8_copy_335 rfl).trans ?_
    refine (ev_getR dX8_copy_336 f_8_54 rfl).trans ((and_iff_right (by decide)).trans ?_)
    refine (ev_iload_n dX8_copy_339 rfl).trans ?_
    refine (ev_iald2 dX8_copy_340 (by decide) (v := (μ r1 75 o1 x2.toNatClampNeg)) (rfl)).trans (and_congr_right fun _ => ?_)
    refine (ev_iast dX8_copy_341 (by decide)).trans (and_congr_right fun _ => ?_)
    refine (ev_aload_n dX8_copy_342 rfl).trans ?_
    refine (ev_getR dX8_copy_343 f_8_57 rfl).trans ((and_iff_right (by decide)).trans ?_)
    refine (ev_iload_n dX8_copy_346 rfl).trans ?_
    refine (ev_aload_n dX8_copy_347 rfl).trans ?_
    refine (ev_getR dX8_copy_348 f_8_57 rfl).trans ((and_iff_right (by decide)).trans ?_)
    refine (ev_iload_n dX8_copy_351 rfl).trans ?_
    refine (ev_iald2 dX8_copy_352 (by decide) (v := (μ r1 76 o1 x2.toNatClampNeg)) ((mget_a (by decide)).trans (rfl))).trans (and_congr_right fun _ => ?_)
    refine (ev_iast dX8_copy_353 (by decide)).trans (and_congr_right fun _ => ?_)
    refine (ev_aload_n dX8_copy_354 rfl).trans ?_
    refine (ev_getR dX8_copy_355 f_8_60 rfl).trans ((and_iff_right (by decide)).trans ?_)
    refine (ev_iload_n dX8_copy_358 rfl).trans ?_
    refine (ev_aload_n dX8_copy_359 rfl).trans ?_
    refine (ev_getR dX8_copy_360 f_8_60 rfl).trans ((and_iff_right (by decide)).trans ?_)
    refine (ev_iload_n dX8_copy_363 rfl).trans ?_
    refine (ev_iald2 dX8_copy_364 (by decide) (v := (μ r1 77 o1 x2.toNatClampNeg)) ((mget_a (by decide)).trans ((mget_a (by decide)).trans (rfl)))).trans (and_congr_right fun _ => ?_)
    refine (ev_iast dX8_copy_365 (by decide)).trans (and_congr_right fun _ => ?_)
    refine (ev_aload_n dX8_copy_366 rfl).trans ?_
    refine (ev_getR dX8_copy_367 f_8_63 rfl).trans ((and_iff_right (by decide)).trans ?_)
    refine (ev_iload_n dX8_copy_370 rfl).trans ?_
    refine (ev_aload_n dX8_copy_371 rfl).trans ?_
    refine (ev_getR dX8_copy_372 f_8_63 rfl).trans ((and_iff_right (by decide)).trans ?_)
    refine (ev_iload_n dX8_copy_375 rfl).trans ?_
    refine (ev_iald2 dX8_copy_376 (by decide) (v := (μ r1 78 o1 x2.toNatClampNeg)) ((mget_a (by decide)).trans ((mget_a (by decide)).trans ((mget_a (by decide)).trans (rfl))))).trans (and_congr_right fun _ => ?_)
    refine (ev_iast dX8_copy_377 (by decide)).trans (and_congr_right fun _ => ?_)
    refine (ev_aload_n dX8_copy_378 rfl).trans ?_
    refine (ev_getR dX8_copy_379 f_8_66 rfl).trans ((and_iff_right (by decide)).trans ?_)
    refine (ev_iload_n dX8_copy_382 rfl).trans ?_
    refine (ev_aload_n dX8_copy_383 rfl).trans ?_
    refine (ev_getR dX8_copy_384 f_8_66 rfl).trans ((and_iff_right (by decide)).trans ?_)
    refine (ev_iload_n dX8_copy_387 rfl).trans ?_
    refine (ev_iald2 dX8_copy_388 (by decide) (v := (μ r1 79 o1 x2.toNatClampNeg)) ((mget_a (by decide)).trans ((mget_a (by decide)).trans ((mget_a (by decide)).trans ((mget_a (by decide)).trans (rfl)))))).trans (and_congr_right fun _ => ?_)
    refine (ev_iast dX8_copy_389 (by decide)).trans (and_congr_right fun _ => ?_)
    refine (ev_iinc dX8_copy_390 rfl (w := 1) (by decide) rfl).trans ?_
    refine (ev_goto dX8_copy_393 (t := 322) (by decide)).trans ?_
    exact Iff.rfl
/-! X9_within -/
theorem B74_0 {C : Nat → List AV → Mem → Res → Prop} {μ : Mem} {res : Res} {x0 x1 x2 : Int32} : EvE C 74 0 [some (.inl x0), some (.inl x1), some (.inl x2)] [] μ res ↔ ((x0 < x1 → EvE C 74 14 [some (.inl x0), some (.inl x1), some (.inl x2)] [] μ res) ∧ (¬ (x0 < x1) → ((x2 < x0 → EvE C 74 14 [some (.inl x0), some (.inl x1), some (.inl x2)] [] μ res) ∧ (¬ (x2 < x0) → EvE C 74 15 [some (.inl x0), some (.inl x1), some (.inl x2)] [.inl 1] μ res)))) := by
  refine (ev_iload_n dX9_within_0 rfl).trans ?_
  refine (ev_iload_n dX9_within_1 rfl).trans ?_
  refine (ev_icmp dX9_within_2 (t := 14) (by decide)).trans (and_congr (imp_congr Iff.rfl ?_) (imp_congr Iff.rfl ?_))
  · exact Iff.rfl
  · refine (ev_iload_n dX9_within_5 rfl).trans ?_
    refine (ev_iload_n dX9_within_6 rfl).trans ?_
    refine (ev_icmp dX9_within_7 (t := 14) (by decide)).trans (and_congr (imp_congr Iff.rfl ?_) (imp_congr Iff.rfl ?_))
    · exact Iff.rfl
    · refine (ev_iconst dX9_within_10 (w := 1) (by decide)).trans ?_
      refine (ev_goto dX9_within_11 (t := 15) (by decide)).trans ?_
      exact Iff.rfl
theorem B74_14 {C : Nat → List AV → Mem → Res → Prop} {μ : Mem} {res : Res} {x0 x1 x2 : Int32} : EvE C 74 14 [some (.inl x0), some (.inl x1), some (.inl x2)] [] μ res ↔ EvE C 74 15 [some (.inl x0), some (.inl x1), some (.inl x2)] [.inl 0] μ res := by
  refine (ev_iconst dX9_within_14 (w := 0) (by decide)).trans ?_
  exact Iff.rfl
theorem B74_15 {C : Nat → List AV → Mem → Res → Prop} {μ : Mem} {res : Res} {x0 x1 x2 w0 : Int32} : EvE C 74 15 [some (.inl x0), some (.inl x1), some (.inl x2)] [.inl w0] μ res ↔ (w0 = 0 ∨ w0 = 1) ∧ res = (some w0, μ) := by
  exact ev_zreturn dX9_within_15 rfl
/-! X9_isService -/
theorem B75_0 {C : Nat → List AV → Mem → Res → Prop} {μ : Mem} {res : Res} {x1 : Int32} {r0 o0 : Nat} : EvE C 75 0 [some (.inr (r0, 40, o0)), some (.inl x1)] [] μ res ↔ ((x1 < 0 → EvE C 75 16 [some (.inr (r0, 40, o0)), some (.inl x1)] [] μ res) ∧ (¬ (x1 < 0) → (((μ r0 40 o0 2) ≤ x1 → EvE C 75 16 [some (.inr (r0, 40, o0)), some (.inl x1)] [] μ res) ∧ (¬ ((μ r0 40 o0 2) ≤ x1) → EvE C 75 17 [some (.inr (r0, 40, o0)), some (.inl x1)] [.inl 1] μ res)))) := by
  refine (ev_iload_n dX9_isService_0 rfl).trans ?_
  refine (ev_ifc dX9_isService_1 (t := 16) (by decide)).trans (and_congr (imp_congr Iff.rfl ?_) (imp_congr Iff.rfl ?_))
  · exact Iff.rfl
  · refine (ev_iload_n dX9_isService_4 rfl).trans ?_
    refine (ev_aload_n dX9_isService_5 rfl).trans ?_
    refine (ev_getI2 dX9_isService_6 f_9_61 rfl (v := (μ r0 40 o0 2)) (rfl)).trans ((and_iff_right (by decide)).trans ?_)
    refine (ev_icmp dX9_isService_9 (t := 16) (by decide)).trans (and_congr (imp_congr Iff.rfl ?_) (imp_congr Iff.rfl ?_))
    · exact Iff.rfl
    · refine (ev_iconst dX9_isService_12 (w := 1) (by decide)).trans ?_
      refine (ev_goto dX9_isService_13 (t := 17) (by decide)).trans ?_
      exact Iff.rfl
theorem B75_16 {C : Nat → List AV → Mem → Res → Prop} {μ : Mem} {res : Res} {x1 : Int32} {r0 o0 : Nat} : EvE C 75 16 [some (.inr (r0, 40, o0)), some (.inl x1)] [] μ res ↔ EvE C 75 17 [some (.inr (r0, 40, o0)), some (.inl x1)] [.inl 0] μ res := by
  refine (ev_iconst dX9_isService_16 (w := 0) (by decide)).trans ?_
  exact Iff.rfl
theorem B75_17 {C : Nat → List AV → Mem → Res → Prop} {μ : Mem} {res : Res} {x1 w0 : Int32} {r0 o0 : Nat} : EvE C 75 17 [some (.inr (r0, 40, o0)), some (.inl x1)] [.inl w0] μ res ↔ (w0 = 0 ∨ w0 = 1) ∧ res = (some w0, μ) := by
  exact ev_zreturn dX9_isService_17 rfl
/-! X9_isKey -/
theorem B76_0 {C : Nat → List AV → Mem → Res → Prop} {μ : Mem} {res : Res} {x0 : Int32} : EvE C 76 0 [some (.inl x0)] [] μ res ↔ ∃ v1 μ1, C 74 [.inl x0, .inl 0, .inl 7] μ (some v1, μ1) ∧ (v1 = 0 ∨ v1 = 1) ∧ res = (some v1, μ1) := by
  refine (ev_iload_n dX9_isKey_0 rfl).trans ?_
  refine (ev_iconst dX9_isKey_1 (w := 0) (by decide)).trans ?_
  refine (ev_bipush dX9_isKey_2 (w := 7) (by decide)).trans ?_
  refine (ev_staI dX9_isKey_4 c_9_64 (by decide) (As := [.inl x0, .inl 0, .inl 7]) rfl rfl (by decide) rfl (Nat.le_of_ble_eq_true rfl)).trans (exists_congr fun v1 => exists_congr fun μ1 => and_congr_right fun _ => ?_)
  exact ev_zreturn dX9_isKey_7 rfl
/-! X9_ruled -/
theorem B77_0 {C : Nat → List AV → Mem → Res → Prop} {μ : Mem} {res : Res} {x1 x2 : Int32} {r0 o0 : Nat} : EvE C 77 0 [some (.inr (r0, 40, o0)), some (.inl x1), some (.inl x2)] [] μ res ↔ vp_in ((9 * x1) + x2) 54 ∧ res = (some (μ r0 41 o0 ((9 * x1) + x2).toNatClampNeg), μ) := by
  refine (ev_aload_n dX9_ruled_0 rfl).trans ?_
  refine (ev_getR dX9_ruled_1 f_9_9 rfl).trans ((and_iff_right (by decide)).trans ?_)
  refine (ev_bipush dX9_ruled_4 (w := 9) (by decide)).trans ?_
  refine (ev_iload_n dX9_ruled_6 rfl).trans ?_
  refine (ev_imul dX9_ruled_7).trans ?_
  refine (ev_iload_n dX9_ruled_8 rfl).trans ?_
  refine (ev_iadd dX9_ruled_9).trans ?_
  refine (ev_iald2 dX9_ruled_10 (by decide) (v := (μ r0 41 o0 ((9 * x1) + x2).toNatClampNeg)) (rfl)).trans (and_congr_right fun _ => ?_)
  exact ev_ireturn dX9_ruled_11 rfl
/-! X9_service -/
theorem B78_0 {C : Nat → List AV → Mem → Res → Prop} {μ : Mem} {res : Res} {x1 x2 x3 : Int32} {r0 o0 : Nat} : EvE C 78 0 [some (.inr (r0, 40, o0)), some (.inl x1), some (.inl x2), some (.inl x3), none] [] μ res ↔ ∃ v1 μ1, C 74 [.inl x1, .inl 1, .inl 9] μ (some v1, μ1) ∧ ((v1 = 0 → EvE C 78 30 [some (.inr (r0, 40, o0)), some (.inl x1), some (.inl x2), some (.inl x3), none] [] μ1 res) ∧ (¬ (v1 = 0) → ∃ v2 μ2, C 74 [.inl x2, .inl 0, .inl 20] μ1 (some v2, μ2) ∧ ((v2 = 0 → EvE C 78 30 [some (.inr (r0, 40, o0)), some (.inl x1), some (.inl x2), some (.inl x3), none] [] μ2 res) ∧ (¬ (v2 = 0) → ∃ v3 μ3, C 74 [.inl x3, .inl 1, .inl 9] μ2 (some v3, μ3) ∧ ((¬ v3 = 0 → ((¬ (μ3 r0 40 o0 2) = 6 → (((μ3 (r0 + 1) 60 o0 0) = 0 → vp_in ((9 * (μ3 r0 40 o0 2)) + 0) 54 ∧ vp_in ((9 * (μ3 r0 40 o0 2)) + 2) 54 ∧ vp_in ((9 * (μ3 r0 40 o0 2)) + 5) 54 ∧ vp_in ((9 * (μ3 r0 40 o0 2)) + 7) 54 ∧ vp_in ((9 * (μ3 r0 40 o0 2)) + 8) 54 ∧ vp_in (μ3 r0 40 o0 2) 6 ∧ res = (some (((μ3 r0 40 o0 2) + 1) - 1), (mset (mset (mset (mset (mset (mset (mset μ3 r0 41 o0 ((9 * (μ3 r0 40 o0 2)) + 0).toNatClampNeg 10) r0 41 o0 ((9 * (μ3 r0 40 o0 2)) + 2).toNatClampNeg 1) r0 41 o0 ((9 * (μ3 r0 40 o0 2)) + 5).toNatClampNeg 10) r0 41 o0 ((9 * (μ3 r0 40 o0 2)) + 7).toNatClampNeg x1) r0 41 o0 ((9 * (μ3 r0 40 o0 2)) + 8).toNatClampNeg x3) r0 42 o0 (μ3 r0 40 o0 2).toNatClampNeg x2) r0 40 o0 2 ((μ3 r0 40 o0 2) + 1)))) ∧ (¬ ((μ3 (r0 + 1) 60 o0 0) = 0) → res = (some (-3), μ3)))) ∧ (¬ (¬ (μ3 r0 40 o0 2) = 6) → res = (some (-2), μ3)))) ∧ (¬ (¬ v3 = 0) → EvE C 78 30 [some (.inr (r0, 40, o0)), some (.inl x1), some (.inl x2), some (.inl x3), none] [] μ3 res)))))) := by
  refine (ev_iload_n dX9_service_0 rfl).trans ?_
  refine (ev_iconst dX9_service_1 (w := 1) (by decide)).trans ?_
  refine (ev_bipush dX9_service_2 (w := 9) (by decide)).trans ?_
  refine (ev_staI dX9_service_4 c_9_64 (by decide) (As := [.inl x1, .inl 1, .inl 9]) rfl rfl (by decide) rfl (Nat.le_of_ble_eq_true rfl)).trans (exists_congr fun v1 => exists_congr fun μ1 => and_congr_right fun _ => ?_)
  refine (ev_ifc dX9_service_7 (t := 30) (by decide)).trans (and_congr (imp_congr Iff.rfl ?_) (imp_congr Iff.rfl ?_))
  · exact Iff.rfl
  · refine (ev_iload_n dX9_service_10 rfl).trans ?_
    refine (ev_iconst dX9_service_11 (w := 0) (by decide)).trans ?_
    refine (ev_bipush dX9_service_12 (w := 20) (by decide)).trans ?_
    refine (ev_staI dX9_service_14 c_9_64 (by decide) (As := [.inl x2, .inl 0, .inl 20]) rfl rfl (by decide) rfl (Nat.le_of_ble_eq_true rfl)).trans (exists_congr fun v2 => exists_congr fun μ2 => and_congr_right fun _ => ?_)
    refine (ev_ifc dX9_service_17 (t := 30) (by decide)).trans (and_congr (imp_congr Iff.rfl ?_) (imp_congr Iff.rfl ?_))
    · exact Iff.rfl
    · refine (ev_iload_n dX9_service_20 rfl).trans ?_
      refine (ev_iconst dX9_service_21 (w := 1) (by decide)).trans ?_
      refine (ev_bipush dX9_service_22 (w := 9) (by decide)).trans ?_
      refine (ev_staI dX9_service_24 c_9_64 (by decide) (As := [.inl x3, .inl 1, .inl 9]) rfl rfl (by decide) rfl (Nat.le_of_ble_eq_true rfl)).trans (exists_congr fun v3 => exists_congr fun μ3 => and_congr_right fun _ => ?_)
      refine (ev_ifc dX9_service_27 (t := 32) (by decide)).trans (and_congr (imp_congr Iff.rfl ?_) (imp_congr Iff.rfl ?_))
      · refine (ev_aload_n dX9_service_32 rfl).trans ?_
        refine (ev_getI2 dX9_service_33 f_9_61 rfl (v := (μ3 r0 40 o0 2)) (rfl)).trans ((and_iff_right (by decide)).trans ?_)
        refine (ev_bipush dX9_service_36 (w := 6) (by decide)).trans ?_
        refine (ev_icmp dX9_service_38 (t := 44) (by decide)).trans (and_congr (imp_congr Iff.rfl ?_) (imp_congr Iff.rfl ?_))
        · refine (ev_aload_n dX9_service_44 rfl).trans ?_
          refine (ev_getR dX9_service_45 f_9_38 rfl).trans ((and_iff_right (by decide)).trans ?_)
          refine (ev_getI2 dX9_service_48 f_9_68 rfl (v := (μ3 (r0 + 1) 60 o0 0)) (rfl)).trans ((and_iff_right (by decide)).trans ?_)
          refine (ev_ifc dX9_service_51 (t := 57) (by decide)).trans (and_congr (imp_congr Iff.rfl ?_) (imp_congr Iff.rfl ?_))
          · refine (ev_bipush dX9_service_57 (w := 9) (by decide)).trans ?_
            refine (ev_aload_n dX9_service_59 rfl).trans ?_
            refine (ev_getI2 dX9_service_60 f_9_61 rfl (v := (μ3 r0 40 o0 2)) (rfl)).trans ((and_iff_right (by decide)).trans ?_)
            refine (ev_imul dX9_service_63).trans ?_
            refine (ev_istore dX9_service_64 (Nat.le_of_ble_eq_true rfl) rfl).trans ?_
            refine (ev_aload_n dX9_service_66 rfl).trans ?_
            refine (ev_getR dX9_service_67 f_9_9 rfl).trans ((and_iff_right (by decide)).trans ?_)
            refine (ev_iload dX9_service_70 rfl).trans ?_
            refine (ev_iconst dX9_service_72 (w := 0) (by decide)).trans ?_
            refine (ev_iadd dX9_service_73).trans ?_
            refine (ev_bipush dX9_service_74 (w := 10) (by decide)).trans ?_
            refine (ev_iast dX9_service_76 (by decide)).trans (and_congr_right fun _ => ?_)
            refine (ev_aload_n dX9_service_77 rfl).trans ?_
            refine (ev_getR dX9_service_78 f_9_9 rfl).trans ((and_iff_right (by decide)).trans ?_)
            refine (ev_iload dX9_service_81 rfl).trans ?_
            refine (ev_iconst dX9_service_83 (w := 2) (by decide)).trans ?_
            refine (ev_iadd dX9_service_84).trans ?_
            refine (ev_iconst dX9_service_85 (w := 1) (by decide)).trans ?_
            refine (ev_iast dX9_service_86 (by decide)).trans (and_congr_right fun _ => ?_)
            refine (ev_aload_n dX9_service_87 rfl).trans ?_
            refine (ev_getR dX9_service_88 f_9_9 rfl).trans ((and_iff_right (by decide)).trans ?_)
            refine (ev_iload dX9_service_91 rfl).trans ?_
            refine (ev_iconst dX9_service_93 (w := 5) (by decide)).trans ?_
            refine (ev_iadd dX9_service_94).trans ?_
            refine (ev_bipush dX9_service_95 (w := 10) (by decide)).trans ?_
            refine (ev_iast dX9_service_97 (by decide)).trans (and_congr_right fun _ => ?_)
            refine (ev_aload_n dX9_service_98 rfl).trans ?_
            refine (ev_getR dX9_service_99 f_9_9 rfl).trans ((and_iff_right (by decide)).trans ?_)
            refine (ev_iload dX9_service_102 rfl).trans ?_
            refine (ev_bipush dX9_service_104 (w := 7) (by decide)).trans ?_
            refine (ev_iadd dX9_service_106).trans ?_
            refine (ev_iload_n dX9_service_107 rfl).trans ?_
            refine (ev_iast dX9_service_108 (by decide)).trans (and_congr_right fun _ => ?_)
            refine (ev_aload_n dX9_service_109 rfl).trans ?_
            refine (ev_getR dX9_service_110 f_9_9 rfl).trans ((and_iff_right (by decide)).trans ?_)
            refine (ev_iload dX9_service_113 rfl).trans ?_
            refine (ev_bipush dX9_service_115 (w := 8) (by decide)).trans ?_
            refine (ev_iadd dX9_service_117).trans ?_
            refine (ev_iload_n dX9_service_118 rfl).trans ?_
            refine (ev_iast dX9_service_119 (by decide)).trans (and_congr_right fun _ => ?_)
            refine (ev_aload_n dX9_service_120 rfl).trans ?_
            refine (ev_getR dX9_service_121 f_9_13 rfl).trans ((and_iff_right (by decide)).trans ?_)
            refine (ev_aload_n dX9_service_124 rfl).trans ?_
            refine (ev_getI2 dX9_service_125 f_9_61 rfl (v := (μ3 r0 40 o0 2)) ((mget_a (by decide)).trans ((mget_a (by decide)).trans ((mget_a (by decide)).trans ((mget_a (by decide)).trans ((mget_a (by decide)).trans (rfl))))))).trans ((and_iff_right (by decide)).trans ?_)
            refine (ev_iload_n dX9_service_128 rfl).trans ?_
            refine (ev_iast dX9_service_129 (by decide)).trans (and_congr_right fun _ => ?_)
            refine (ev_aload_n dX9_service_130 rfl).trans ?_
            refine (ev_dup dX9_service_131).trans ?_
            refine (ev_getI2 dX9_service_132 f_9_61 rfl (v := (μ3 r0 40 o0 2)) ((mget_a (by decide)).trans ((mget_a (by decide)).trans ((mget_a (by decide)).trans ((mget_a (by decide)).trans ((mget_a (by decide)).trans ((mget_a (by decide)).trans (rfl)))))))).trans ((and_iff_right (by decide)).trans ?_)
            refine (ev_iconst dX9_service_135 (w := 1) (by decide)).trans ?_
            refine (ev_iadd dX9_service_136).trans ?_
            refine (ev_put dX9_service_137 f_9_61 rfl (by decide)).trans ((and_iff_right (by decide)).trans ?_)
            refine (ev_aload_n dX9_service_140 rfl).trans ?_
            refine (ev_getI2 dX9_service_141 f_9_61 rfl (v := ((μ3 r0 40 o0 2) + 1)) (mget_s)).trans ((and_iff_right (by decide)).trans ?_)
            refine (ev_iconst dX9_service_144 (w := 1) (by decide)).trans ?_
            refine (ev_isub dX9_service_145).trans ?_
            exact ev_ireturn dX9_service_146 rfl
          · refine (ev_bipush dX9_service_54 (w := (-3)) (by decide)).trans ?_
            exact ev_ireturn dX9_service_56 rfl
        · refine (ev_bipush dX9_service_41 (w := (-2)) (by decide)).trans ?_
          exact ev_ireturn dX9_service_43 rfl
      · exact Iff.rfl
theorem B78_30 {C : Nat → List AV → Mem → Res → Prop} {μ : Mem} {res : Res} {x1 x2 x3 : Int32} {r0 o0 : Nat} {u4 : Option AV} : EvE C 78 30 [some (.inr (r0, 40, o0)), some (.inl x1), some (.inl x2), some (.inl x3), u4] [] μ res ↔ res = (some (-1), μ) := by
  refine (ev_iconst dX9_service_30 (w := (-1)) (by decide)).trans ?_
  exact ev_ireturn dX9_service_31 rfl
/-! X9_isRule -/
theorem B79_0 {C : Nat → List AV → Mem → Res → Prop} {μ : Mem} {res : Res} {x0 x1 : Int32} : EvE C 79 0 [some (.inl x0), some (.inl x1)] [] μ res ↔ ((∀ k t : Nat, ([52, 60, 67, 75, 67, 83, 91, 98, 98] : List Nat)[k]? = some t → x0 = nI k → EvE C 79 t [some (.inl x0), some (.inl x1)] [] μ res) ∧ ((∀ k : Nat, k < 9 → ¬ x0 = nI k) → EvE C 79 106 [some (.inl x0), some (.inl x1)] [] μ res)) := by
  refine (ev_iload_n dX9_isRule_0 rfl).trans ?_
  exact ev_tab dX9_isRule_1 (ts := [52, 60, 67, 75, 67, 83, 91, 98, 98]) (td := 106) (by decide) (by decide) (by decide) (by decide)
theorem B79_52 {C : Nat → List AV → Mem → Res → Prop} {μ : Mem} {res : Res} {x0 x1 : Int32} : EvE C 79 52 [some (.inl x0), some (.inl x1)] [] μ res ↔ ∃ v1 μ1, C 74 [.inl x1, .inl 1, .inl 40] μ (some v1, μ1) ∧ (v1 = 0 ∨ v1 = 1) ∧ res = (some v1, μ1) := by
  refine (ev_iload_n dX9_isRule_52 rfl).trans ?_
  refine (ev_iconst dX9_isRule_53 (w := 1) (by decide)).trans ?_
  refine (ev_bipush dX9_isRule_54 (w := 40) (by decide)).trans ?_
  refine (ev_staI dX9_isRule_56 c_9_64 (by decide) (As := [.inl x1, .inl 1, .inl 40]) rfl rfl (by decide) rfl (Nat.le_of_ble_eq_true rfl)).trans (exists_congr fun v1 => exists_congr fun μ1 => and_congr_right fun _ => ?_)
  exact ev_zreturn dX9_isRule_59 rfl
theorem B79_60 {C : Nat → List AV → Mem → Res → Prop} {μ : Mem} {res : Res} {x0 x1 : Int32} : EvE C 79 60 [some (.inl x0), some (.inl x1)] [] μ res ↔ ∃ v1 μ1, C 74 [.inl x1, .inl 0, .inl 4] μ (some v1, μ1) ∧ (v1 = 0 ∨ v1 = 1) ∧ res = (some v1, μ1) := by
  refine (ev_iload_n dX9_isRule_60 rfl).trans ?_
  refine (ev_iconst dX9_isRule_61 (w := 0) (by decide)).trans ?_
  refine (ev_iconst dX9_isRule_62 (w := 4) (by decide)).trans ?_
  refine (ev_staI dX9_isRule_63 c_9_64 (by decide) (As := [.inl x1, .inl 0, .inl 4]) rfl rfl (by decide) rfl (Nat.le_of_ble_eq_true rfl)).trans (exists_congr fun v1 => exists_congr fun μ1 => and_congr_right fun _ => ?_)
  exact ev_zreturn dX9_isRule_66 rfl
theorem B79_67 {C : Nat → List AV → Mem → Res → Prop} {μ : Mem} {res : Res} {x0 x1 : Int32} : EvE C 79 67 [some (.inl x0), some (.inl x1)] [] μ res ↔ ∃ v1 μ1, C 74 [.inl x1, .inl 0, .inl 9] μ (some v1, μ1) ∧ (v1 = 0 ∨ v1 = 1) ∧ res = (some v1, μ1) := by
  refine (ev_iload_n dX9_isRule_67 rfl).trans ?_
  refine (ev_iconst dX9_isRule_68 (w := 0) (by decide)).trans ?_
  refine (ev_bipush dX9_isRule_69 (w := 9) (by decide)).trans ?_
  refine (ev_staI dX9_isRule_71 c_9_64 (by decide) (As := [.inl x1, .inl 0, .inl 9]) rfl rfl (by decide) rfl (Nat.le_of_ble_eq_true rfl)).trans (exists_congr fun v1 => exists_congr fun μ1 => and_congr_right fun _ => ?_)
  exact ev_zreturn dX9_isRule_74 rfl
theorem B79_75 {C : Nat → List AV → Mem → Res → Prop} {μ : Mem} {res : Res} {x0 x1 : Int32} : EvE C 79 75 [some (.inl x0), some (.inl x1)] [] μ res ↔ ∃ v1 μ1, C 74 [.inl x1, .inl 0, .inl 60] μ (some v1, μ1) ∧ (v1 = 0 ∨ v1 = 1) ∧ res = (some v1, μ1) := by
  refine (ev_iload_n dX9_isRule_75 rfl).trans ?_
  refine (ev_iconst dX9_isRule_76 (w := 0) (by decide)).trans ?_
  refine (ev_bipush dX9_isRule_77 (w := 60) (by decide)).trans ?_
  refine (ev_staI dX9_isRule_79 c_9_64 (by decide) (As := [.inl x1, .inl 0, .inl 60]) rfl rfl (by decide) rfl (Nat.le_of_ble_eq_true rfl)).trans (exists_congr fun v1 => exists_congr fun μ1 => and_congr_right fun _ => ?_)
  exact ev_zreturn dX9_isRule_82 rfl
theorem B79_83 {C : Nat → List AV → Mem → Res → Prop} {μ : Mem} {res : Res} {x0 x1 : Int32} : EvE C 79 83 [some (.inl x0), some (.inl x1)] [] μ res ↔ ∃ v1 μ1, C 74 [.inl x1, .inl 1, .inl 60] μ (some v1, μ1) ∧ (v1 = 0 ∨ v1 = 1) ∧ res = (some v1, μ1) := by
  refine (ev_iload_n dX9_isRule_83 rfl).trans ?_
  refine (ev_iconst dX9_isRule_84 (w := 1) (by decide)).trans ?_
  refine (ev_bipush dX9_isRule_85 (w := 60) (by decide)).trans ?_
  refine (ev_staI dX9_isRule_87 c_9_64 (by decide) (As := [.inl x1, .inl 1, .inl 60]) rfl rfl (by decide) rfl (Nat.le_of_ble_eq_true rfl)).trans (exists_congr fun v1 => exists_congr fun μ1 => and_congr_right fun _ => ?_)
  exact ev_zreturn dX9_isRule_90 rfl
theorem B79_91 {C : Nat → List AV → Mem → Res → Prop} {μ : Mem} {res : Res} {x0 x1 : Int32} : EvE C 79 91 [some (.inl x0), some (.inl x1)] [] μ res ↔ ∃ v1 μ1, C 74 [.inl x1, .inl 0, .inl 1] μ (some v1, μ1) ∧ (v1 = 0 ∨ v1 = 1) ∧ res = (some v1, μ1) := by
  refine (ev_iload_n dX9_isRule_91 rfl).trans ?_
  refine (ev_iconst dX9_isRule_92 (w := 0) (by decide)).trans ?_
  refine (ev_iconst dX9_isRule_93 (w := 1) (by decide)).trans ?_
  refine (ev_staI dX9_isRule_94 c_9_64 (by decide) (As := [.inl x1, .inl 0, .inl 1]) rfl rfl (by decide) rfl (Nat.le_of_ble_eq_true rfl)).trans (exists_congr fun v1 => exists_congr fun μ1 => and_congr_right fun _ => ?_)
  exact ev_zreturn dX9_isRule_97 rfl
theorem B79_98 {C : Nat → List AV → Mem → Res → Prop} {μ : Mem} {res : Res} {x0 x1 : Int32} : EvE C 79 98 [some (.inl x0), some (.inl x1)] [] μ res ↔ ∃ v1 μ1, C 74 [.inl x1, .inl 1, .inl 9] μ (some v1, μ1) ∧ (v1 = 0 ∨ v1 = 1) ∧ res = (some v1, μ1) := by
  refine (ev_iload_n dX9_isRule_98 rfl).trans ?_
  refine (ev_iconst dX9_isRule_99 (w := 1) (by decide)).trans ?_
  refine (ev_bipush dX9_isRule_100 (w := 9) (by decide)).trans ?_
  refine (ev_staI dX9_isRule_102 c_9_64 (by decide) (As := [.inl x1, .inl 1, .inl 9]) rfl rfl (by decide) rfl (Nat.le_of_ble_eq_true rfl)).trans (exists_congr fun v1 => exists_congr fun μ1 => and_congr_right fun _ => ?_)
  exact ev_zreturn dX9_isRule_105 rfl
theorem B79_106 {C : Nat → List AV → Mem → Res → Prop} {μ : Mem} {res : Res} {x0 x1 : Int32} : EvE C 79 106 [some (.inl x0), some (.inl x1)] [] μ res ↔ res = (some 0, μ) := by
  refine (ev_iconst dX9_isRule_106 (w := 0) (by decide)).trans ?_
  exact (ev_zreturn dX9_isRule_107 rfl).trans (and_iff_right (by decide))
/-! X9_rule -/
theorem B80_0 {C : Nat → List AV → Mem → Res → Prop} {μ : Mem} {res : Res} {x1 x2 x3 : Int32} {r0 o0 : Nat} : EvE C 80 0 [some (.inr (r0, 40, o0)), some (.inl x1), some (.inl x2), some (.inl x3), none] [] μ res ↔ ∃ v1 μ1, C 75 [.inr (r0, 40, o0), .inl x1] μ (some v1, μ1) ∧ ((v1 = 0 → EvE C 80 16 [some (.inr (r0, 40, o0)), some (.inl x1), some (.inl x2), some (.inl x3), none] [] μ1 res) ∧ (¬ (v1 = 0) → ∃ v2 μ2, C 79 [.inl x2, .inl x3] μ1 (some v2, μ2) ∧ ((¬ v2 = 0 → ∃ v3 μ3, C 77 [.inr (r0, 40, o0), .inl x1, .inl x2] μ2 (some v3, μ3) ∧ vp_in ((9 * x1) + x2) 54 ∧ res = (some v3, (mset μ3 r0 41 o0 ((9 * x1) + x2).toNatClampNeg x3))) ∧ (¬ (¬ v2 = 0) → EvE C 80 16 [some (.inr (r0, 40, o0)), some (.inl x1), some (.inl x2), some (.inl x3), none] [] μ2 res)))) := by
  refine (ev_aload_n dX9_rule_0 rfl).trans ?_
  refine (ev_iload_n dX9_rule_1 rfl).trans ?_
  refine (ev_virI dX9_rule_2 c_9_71 (by decide) (As := [.inl x1]) rfl rfl (by decide) rfl (Nat.le_of_ble_eq_true rfl)).trans ((and_iff_right (by decide)).trans (exists_congr fun v1 => exists_congr fun μ1 => and_congr_right fun _ => ?_))
  refine (ev_ifc dX9_rule_5 (t := 16) (by decide)).trans (and_congr (imp_congr Iff.rfl ?_) (imp_congr Iff.rfl ?_))
  · exact Iff.rfl
  · refine (ev_iload_n dX9_rule_8 rfl).trans ?_
    refine (ev_iload_n dX9_rule_9 rfl).trans ?_
    refine (ev_staI dX9_rule_10 c_9_75 (by decide) (As := [.inl x2, .inl x3]) rfl rfl (by decide) rfl (Nat.le_of_ble_eq_true rfl)).trans (exists_congr fun v2 => exists_congr fun μ2 => and_congr_right fun _ => ?_)
    refine (ev_ifc dX9_rule_13 (t := 18) (by decide)).trans (and_congr (imp_congr Iff.rfl ?_) (imp_congr Iff.rfl ?_))
    · refine (ev_aload_n dX9_rule_18 rfl).trans ?_
      refine (ev_iload_n dX9_rule_19 rfl).trans ?_
      refine (ev_iload_n dX9_rule_20 rfl).trans ?_
      refine (ev_virI dX9_rule_21 c_9_79 (by decide) (As := [.inl x1, .inl x2]) rfl rfl (by decide) rfl (Nat.le_of_ble_eq_true rfl)).trans ((and_iff_right (by decide)).trans (exists_congr fun v3 => exists_congr fun μ3 => and_congr_right fun _ => ?_))
      refine (ev_istore dX9_rule_24 (Nat.le_of_ble_eq_true rfl) rfl).trans ?_
      refine (ev_aload_n dX9_rule_26 rfl).trans ?_
      refine (ev_getR dX9_rule_27 f_9_9 rfl).trans ((and_iff_right (by decide)).trans ?_)
      refine (ev_bipush dX9_rule_30 (w := 9) (by decide)).trans ?_
      refine (ev_iload_n dX9_rule_32 rfl).trans ?_
      refine (ev_imul dX9_rule_33).trans ?_
      refine (ev_iload_n dX9_rule_34 rfl).trans ?_
      refine (ev_iadd dX9_rule_35).trans ?_
      refine (ev_iload_n dX9_rule_36 rfl).trans ?_
      refine (ev_iast dX9_rule_37 (by decide)).trans (and_congr_right fun _ => ?_)
      refine (ev_iload dX9_rule_38 rfl).trans ?_
      exact ev_ireturn dX9_rule_40 rfl
    · exact Iff.rfl
theorem B80_16 {C : Nat → List AV → Mem → Res → Prop} {μ : Mem} {res : Res} {x1 x2 x3 : Int32} {r0 o0 : Nat} {u4 : Option AV} : EvE C 80 16 [some (.inr (r0, 40, o0)), some (.inl x1), some (.inl x2), some (.inl x3), u4] [] μ res ↔ res = (some (-1), μ) := by
  refine (ev_iconst dX9_rule_16 (w := (-1)) (by decide)).trans ?_
  exact ev_ireturn dX9_rule_17 rfl
/-! X9_guests -/
theorem B81_0 {C : Nat → List AV → Mem → Res → Prop} {μ : Mem} {res : Res} {x1 x2 : Int32} {r0 o0 : Nat} : EvE C 81 0 [some (.inr (r0, 40, o0)), some (.inl x1), some (.inl x2), none] [] μ res ↔ ∃ v1 μ1, C 74 [.inl x1, .inl 0, .inl 1] μ (some v1, μ1) ∧ ((v1 = 0 → EvE C 81 35 [some (.inr (r0, 40, o0)), some (.inl x1), some (.inl x2), none] [] μ1 res) ∧ (¬ (v1 = 0) → ((¬ x1 = 0 → EvE C 81 19 [some (.inr (r0, 40, o0)), some (.inl x1), some (.inl x2), none] [.inl 0, .inl x2] μ1 res) ∧ (¬ (¬ x1 = 0) → EvE C 81 19 [some (.inr (r0, 40, o0)), some (.inl x1), some (.inl x2), none] [.inl 1, .inl x2] μ1 res)))) := by
  refine (ev_iload_n dX9_guests_0 rfl).trans ?_
  refine (ev_iconst dX9_guests_1 (w := 0) (by decide)).trans ?_
  refine (ev_iconst dX9_guests_2 (w := 1) (by decide)).trans ?_
  refine (ev_staI dX9_guests_3 c_9_64 (by decide) (As := [.inl x1, .inl 0, .inl 1]) rfl rfl (by decide) rfl (Nat.le_of_ble_eq_true rfl)).trans (exists_congr fun v1 => exists_congr fun μ1 => and_congr_right fun _ => ?_)
  refine (ev_ifc dX9_guests_6 (t := 35) (by decide)).trans (and_congr (imp_congr Iff.rfl ?_) (imp_congr Iff.rfl ?_))
  · exact Iff.rfl
  · refine (ev_iload_n dX9_guests_9 rfl).trans ?_
    refine (ev_iload_n dX9_guests_10 rfl).trans ?_
    refine (ev_ifc dX9_guests_11 (t := 18) (by decide)).trans (and_congr (imp_congr Iff.rfl ?_) (imp_congr Iff.rfl ?_))
    · refine (ev_iconst dX9_guests_18 (w := 0) (by decide)).trans ?_
      exact Iff.rfl
    · refine (ev_iconst dX9_guests_14 (w := 1) (by decide)).trans ?_
      refine (ev_goto dX9_guests_15 (t := 19) (by decide)).trans ?_
      exact Iff.rfl
theorem B81_19 {C : Nat → List AV → Mem → Res → Prop} {μ : Mem} {res : Res} {x1 x2 w0 w1 : Int32} {r0 o0 : Nat} {u3 : Option AV} : EvE C 81 19 [some (.inr (r0, 40, o0)), some (.inl x1), some (.inl x2), u3] [.inl w1, .inl w0] μ res ↔ ((¬ x1 = 0 → EvE C 81 29 [some (.inr (r0, 40, o0)), some (.inl x1), some (.inl x2), u3] [.inl 3, .inl w1, .inl w0] μ res) ∧ (¬ (¬ x1 = 0) → EvE C 81 29 [some (.inr (r0, 40, o0)), some (.inl x1), some (.inl x2), u3] [.inl 60, .inl w1, .inl w0] μ res)) := by
  refine (ev_iload_n dX9_guests_19 rfl).trans ?_
  refine (ev_ifc dX9_guests_20 (t := 28) (by decide)).trans (and_congr (imp_congr Iff.rfl ?_) (imp_congr Iff.rfl ?_))
  · refine (ev_iconst dX9_guests_28 (w := 3) (by decide)).trans ?_
    exact Iff.rfl
  · refine (ev_bipush dX9_guests_23 (w := 60) (by decide)).trans ?_
    refine (ev_goto dX9_guests_25 (t := 29) (by decide)).trans ?_
    exact Iff.rfl
theorem B81_29 {C : Nat → List AV → Mem → Res → Prop} {μ : Mem} {res : Res} {x1 x2 w0 w1 w2 : Int32} {r0 o0 : Nat} {u3 : Option AV} : EvE C 81 29 [some (.inr (r0, 40, o0)), some (.inl x1), some (.inl x2), u3] [.inl w2, .inl w1, .inl w0] μ res ↔ ∃ v1 μ1, C 74 [.inl w0, .inl w1, .inl w2] μ (some v1, μ1) ∧ ((¬ v1 = 0 → ((¬ x1 = 0 → EvE C 81 52 [some (.inr (r0, 40, o0)), some (.inl x1), some (.inl x2), u3] [.inl (μ1 r0 40 o0 4)] μ1 res) ∧ (¬ (¬ x1 = 0) → EvE C 81 52 [some (.inr (r0, 40, o0)), some (.inl x1), some (.inl x2), u3] [.inl (μ1 r0 40 o0 3)] μ1 res))) ∧ (¬ (¬ v1 = 0) → EvE C 81 35 [some (.inr (r0, 40, o0)), some (.inl x1), some (.inl x2), u3] [] μ1 res)) := by
  refine (ev_staI dX9_guests_29 c_9_64 (by decide) (As := [.inl w0, .inl w1, .inl w2]) rfl rfl (by decide) rfl (Nat.le_of_ble_eq_true rfl)).trans (exists_congr fun v1 => exists_congr fun μ1 => and_congr_right fun _ => ?_)
  refine (ev_ifc dX9_guests_32 (t := 37) (by decide)).trans (and_congr (imp_congr Iff.rfl ?_) (imp_congr Iff.rfl ?_))
  · refine (ev_iload_n dX9_guests_37 rfl).trans ?_
    refine (ev_ifc dX9_guests_38 (t := 48) (by decide)).trans (and_congr (imp_congr Iff.rfl ?_) (imp_congr Iff.rfl ?_))
    · refine (ev_aload_n dX9_guests_48 rfl).trans ?_
      refine (ev_getI2 dX9_guests_49 f_9_83 rfl (v := (μ1 r0 40 o0 4)) (rfl)).trans ((and_iff_right (by decide)).trans ?_)
      exact Iff.rfl
    · refine (ev_aload_n dX9_guests_41 rfl).trans ?_
      refine (ev_getI2 dX9_guests_42 f_9_16 rfl (v := (μ1 r0 40 o0 3)) (rfl)).trans ((and_iff_right (by decide)).trans ?_)
      refine (ev_goto dX9_guests_45 (t := 52) (by decide)).trans ?_
      exact Iff.rfl
  · exact Iff.rfl
theorem B81_35 {C : Nat → List AV → Mem → Res → Prop} {μ : Mem} {res : Res} {x1 x2 : Int32} {r0 o0 : Nat} {u3 : Option AV} : EvE C 81 35 [some (.inr (r0, 40, o0)), some (.inl x1), some (.inl x2), u3] [] μ res ↔ res = (some (-1), μ) := by
  refine (ev_iconst dX9_guests_35 (w := (-1)) (by decide)).trans ?_
  exact ev_ireturn dX9_guests_36 rfl
theorem B81_52 {C : Nat → List AV → Mem → Res → Prop} {μ : Mem} {res : Res} {x1 x2 w0 : Int32} {r0 o0 : Nat} {u3 : Option AV} : EvE C 81 52 [some (.inr (r0, 40, o0)), some (.inl x1), some (.inl x2), u3] [.inl w0] μ res ↔ ((¬ x1 = 0 → EvE C 81 70 [some (.inr (r0, 40, o0)), some (.inl x1), some (.inl x2), some (.inl w0)] [] (mset μ r0 40 o0 4 x2) res) ∧ (¬ (¬ x1 = 0) → EvE C 81 70 [some (.inr (r0, 40, o0)), some (.inl x1), some (.inl x2), some (.inl w0)] [] (mset μ r0 40 o0 3 x2) res)) := by
  refine (ev_istore_n dX9_guests_52 (Nat.le_of_ble_eq_true rfl) rfl).trans ?_
  refine (ev_iload_n dX9_guests_53 rfl).trans ?_
  refine (ev_ifc dX9_guests_54 (t := 65) (by decide)).trans (and_congr (imp_congr Iff.rfl ?_) (imp_congr Iff.rfl ?_))
  · refine (ev_aload_n dX9_guests_65 rfl).trans ?_
    refine (ev_iload_n dX9_guests_66 rfl).trans ?_
    refine (ev_put dX9_guests_67 f_9_83 rfl (by decide)).trans ((and_iff_right (by decide)).trans ?_)
    exact Iff.rfl
  · refine (ev_aload_n dX9_guests_57 rfl).trans ?_
    refine (ev_iload_n dX9_guests_58 rfl).trans ?_
    refine (ev_put dX9_guests_59 f_9_16 rfl (by decide)).trans ((and_iff_right (by decide)).trans ?_)
    refine (ev_goto dX9_guests_62 (t := 70) (by decide)).trans ?_
    exact Iff.rfl
theorem B81_70 {C : Nat → List AV → Mem → Res → Prop} {μ : Mem} {res : Res} {x1 x2 x3 : Int32} {r0 o0 : Nat} : EvE C 81 70 [some (.inr (r0, 40, o0)), some (.inl x1), some (.inl x2), some (.inl x3)] [] μ res ↔ res = (some x3, μ) := by
  refine (ev_iload_n dX9_guests_70 rfl).trans ?_
  exact ev_ireturn dX9_guests_71 rfl
/-! X9_crowd -/
theorem B82_0 {C : Nat → List AV → Mem → Res → Prop} {μ : Mem} {res : Res} {x1 x2 x3 : Int32} {r0 o0 : Nat} : EvE C 82 0 [some (.inr (r0, 40, o0)), some (.inl x1), some (.inl x2), some (.inl x3)] [] μ res ↔ ∃ v1 μ1, C 74 [.inl x1, .inl ((μ (r0 + 1) 60 o0 0) + 1), .inl 100000] μ (some v1, μ1) ∧ ((v1 = 0 → EvE C 82 35 [some (.inr (r0, 40, o0)), some (.inl x1), some (.inl x2), some (.inl x3)] [] μ1 res) ∧ (¬ (v1 = 0) → ∃ v2 μ2, C 76 [.inl x2] μ1 (some v2, μ2) ∧ ((v2 = 0 → EvE C 82 35 [some (.inr (r0, 40, o0)), some (.inl x1), some (.inl x2), some (.inl x3)] [] μ2 res) ∧ (¬ (v2 = 0) → ∃ v3 μ3, C 74 [.inl x3, .inl 1, .inl 30] μ2 (some v3, μ3) ∧ ((¬ v3 = 0 → ((¬ (μ3 r0 40 o0 8) = 40 → vp_in (μ3 r0 40 o0 8) 40 ∧ vp_in (μ3 r0 40 o0 8) 40 ∧ vp_in (μ3 r0 40 o0 8) 40 ∧ res = (some ((μ3 r0 40 o0 8) + 1), (mset (mset (mset (mset μ3 r0 43 o0 (μ3 r0 40 o0 8).toNatClampNeg x1) r0 44 o0 (μ3 r0 40 o0 8).toNatClampNeg x2) r0 45 o0 (μ3 r0 40 o0 8).toNatClampNeg x3) r0 40 o0 8 ((μ3 r0 40 o0 8) + 1)))) ∧ (¬ (¬ (μ3 r0 40 o0 8) = 40) → res = (some (-2), μ3)))) ∧ (¬ (¬ v3 = 0) → EvE C 82 35 [some (.inr (r0, 40, o0)), some (.inl x1), some (.inl x2), some (.inl x3)] [] μ3 res)))))) := by
  refine (ev_iload_n dX9_crowd_0 rfl).trans ?_
  refine (ev_aload_n dX9_crowd_1 rfl).trans ?_
  refine (ev_getR dX9_crowd_2 f_9_38 rfl).trans ((and_iff_right (by decide)).trans ?_)
  refine (ev_getI2 dX9_crowd_5 f_9_68 rfl (v := (μ (r0 + 1) 60 o0 0)) (rfl)).trans ((and_iff_right (by decide)).trans ?_)
  refine (ev_iconst dX9_crowd_8 (w := 1) (by decide)).trans ?_
  refine (ev_iadd dX9_crowd_9).trans ?_
  refine (ev_ldc dX9_crowd_10 (w := 100000) (by decide)).trans ?_
  refine (ev_staI dX9_crowd_12 c_9_64 (by decide) (As := [.inl x1, .inl ((μ (r0 + 1) 60 o0 0) + 1), .inl 100000]) rfl rfl (by decide) rfl (Nat.le_of_ble_eq_true rfl)).trans (exists_congr fun v1 => exists_congr fun μ1 => and_congr_right fun _ => ?_)
  refine (ev_ifc dX9_crowd_15 (t := 35) (by decide)).trans (and_congr (imp_congr Iff.rfl ?_) (imp_congr Iff.rfl ?_))
  · exact Iff.rfl
  · refine (ev_iload_n dX9_crowd_18 rfl).trans ?_
    refine (ev_staI dX9_crowd_19 c_9_87 (by decide) (As := [.inl x2]) rfl rfl (by decide) rfl (Nat.le_of_ble_eq_true rfl)).trans (exists_congr fun v2 => exists_congr fun μ2 => and_congr_right fun _ => ?_)
    refine (ev_ifc dX9_crowd_22 (t := 35) (by decide)).trans (and_congr (imp_congr Iff.rfl ?_) (imp_congr Iff.rfl ?_))
    · exact Iff.rfl
    · refine (ev_iload_n dX9_crowd_25 rfl).trans ?_
      refine (ev_iconst dX9_crowd_26 (w := 1) (by decide)).trans ?_
      refine (ev_bipush dX9_crowd_27 (w := 30) (by decide)).trans ?_
      refine (ev_staI dX9_crowd_29 c_9_64 (by decide) (As := [.inl x3, .inl 1, .inl 30]) rfl rfl (by decide) rfl (Nat.le_of_ble_eq_true rfl)).trans (exists_congr fun v3 => exists_congr fun μ3 => and_congr_right fun _ => ?_)
      refine (ev_ifc dX9_crowd_32 (t := 37) (by decide)).trans (and_congr (imp_congr Iff.rfl ?_) (imp_congr Iff.rfl ?_))
      · refine (ev_aload_n dX9_crowd_37 rfl).trans ?_
        refine (ev_getI2 dX9_crowd_38 f_9_90 rfl (v := (μ3 r0 40 o0 8)) (rfl)).trans ((and_iff_right (by decide)).trans ?_)
        refine (ev_bipush dX9_crowd_41 (w := 40) (by decide)).trans ?_
        refine (ev_icmp dX9_crowd_43 (t := 49) (by decide)).trans (and_congr (imp_congr Iff.rfl ?_) (imp_congr Iff.rfl ?_))
        · refine (ev_aload_n dX9_crowd_49 rfl).trans ?_
          refine (ev_getR dX9_crowd_50 f_9_20 rfl).trans ((and_iff_right (by decide)).trans ?_)
          refine (ev_aload_n dX9_crowd_53 rfl).trans ?_
          refine (ev_getI2 dX9_crowd_54 f_9_90 rfl (v := (μ3 r0 40 o0 8)) (rfl)).trans ((and_iff_right (by decide)).trans ?_)
          refine (ev_iload_n dX9_crowd_57 rfl).trans ?_
          refine (ev_iast dX9_crowd_58 (by decide)).trans (and_congr_right fun _ => ?_)
          refine (ev_aload_n dX9_crowd_59 rfl).trans ?_
          refine (ev_getR dX9_crowd_60 f_9_23 rfl).trans ((and_iff_right (by decide)).trans ?_)
          refine (ev_aload_n dX9_crowd_63 rfl).trans ?_
          refine (ev_getI2 dX9_crowd_64 f_9_90 rfl (v := (μ3 r0 40 o0 8)) ((mget_a (by decide)).trans (rfl))).trans ((and_iff_right (by decide)).trans ?_)
          refine (ev_iload_n dX9_crowd_67 rfl).trans ?_
          refine (ev_iast dX9_crowd_68 (by decide)).trans (and_congr_right fun _ => ?_)
          refine (ev_aload_n dX9_crowd_69 rfl).trans ?_
          refine (ev_getR dX9_crowd_70 f_9_26 rfl).trans ((and_iff_right (by decide)).trans ?_)
          refine (ev_aload_n dX9_crowd_73 rfl).trans ?_
          refine (ev_getI2 dX9_crowd_74 f_9_90 rfl (v := (μ3 r0 40 o0 8)) ((mget_a (by decide)).trans ((mget_a (by decide)).trans (rfl)))).trans ((and_iff_right (by decide)).trans ?_)
          refine (ev_iload_n dX9_crowd_77 rfl).trans ?_
          refine (ev_iast dX9_crowd_78 (by decide)).trans (and_congr_right fun _ => ?_)
          refine (ev_aload_n dX9_crowd_79 rfl).trans ?_
          refine (ev_dup dX9_crowd_80).trans ?_
          refine (ev_getI2 dX9_crowd_81 f_9_90 rfl (v := (μ3 r0 40 o0 8)) ((mget_a (by decide)).trans ((mget_a (by decide)).trans ((mget_a (by decide)).trans (rfl))))).trans ((and_iff_right (by decide)).trans ?_)
          refine (ev_iconst dX9_crowd_84 (w := 1) (by decide)).trans ?_
          refine (ev_iadd dX9_crowd_85).trans ?_
          refine (ev_put dX9_crowd_86 f_9_90 rfl (by decide)).trans ((and_iff_right (by decide)).trans ?_)
          refine (ev_aload_n dX9_crowd_89 rfl).trans ?_
          refine (ev_getI2 dX9_crowd_90 f_9_90 rfl (v := ((μ3 r0 40 o0 8) + 1)) (mget_s)).trans ((and_iff_right (by decide)).trans ?_)
          exact ev_ireturn dX9_crowd_93 rfl
        · refine (ev_bipush dX9_crowd_46 (w := (-2)) (by decide)).trans ?_
          exact ev_ireturn dX9_crowd_48 rfl
      · exact Iff.rfl
theorem B82_35 {C : Nat → List AV → Mem → Res → Prop} {μ : Mem} {res : Res} {x1 x2 x3 : Int32} {r0 o0 : Nat} : EvE C 82 35 [some (.inr (r0, 40, o0)), some (.inl x1), some (.inl x2), some (.inl x3)] [] μ res ↔ res = (some (-1), μ) := by
  refine (ev_iconst dX9_crowd_35 (w := (-1)) (by decide)).trans ?_
  exact ev_ireturn dX9_crowd_36 rfl
/-! X9_usual -/
theorem B83_0 {C : Nat → List AV → Mem → Res → Prop} {μ : Mem} {res : Res} {x1 : Int32} {r0 o0 : Nat} : EvE C 83 0 [some (.inr (r0, 40, o0)), some (.inl x1), none] [] μ res ↔ ∃ v1 μ1, C 74 [.inl x1, .inl 1, .inl 12] μ (some v1, μ1) ∧ ((¬ v1 = 0 → EvE C 83 19 [some (.inr (r0, 40, o0)), some (.inl x1), some (.inl 0)] [] (mset μ1 r0 40 o0 9 x1) res) ∧ (¬ (¬ v1 = 0) → res = (some (-1), μ1))) := by
  refine (ev_iload_n dX9_usual_0 rfl).trans ?_
  refine (ev_iconst dX9_usual_1 (w := 1) (by decide)).trans ?_
  refine (ev_bipush dX9_usual_2 (w := 12) (by decide)).trans ?_
  refine (ev_staI dX9_usual_4 c_9_64 (by decide) (As := [.inl x1, .inl 1, .inl 12]) rfl rfl (by decide) rfl (Nat.le_of_ble_eq_true rfl)).trans (exists_congr fun v1 => exists_congr fun μ1 => and_congr_right fun _ => ?_)
  refine (ev_ifc dX9_usual_7 (t := 12) (by decide)).trans (and_congr (imp_congr Iff.rfl ?_) (imp_congr Iff.rfl ?_))
  · refine (ev_aload_n dX9_usual_12 rfl).trans ?_
    refine (ev_iload_n dX9_usual_13 rfl).trans ?_
    refine (ev_put dX9_usual_14 f_9_93 rfl (by decide)).trans ((and_iff_right (by decide)).trans ?_)
    refine (ev_iconst dX9_usual_17 (w := 0) (by decide)).trans ?_
    refine (ev_istore_n dX9_usual_18 (Nat.le_of_ble_eq_true rfl) rfl).trans ?_
    exact Iff.rfl
  · refine (ev_iconst dX9_usual_10 (w := (-1)) (by decide)).trans ?_
    exact ev_ireturn dX9_usual_11 rfl
theorem B83_19 {C : Nat → List AV → Mem → Res → Prop} {μ : Mem} {res : Res} {x1 x2 : Int32} {r0 o0 : Nat} : EvE C 83 19 [some (.inr (r0, 40, o0)), some (.inl x1), some (.inl x2)] [] μ res ↔ ((12 ≤ x2 → res = (some 1, μ)) ∧ (¬ (12 ≤ x2) → vp_in x2 12 ∧ EvE C 83 19 [some (.inr (r0, 40, o0)), some (.inl x1), some (.inl (x2 + 1))] [] (mset μ r0 47 o0 x2.toNatClampNeg 0) res)) := by
  refine (ev_iload_n dX9_usual_19 rfl).trans ?_
  refine (ev_bipush dX9_usual_20 (w := 12) (by decide)).trans ?_
  refine (ev_icmp dX9_usual_22 (t := 38) (by decide)).trans (and_congr (imp_congr Iff.rfl ?_) (imp_congr Iff.rfl ?_))
  · refine (ev_iconst dX9_usual_38 (w := 1) (by decide)).trans ?_
    exact ev_ireturn dX9_usual_39 rfl
  · refine (ev_aload_n dX9_usual_25 rfl).trans ?_
    refine (ev_getR dX9_usual_26 f_9_32 rfl).trans ((and_iff_right (by decide)).trans ?_)
    refine (ev_iload_n dX9_usual_29 rfl).trans ?_
    refine (ev_iconst dX9_usual_30 (w := 0) (by decide)).trans ?_
    refine (ev_iast dX9_usual_31 (by decide)).trans (and_congr_right fun _ => ?_)
    refine (ev_iinc dX9_usual_32 rfl (w := 1) (by decide) rfl).trans ?_
    refine (ev_goto dX9_usual_35 (t := 19) (by decide)).trans ?_
    exact Iff.rfl
/-! X9_place -/
theorem B84_0 {C : Nat → List AV → Mem → Res → Prop} {μ : Mem} {res : Res} {x1 x2 x3 : Int32} {r0 o0 : Nat} : EvE C 84 0 [some (.inr (r0, 40, o0)), some (.inl x1), some (.inl x2), some (.inl x3)] [] μ res ↔ ((x1 < 0 → EvE C 84 28 [some (.inr (r0, 40, o0)), some (.inl x1), some (.inl x2), some (.inl x3)] [] μ res) ∧ (¬ (x1 < 0) → (((μ r0 40 o0 9) ≤ x1 → EvE C 84 28 [some (.inr (r0, 40, o0)), some (.inl x1), some (.inl x2), some (.inl x3)] [] μ res) ∧ (¬ ((μ r0 40 o0 9) ≤ x1) → ∃ v1 μ1, C 76 [.inl x2] μ (some v1, μ1) ∧ ((v1 = 0 → EvE C 84 28 [some (.inr (r0, 40, o0)), some (.inl x1), some (.inl x2), some (.inl x3)] [] μ1 res) ∧ (¬ (v1 = 0) → ∃ v2 μ2, C 74 [.inl x3, .inl 0, .inl 5] μ1 (some v2, μ2) ∧ ((¬ v2 = 0 → vp_in x1 12 ∧ vp_in x1 12 ∧ res = (some 1, (mset (mset μ2 r0 46 o0 x1.toNatClampNeg x2) r0 47 o0 x1.toNatClampNeg x3))) ∧ (¬ (¬ v2 = 0) → EvE C 84 28 [some (.inr (r0, 40, o0)), some (.inl x1), some (.inl x2), some (.inl x3)] [] μ2 res)))))))) := by
  refine (ev_iload_n dX9_place_0 rfl).trans ?_
  refine (ev_ifc dX9_place_1 (t := 28) (by decide)).trans (and_congr (imp_congr Iff.rfl ?_) (imp_congr Iff.rfl ?_))
  · exact Iff.rfl
  · refine (ev_iload_n dX9_place_4 rfl).trans ?_
    refine (ev_aload_n dX9_place_5 rfl).trans ?_
    refine (ev_getI2 dX9_place_6 f_9_93 rfl (v := (μ r0 40 o0 9)) (rfl)).trans ((and_iff_right (by decide)).trans ?_)
    refine (ev_icmp dX9_place_9 (t := 28) (by decide)).trans (and_congr (imp_congr Iff.rfl ?_) (imp_congr Iff.rfl ?_))
    · exact Iff.rfl
    · refine (ev_iload_n dX9_place_12 rfl).trans ?_
      refine (ev_staI dX9_place_13 c_9_87 (by decide) (As := [.inl x2]) rfl rfl (by decide) rfl (Nat.le_of_ble_eq_true rfl)).trans (exists_congr fun v1 => exists_congr fun μ1 => and_congr_right fun _ => ?_)
      refine (ev_ifc dX9_place_16 (t := 28) (by decide)).trans (and_congr (imp_congr Iff.rfl ?_) (imp_congr Iff.rfl ?_))
      · exact Iff.rfl
      · refine (ev_iload_n dX9_place_19 rfl).trans ?_
        refine (ev_iconst dX9_place_20 (w := 0) (by decide)).trans ?_
        refine (ev_iconst dX9_place_21 (w := 5) (by decide)).trans ?_
        refine (ev_staI dX9_place_22 c_9_64 (by decide) (As := [.inl x3, .inl 0, .inl 5]) rfl rfl (by decide) rfl (Nat.le_of_ble_eq_true rfl)).trans (exists_congr fun v2 => exists_congr fun μ2 => and_congr_right fun _ => ?_)
        refine (ev_ifc dX9_place_25 (t := 30) (by decide)).trans (and_congr (imp_congr Iff.rfl ?_) (imp_congr Iff.rfl ?_))
        · refine (ev_aload_n dX9_place_30 rfl).trans ?_
          refine (ev_getR dX9_place_31 f_9_29 rfl).trans ((and_iff_right (by decide)).trans ?_)
          refine (ev_iload_n dX9_place_34 rfl).trans ?_
          refine (ev_iload_n dX9_place_35 rfl).trans ?_
          refine (ev_iast dX9_place_36 (by decide)).trans (and_congr_right fun _ => ?_)
          refine (ev_aload_n dX9_place_37 rfl).trans ?_
          refine (ev_getR dX9_place_38 f_9_32 rfl).trans ((and_iff_right (by decide)).trans ?_)
          refine (ev_iload_n dX9_place_41 rfl).trans ?_
          refine (ev_iload_n dX9_place_42 rfl).trans ?_
          refine (ev_iast dX9_place_43 (by decide)).trans (and_congr_right fun _ => ?_)
          refine (ev_iconst dX9_place_44 (w := 1) (by decide)).trans ?_
          exact ev_ireturn dX9_place_45 rfl
        · exact Iff.rfl
theorem B84_28 {C : Nat → List AV → Mem → Res → Prop} {μ : Mem} {res : Res} {x1 x2 x3 : Int32} {r0 o0 : Nat} : EvE C 84 28 [some (.inr (r0, 40, o0)), some (.inl x1), some (.inl x2), some (.inl x3)] [] μ res ↔ res = (some (-1), μ) := by
  refine (ev_iconst dX9_place_28 (w := (-1)) (by decide)).trans ?_
  exact ev_ireturn dX9_place_29 rfl
/-! X9_placeOf -/
theorem B85_0 {C : Nat → List AV → Mem → Res → Prop} {μ : Mem} {res : Res} {x1 : Int32} {r0 o0 : Nat} : EvE C 85 0 [some (.inr (r0, 40, o0)), some (.inl x1), none] [] μ res ↔ EvE C 85 2 [some (.inr (r0, 40, o0)), some (.inl x1), some (.inl 0)] [] μ res := by
  refine (ev_iconst dX9_placeOf_0 (w := 0) (by decide)).trans ?_
  refine (ev_istore_n dX9_placeOf_1 (Nat.le_of_ble_eq_true rfl) rfl).trans ?_
  exact Iff.rfl
theorem B85_2 {C : Nat → List AV → Mem → Res → Prop} {μ : Mem} {res : Res} {x1 x2 : Int32} {r0 o0 : Nat} : EvE C 85 2 [some (.inr (r0, 40, o0)), some (.inl x1), some (.inl x2)] [] μ res ↔ (((μ (r0 + 1) 60 o0 15) ≤ x2 → res = (some (-1), μ)) ∧ (¬ ((μ (r0 + 1) 60 o0 15) ≤ x2) → vp_in x2 120 ∧ ((¬ (μ (r0 + 1) 67 o0 x2.toNatClampNeg) = x1 → EvE C 85 2 [some (.inr (r0, 40, o0)), some (.inl x1), some (.inl (x2 + 1))] [] μ res) ∧ (¬ (¬ (μ (r0 + 1) 67 o0 x2.toNatClampNeg) = x1) → res = (some x2, μ))))) := by
  refine (ev_iload_n dX9_placeOf_2 rfl).trans ?_
  refine (ev_aload_n dX9_placeOf_3 rfl).trans ?_
  refine (ev_getR dX9_placeOf_4 f_9_38 rfl).trans ((and_iff_right (by decide)).trans ?_)
  refine (ev_getI2 dX9_placeOf_7 f_9_96 rfl (v := (μ (r0 + 1) 60 o0 15)) (rfl)).trans ((and_iff_right (by decide)).trans ?_)
  refine (ev_icmp dX9_placeOf_10 (t := 34) (by decide)).trans (and_congr (imp_congr Iff.rfl ?_) (imp_congr Iff.rfl ?_))
  · refine (ev_iconst dX9_placeOf_34 (w := (-1)) (by decide)).trans ?_
    exact ev_ireturn dX9_placeOf_35 rfl
  · refine (ev_aload_n dX9_placeOf_13 rfl).trans ?_
    refine (ev_getR dX9_placeOf_14 f_9_38 rfl).trans ((and_iff_right (by decide)).trans ?_)
    refine (ev_getR dX9_placeOf_17 f_9_99 rfl).trans ((and_iff_right (by decide)).trans ?_)
    refine (ev_iload_n dX9_placeOf_20 rfl).trans ?_
    refine (ev_iald2 dX9_placeOf_21 (by decide) (v := (μ (r0 + 1) 67 o0 x2.toNatClampNeg)) (rfl)).trans (and_congr_right fun _ => ?_)
    refine (ev_iload_n dX9_placeOf_22 rfl).trans ?_
    refine (ev_icmp dX9_placeOf_23 (t := 28) (by decide)).trans (and_congr (imp_congr Iff.rfl ?_) (imp_congr Iff.rfl ?_))
    · refine (ev_iinc dX9_placeOf_28 rfl (w := 1) (by decide) rfl).trans ?_
      refine (ev_goto dX9_placeOf_31 (t := 2) (by decide)).trans ?_
      exact Iff.rfl
    · refine (ev_iload_n dX9_placeOf_26 rfl).trans ?_
      exact ev_ireturn dX9_placeOf_27 rfl
/-! X9_guestOf -/
theorem B86_0 {C : Nat → List AV → Mem → Res → Prop} {μ : Mem} {res : Res} {x1 : Int32} {r0 o0 : Nat} : EvE C 86 0 [some (.inr (r0, 40, o0)), some (.inl x1), none] [] μ res ↔ EvE C 86 2 [some (.inr (r0, 40, o0)), some (.inl x1), some (.inl 0)] [] μ res := by
  refine (ev_iconst dX9_guestOf_0 (w := 0) (by decide)).trans ?_
  refine (ev_istore_n dX9_guestOf_1 (Nat.le_of_ble_eq_true rfl) rfl).trans ?_
  exact Iff.rfl
theorem B86_2 {C : Nat → List AV → Mem → Res → Prop} {μ : Mem} {res : Res} {x1 x2 : Int32} {r0 o0 : Nat} : EvE C 86 2 [some (.inr (r0, 40, o0)), some (.inl x1), some (.inl x2)] [] μ res ↔ (((μ (r0 + 1) 60 o0 22) ≤ x2 → res = (some (-1), μ)) ∧ (¬ ((μ (r0 + 1) 60 o0 22) ≤ x2) → vp_in x2 100 ∧ ((¬ (μ (r0 + 1) 76 o0 x2.toNatClampNeg) = x1 → EvE C 86 2 [some (.inr (r0, 40, o0)), some (.inl x1), some (.inl (x2 + 1))] [] μ res) ∧ (¬ (¬ (μ (r0 + 1) 76 o0 x2.toNatClampNeg) = x1) → res = (some x2, μ))))) := by
  refine (ev_iload_n dX9_guestOf_2 rfl).trans ?_
  refine (ev_aload_n dX9_guestOf_3 rfl).trans ?_
  refine (ev_getR dX9_guestOf_4 f_9_38 rfl).trans ((and_iff_right (by decide)).trans ?_)
  refine (ev_getI2 dX9_guestOf_7 f_9_102 rfl (v := (μ (r0 + 1) 60 o0 22)) (rfl)).trans ((and_iff_right (by decide)).trans ?_)
  refine (ev_icmp dX9_guestOf_10 (t := 34) (by decide)).trans (and_congr (imp_congr Iff.rfl ?_) (imp_congr Iff.rfl ?_))
  · refine (ev_iconst dX9_guestOf_34 (w := (-1)) (by decide)).trans ?_
    exact ev_ireturn dX9_guestOf_35 rfl
  · refine (ev_aload_n dX9_guestOf_13 rfl).trans ?_
    refine (ev_getR dX9_guestOf_14 f_9_38 rfl).trans ((and_iff_right (by decide)).trans ?_)
    refine (ev_getR dX9_guestOf_17 f_9_105 rfl).trans ((and_iff_right (by decide)).trans ?_)
    refine (ev_iload_n dX9_guestOf_20 rfl).trans ?_
    refine (ev_iald2 dX9_guestOf_21 (by decide) (v := (μ (r0 + 1) 76 o0 x2.toNatClampNeg)) (rfl)).trans (and_congr_right fun _ => ?_)
    refine (ev_iload_n dX9_guestOf_22 rfl).trans ?_
    refine (ev_icmp dX9_guestOf_23 (t := 28) (by decide)).trans (and_congr (imp_congr Iff.rfl ?_) (imp_congr Iff.rfl ?_))
    · refine (ev_iinc dX9_guestOf_28 rfl (w := 1) (by decide) rfl).trans ?_
      refine (ev_goto dX9_guestOf_31 (t := 2) (by decide)).trans ?_
      exact Iff.rfl
    · refine (ev_iload_n dX9_guestOf_26 rfl).trans ?_
      exact ev_ireturn dX9_guestOf_27 rfl
/-! X9_add -/
theorem B87_0 {C : Nat → List AV → Mem → Res → Prop} {μ : Mem} {res : Res} {x1 x2 : Int32} {r0 o0 : Nat} : EvE C 87 0 [some (.inr (r0, 40, o0)), some (.inl x1), some (.inl x2)] [] μ res ↔ vp_in ((13 * x1) + x2) 78 ∧ vp_in ((13 * x1) + x2) 78 ∧ res = (none, (mset μ (r0 + 1) 63 o0 ((13 * x1) + x2).toNatClampNeg ((μ (r0 + 1) 63 o0 ((13 * x1) + x2).toNatClampNeg) + 1))) := by
  refine (ev_aload_n dX9_add_0 rfl).trans ?_
  refine (ev_getR dX9_add_1 f_9_38 rfl).trans ((and_iff_right (by decide)).trans ?_)
  refine (ev_getR dX9_add_4 f_9_108 rfl).trans ((and_iff_right (by decide)).trans ?_)
  refine (ev_bipush dX9_add_7 (w := 13) (by decide)).trans ?_
  refine (ev_iload_n dX9_add_9 rfl).trans ?_
  refine (ev_imul dX9_add_10).trans ?_
  refine (ev_iload_n dX9_add_11 rfl).trans ?_
  refine (ev_iadd dX9_add_12).trans ?_
  refine (ev_dup2 dX9_add_13).trans ?_
  refine (ev_iald2 dX9_add_14 (by decide) (v := (μ (r0 + 1) 63 o0 ((13 * x1) + x2).toNatClampNeg)) (rfl)).trans (and_congr_right fun _ => ?_)
  refine (ev_iconst dX9_add_15 (w := 1) (by decide)).trans ?_
  refine (ev_iadd dX9_add_16).trans ?_
  refine (ev_iast dX9_add_17 (by decide)).trans (and_congr_right fun _ => ?_)
  exact ev_return dX9_add_18 rfl
/-! X9_handsInUse -/
theorem B88_0 {C : Nat → List AV → Mem → Res → Prop} {μ : Mem} {res : Res} {x1 : Int32} {r0 o0 : Nat} : EvE C 88 0 [some (.inr (r0, 40, o0)), some (.inl x1), none, none] [] μ res ↔ EvE C 88 4 [some (.inr (r0, 40, o0)), some (.inl x1), some (.inl 0), some (.inl 0)] [] μ res := by
  refine (ev_iconst dX9_handsInUse_0 (w := 0) (by decide)).trans ?_
  refine (ev_istore_n dX9_handsInUse_1 (Nat.le_of_ble_eq_true rfl) rfl).trans ?_
  refine (ev_iconst dX9_handsInUse_2 (w := 0) (by decide)).trans ?_
  refine (ev_istore_n dX9_handsInUse_3 (Nat.le_of_ble_eq_true rfl) rfl).trans ?_
  exact Iff.rfl
theorem B88_4 {C : Nat → List AV → Mem → Res → Prop} {μ : Mem} {res : Res} {x1 x2 x3 : Int32} {r0 o0 : Nat} : EvE C 88 4 [some (.inr (r0, 40, o0)), some (.inl x1), some (.inl x2), some (.inl x3)] [] μ res ↔ (((μ (r0 + 1) 60 o0 15) ≤ x3 → res = (some x2, μ)) ∧ (¬ ((μ (r0 + 1) 60 o0 15) ≤ x3) → vp_in x3 120 ∧ ((¬ (μ (r0 + 1) 68 o0 x3.toNatClampNeg) = x1 → EvE C 88 45 [some (.inr (r0, 40, o0)), some (.inl x1), some (.inl x2), some (.inl x3)] [.inl x2] μ res) ∧ (¬ (¬ (μ (r0 + 1) 68 o0 x3.toNatClampNeg) = x1) → vp_in x3 120 ∧ (((μ (r0 + 1) 70 o0 x3.toNatClampNeg) = 0 → EvE C 88 45 [some (.inr (r0, 40, o0)), some (.inl x1), some (.inl x2), some (.inl x3)] [.inl x2] μ res) ∧ (¬ ((μ (r0 + 1) 70 o0 x3.toNatClampNeg) = 0) → EvE C 88 46 [some (.inr (r0, 40, o0)), some (.inl x1), some (.inl x2), some (.inl x3)] [.inl 1, .inl x2] μ res)))))) := by
  refine (ev_iload_n dX9_handsInUse_4 rfl).trans ?_
  refine (ev_aload_n dX9_handsInUse_5 rfl).trans ?_
  refine (ev_getR dX9_handsInUse_6 f_9_38 rfl).trans ((and_iff_right (by decide)).trans ?_)
  refine (ev_getI2 dX9_handsInUse_9 f_9_96 rfl (v := (μ (r0 + 1) 60 o0 15)) (rfl)).trans ((and_iff_right (by decide)).trans ?_)
  refine (ev_icmp dX9_handsInUse_12 (t := 54) (by decide)).trans (and_congr (imp_congr Iff.rfl ?_) (imp_congr Iff.rfl ?_))
  · refine (ev_iload_n dX9_handsInUse_54 rfl).trans ?_
    exact ev_ireturn dX9_handsInUse_55 rfl
  · refine (ev_iload_n dX9_handsInUse_15 rfl).trans ?_
    refine (ev_aload_n dX9_handsInUse_16 rfl).trans ?_
    refine (ev_getR dX9_handsInUse_17 f_9_38 rfl).trans ((and_iff_right (by decide)).trans ?_)
    refine (ev_getR dX9_handsInUse_20 f_9_111 rfl).trans ((and_iff_right (by decide)).trans ?_)
    refine (ev_iload_n dX9_handsInUse_23 rfl).trans ?_
    refine (ev_iald2 dX9_handsInUse_24 (by decide) (v := (μ (r0 + 1) 68 o0 x3.toNatClampNeg)) (rfl)).trans (and_congr_right fun _ => ?_)
    refine (ev_iload_n dX9_handsInUse_25 rfl).trans ?_
    refine (ev_icmp dX9_handsInUse_26 (t := 45) (by decide)).trans (and_congr (imp_congr Iff.rfl ?_) (imp_congr Iff.rfl ?_))
    · exact Iff.rfl
    · refine (ev_aload_n dX9_handsInUse_29 rfl).trans ?_
      refine (ev_getR dX9_handsInUse_30 f_9_38 rfl).trans ((and_iff_right (by decide)).trans ?_)
      refine (ev_getR dX9_handsInUse_33 f_9_114 rfl).trans ((and_iff_right (by decide)).trans ?_)
      refine (ev_iload_n dX9_handsInUse_36 rfl).trans ?_
      refine (ev_iald2 dX9_handsInUse_37 (by decide) (v := (μ (r0 + 1) 70 o0 x3.toNatClampNeg)) (rfl)).trans (and_congr_right fun _ => ?_)
      refine (ev_ifc dX9_handsInUse_38 (t := 45) (by decide)).trans (and_congr (imp_congr Iff.rfl ?_) (imp_congr Iff.rfl ?_))
      · exact Iff.rfl
      · refine (ev_iconst dX9_handsInUse_41 (w := 1) (by decide)).trans ?_
        refine (ev_goto dX9_handsInUse_42 (t := 46) (by decide)).trans ?_
        exact Iff.rfl
theorem B88_45 {C : Nat → List AV → Mem → Res → Prop} {μ : Mem} {res : Res} {x1 x2 x3 w0 : Int32} {r0 o0 : Nat} : EvE C 88 45 [some (.inr (r0, 40, o0)), some (.inl x1), some (.inl x2), some (.inl x3)] [.inl w0] μ res ↔ EvE C 88 46 [some (.inr (r0, 40, o0)), some (.inl x1), some (.inl x2), some (.inl x3)] [.inl 0, .inl w0] μ res := by
  refine (ev_iconst dX9_handsInUse_45 (w := 0) (by decide)).trans ?_
  exact Iff.rfl
theorem B88_46 {C : Nat → List AV → Mem → Res → Prop} {μ : Mem} {res : Res} {x1 x2 x3 w0 w1 : Int32} {r0 o0 : Nat} : EvE C 88 46 [some (.inr (r0, 40, o0)), some (.inl x1), some (.inl x2), some (.inl x3)] [.inl w1, .inl w0] μ res ↔ EvE C 88 4 [some (.inr (r0, 40, o0)), some (.inl x1), some (.inl (w0 + w1)), some (.inl (x3 + 1))] [] μ res := by
  refine (ev_iadd dX9_handsInUse_46).trans ?_
  refine (ev_istore_n dX9_handsInUse_47 (Nat.le_of_ble_eq_true rfl) rfl).trans ?_
  refine (ev_iinc dX9_handsInUse_48 rfl (w := 1) (by decide) rfl).trans ?_
  refine (ev_goto dX9_handsInUse_51 (t := 4) (by decide)).trans ?_
  exact Iff.rfl
/-! X9_takeOut -/
theorem B89_0 {C : Nat → List AV → Mem → Res → Prop} {μ : Mem} {res : Res} {x1 : Int32} {r0 o0 : Nat} : EvE C 89 0 [some (.inr (r0, 40, o0)), some (.inl x1), none, none] [] μ res ↔ ∃ v1 μ1, C 85 [.inr (r0, 40, o0), .inl x1] μ (some v1, μ1) ∧ EvE C 89 21 [some (.inr (r0, 40, o0)), some (.inl x1), some (.inl v1), some (.inl v1)] [] (mset μ1 (r0 + 1) 60 o0 15 ((μ1 (r0 + 1) 60 o0 15) - 1)) res := by
  refine (ev_aload_n dX9_takeOut_0 rfl).trans ?_
  refine (ev_iload_n dX9_takeOut_1 rfl).trans ?_
  refine (ev_virI dX9_takeOut_2 c_9_117 (by decide) (As := [.inl x1]) rfl rfl (by decide) rfl (Nat.le_of_ble_eq_true rfl)).trans ((and_iff_right (by decide)).trans (exists_congr fun v1 => exists_congr fun μ1 => and_congr_right fun _ => ?_))
  refine (ev_istore_n dX9_takeOut_5 (Nat.le_of_ble_eq_true rfl) rfl).trans ?_
  refine (ev_aload_n dX9_takeOut_6 rfl).trans ?_
  refine (ev_getR dX9_takeOut_7 f_9_38 rfl).trans ((and_iff_right (by decide)).trans ?_)
  refine (ev_dup dX9_takeOut_10).trans ?_
  refine (ev_getI2 dX9_takeOut_11 f_9_96 rfl (v := (μ1 (r0 + 1) 60 o0 15)) (rfl)).trans ((and_iff_right (by decide)).trans ?_)
  refine (ev_iconst dX9_takeOut_14 (w := 1) (by decide)).trans ?_
  refine (ev_isub dX9_takeOut_15).trans ?_
  refine (ev_put dX9_takeOut_16 f_9_96 rfl (by decide)).trans ((and_iff_right (by decide)).trans ?_)
  refine (ev_iload_n dX9_takeOut_19 rfl).trans ?_
  refine (ev_istore_n dX9_takeOut_20 (Nat.le_of_ble_eq_true rfl) rfl).trans ?_
  exact Iff.rfl
theorem B89_21 {C : Nat → List AV → Mem → Res → Prop} {μ : Mem} {res : Res} {x1 x2 x3 : Int32} {r0 o0 : Nat} : EvE C 89 21 [some (.inr (r0, 40, o0)), some (.inl x1), some (.inl x2), some (.inl x3)] [] μ res ↔ (((μ (r0 + 1) 60 o0 15) ≤ x3 → res = (none, μ)) ∧ (¬ ((μ (r0 + 1) 60 o0 15) ≤ x3) → vp_in (x3 + 1) 120 ∧ vp_in x3 120 ∧ vp_in (x3 + 1) 120 ∧ vp_in x3 120 ∧ vp_in (x3 + 1) 120 ∧ vp_in x3 120 ∧ vp_in (x3 + 1) 120 ∧ vp_in x3 120 ∧ vp_in (x3 + 1) 120 ∧ vp_in x3 120 ∧ vp_in (x3 + 1) 120 ∧ vp_in x3 120 ∧ vp_in (x3 + 1) 120 ∧ vp_in x3 120 ∧ vp_in (x3 + 1) 120 ∧ vp_in x3 120 ∧ EvE C 89 21 [some (.inr (r0, 40, o0)), some (.inl x1), some (.inl x2), some (.inl (x3 + 1))] [] (mset (mset (mset (mset (mset (mset (mset (mset μ (r0 + 1) 67 o0 x3.toNatClampNeg (μ (r0 + 1) 67 o0 (x3 + 1).toNatClampNeg)) (r0 + 1) 68 o0 x3.toNatClampNeg (μ (r0 + 1) 68 o0 (x3 + 1).toNatClampNeg)) (r0 + 1) 69 o0 x3.toNatClampNeg (μ (r0 + 1) 69 o0 (x3 + 1).toNatClampNeg)) (r0 + 1) 70 o0 x3.toNatClampNeg (μ (r0 + 1) 70 o0 (x3 + 1).toNatClampNeg)) (r0 + 1) 71 o0 x3.toNatClampNeg (μ (r0 + 1) 71 o0 (x3 + 1).toNatClampNeg)) (r0 + 1) 72 o0 x3.toNatClampNeg (μ (r0 + 1) 72 o0 (x3 + 1).toNatClampNeg)) (r0 + 1) 73 o0 x3.toNatClampNeg (μ (r0 + 1) 73 o0 (x3 + 1).toNatClampNeg)) (r0 + 1) 74 o0 x3.toNatClampNeg (μ (r0 + 1) 74 o0 (x3 + 1).toNatClampNeg)) res)) := by
  refine (ev_iload_n dX9_takeOut_21 rfl).trans ?_
  refine (ev_aload_n dX9_takeOut_22 rfl).trans ?_
  refine (ev_getR dX9_takeOut_23 f_9_38 rfl).trans ((and_iff_right (by decide)).trans ?_)
  refine (ev_getI2 dX9_takeOut_26 f_9_96 rfl (v := (μ (r0 + 1) 60 o0 15)) (rfl)).trans ((and_iff_right (by decide)).trans ?_)
  refine (ev_icmp dX9_takeOut_29 (t := 198) (by decide)).trans (and_congr (imp_congr Iff.rfl ?_) (imp_congr Iff.rfl ?_))
  · exact ev_return dX9_takeOut_198 rfl
  · refine (ev_aload_n dX9_takeOut_32 rfl).trans ?_
    refine (ev_getR dX9_takeOut_33 f_9_38 rfl).trans ((and_iff_right (by decide)).trans ?_)
    refine (ev_getR dX9_takeOut_36 f_9_99 rfl).trans ((and_iff_right (by decide)).trans ?_)
    refine (ev_iload_n dX9_takeOut_39 rfl).trans ?_
    refine (ev_aload_n dX9_takeOut_40 rfl).trans ?_
    refine (ev_getR dX9_takeOut_41 f_9_38 rfl).trans ((and_iff_right (by decide)).trans ?_)
    refine (ev_getR dX9_takeOut_44 f_9_99 rfl).trans ((and_iff_right (by decide)).trans ?_)
    refine (ev_iload_n dX9_takeOut_47 rfl).trans ?_
    refine (ev_iconst dX9_takeOut_48 (w := 1) (by decide)).trans ?_
    refine (ev_iadd dX9_takeOut_49).trans ?_
    refine (ev_iald2 dX9_takeOut_50 (by decide) (v := (μ (r0 + 1) 67 o0 (x3 + 1).toNatClampNeg)) (rfl)).trans (and_congr_right fun _ => ?_)
    refine (ev_iast dX9_takeOut_51 (by decide)).trans (and_congr_right fun _ => ?_)
    refine (ev_aload_n dX9_takeOut_52 rfl).trans ?_
    refine (ev_getR dX9_takeOut_53 f_9_38 rfl).trans ((and_iff_right (by decide)).trans ?_)
    refine (ev_getR dX9_takeOut_56 f_9_111 rfl).trans ((and_iff_right (by decide)).trans ?_)
    refine (ev_iload_n dX9_takeOut_59 rfl).trans ?_
    refine (ev_aload_n dX9_takeOut_60 rfl).trans ?_
    refine (ev_getR dX9_takeOut_61 f_9_38 rfl).trans ((and_iff_right (by decide)).trans ?_)
    refine (ev_getR dX9_takeOut_64 f_9_111 rfl).trans ((and_iff_right (by decide)).trans ?_)
    refine (ev_iload_n dX9_takeOut_67 rfl).trans ?_
    refine (ev_iconst dX9_takeOut_68 (w := 1) (by decide)).trans ?_
    refine (ev_iadd dX9_takeOut_69).trans ?_
    refine (ev_iald2 dX9_takeOut_70 (by decide) (v := (μ (r0 + 1) 68 o0 (x3 + 1).toNatClampNeg)) ((mget_a (by decide)).trans (rfl))).trans (and_congr_right fun _ => ?_)
    refine (ev_iast dX9_takeOut_71 (by decide)).trans (and_congr_right fun _ => ?_)
    refine (ev_aload_n dX9_takeOut_72 rfl).trans ?_
    refine (ev_getR dX9_takeOut_73 f_9_38 rfl).trans ((and_iff_right (by decide)).trans ?_)
    refine (ev_getR dX9_takeOut_76 f_9_121 rfl).trans ((and_iff_right (by decide)).trans ?_)
    refine (ev_iload_n dX9_takeOut_79 rfl).trans ?_
    refine (ev_aload_n dX9_takeOut_80 rfl).trans ?_
    refine (ev_getR dX9_takeOut_81 f_9_38 rfl).trans ((and_iff_right (by decide)).trans ?_)
    refine (ev_getR dX9_takeOut_84 f_9_121 rfl).trans ((and_iff_right (by decide)).trans ?_)
    refine (ev_iload_n dX9_takeOut_87 rfl).trans ?_
    refine (ev_iconst dX9_takeOut_88 (w := 1) (by decide)).trans ?_
    refine (ev_iadd dX9_takeOut_89).trans ?_
    refine (ev_iald2 dX9_takeOut_90 (by decide) (v := (μ (r0 + 1) 69 o0 (x3 + 1).toNatClampNeg)) ((mget_a (by decide)).trans ((mget_a (by decide)).trans (rfl)))).trans (and_congr_right fun _ => ?_)
    refine (ev_iast dX9_takeOut_91 (by decide)).trans (and_congr_right fun _ => ?_)
    refine (ev_aload_n dX9_takeOut_92 rfl).trans ?_
    refine (ev_getR dX9_takeOut_93 f_9_38 rfl).trans ((and_iff_right (by decide)).trans ?_)
    refine (ev_getR dX9_takeOut_96 f_9_114 rfl).trans ((and_iff_right (by decide)).trans ?_)
    refine (ev_iload_n dX9_takeOut_99 rfl).trans ?_
    refine (ev_aload_n dX9_takeOut_100 rfl).trans ?_
    refine (ev_getR dX9_takeOut_101 f_9_38 rfl).trans ((and_iff_right (by decide)).trans ?_)
    refine (ev_getR dX9_takeOut_104 f_9_114 rfl).trans ((and_iff_right (by decide)).trans ?_)
    refine (ev_iload_n dX9_takeOut_107 rfl).trans ?_
    refine (ev_iconst dX9_takeOut_108 (w := 1) (by decide)).trans ?_
    refine (ev_iadd dX9_takeOut_109).trans ?_
    refine (ev_iald2 dX9_takeOut_110 (by decide) (v := (μ (r0 + 1) 70 o0 (x3 + 1).toNatClampNeg)) ((mget_a (by decide)).trans ((mget_a (by decide)).trans ((mget_a (by decide)).trans (rfl))))).trans (and_congr_right fun _ => ?_)
    refine (ev_iast dX9_takeOut_111 (by decide)).trans (and_congr_right fun _ => ?_)
    refine (ev_aload_n dX9_takeOut_112 rfl).trans ?_
    refine (ev_getR dX9_takeOut_113 f_9_38 rfl).trans ((and_iff_right (by decide)).trans ?_)
    refine (ev_getR dX9_takeOut_116 f_9_124 rfl).trans ((and_iff_right (by decide)).trans ?_)
    refine (ev_iload_n dX9_takeOut_119 rfl).trans ?_
    refine (ev_aload_n dX9_takeOut_120 rfl).trans ?_
    refine (ev_getR dX9_takeOut_121 f_9_38 rfl).trans ((and_iff_right (by decide)).trans ?_)
    refine (ev_getR dX9_takeOut_124 f_9_124 rfl).trans ((and_iff_right (by decide)).trans ?_)
    refine (ev_iload_n dX9_takeOut_127 rfl).trans ?_
    refine (ev_iconst dX9_takeOut_128 (w := 1) (by decide)).trans ?_
    refine (ev_iadd dX9_takeOut_129).trans ?_
    refine (ev_iald2 dX9_takeOut_130 (by decide) (v := (μ (r0 + 1) 71 o0 (x3 + 1).toNatClampNeg)) ((mget_a (by decide)).trans ((mget_a (by decide)).trans ((mget_a (by decide)).trans ((mget_a (by decide)).trans (rfl)))))).trans (and_congr_right fun _ => ?_)
    refine (ev_iast dX9_takeOut_131 (by decide)).trans (and_congr_right fun _ => ?_)
    refine (ev_aload_n dX9_takeOut_132 rfl).trans ?_
    refine (ev_getR dX9_takeOut_133 f_9_38 rfl).trans ((and_iff_right (by decide)).trans ?_)
    refine (ev_getR dX9_takeOut_136 f_9_127 rfl).trans ((and_iff_right (by decide)).trans ?_)
    refine (ev_iload_n dX9_takeOut_139 rfl).trans ?_
    refine (ev_aload_n dX9_takeOut_140 rfl).trans ?_
    refine (ev_getR dX9_takeOut_141 f_9_38 rfl).trans ((and_iff_right (by decide)).trans ?_)
    refine (ev_getR dX9_takeOut_144 f_9_127 rfl).trans ((and_iff_right (by decide)).trans ?_)
    refine (ev_iload_n dX9_takeOut_147 rfl).trans ?_
    refine (ev_iconst dX9_takeOut_148 (w := 1) (by decide)).trans ?_
    refine (ev_iadd dX9_takeOut_149).trans ?_
    refine (ev_iald2 dX9_takeOut_150 (by decide) (v := (μ (r0 + 1) 72 o0 (x3 + 1).toNatClampNeg)) ((mget_a (by decide)).trans ((mget_a (by decide)).trans ((mget_a (by decide)).trans ((mget_a (by decide)).trans ((mget_a (by decide)).trans (rfl))))))).trans (and_congr_right fun _ => ?_)
    refine (ev_iast dX9_takeOut_151 (by decide)).trans (and_congr_right fun _ => ?_)
    refine (ev_aload_n dX9_takeOut_152 rfl).trans ?_
    refine (ev_getR dX9_takeOut_153 f_9_38 rfl).trans ((and_iff_right (by decide)).trans ?_)
    refine (ev_getR dX9_takeOut_156 f_9_130 rfl).trans ((and_iff_right (by decide)).trans ?_)
    refine (ev_iload_n dX9_takeOut_159 rfl).trans ?_
    refine (ev_aload_n dX9_takeOut_160 rfl).trans ?_
    refine (ev_getR dX9_takeOut_161 f_9_38 rfl).trans ((and_iff_right (by decide)).trans ?_)
    refine (ev_getR dX9_takeOut_164 f_9_130 rfl).trans ((and_iff_right (by decide)).trans ?_)
    refine (ev_iload_n dX9_takeOut_167 rfl).trans ?_
    refine (ev_iconst dX9_takeOut_168 (w := 1) (by decide)).trans ?_
    refine (ev_iadd dX9_takeOut_169).trans ?_
    refine (ev_iald2 dX9_takeOut_170 (by decide) (v := (μ (r0 + 1) 73 o0 (x3 + 1).toNatClampNeg)) ((mget_a (by decide)).trans ((mget_a (by decide)).trans ((mget_a (by decide)).trans ((mget_a (by decide)).trans ((mget_a (by decide)).trans ((mget_a (by decide)).trans (rfl)))))))).trans (and_congr_right fun _ => ?_)
    refine (ev_iast dX9_takeOut_171 (by decide)).trans (and_congr_right fun _ => ?_)
    refine (ev_aload_n dX9_takeOut_172 rfl).trans ?_
    refine (ev_getR dX9_takeOut_173 f_9_38 rfl).trans ((and_iff_right (by decide)).trans ?_)
    refine (ev_getR dX9_takeOut_176 f_9_133 rfl).trans ((and_iff_right (by decide)).trans ?_)
    refine (ev_iload_n dX9_takeOut_179 rfl).trans ?_
    refine (ev_aload_n dX9_takeOut_180 rfl).trans ?_
    refine (ev_getR dX9_takeOut_181 f_9_38 rfl).trans ((and_iff_right (by decide)).trans ?_)
    refine (ev_getR dX9_takeOut_184 f_9_133 rfl).trans ((and_iff_right (by decide)).trans ?_)
    refine (ev_iload_n dX9_takeOut_187 rfl).trans ?_
    refine (ev_iconst dX9_takeOut_188 (w := 1) (by decide)).trans ?_
    refine (ev_iadd dX9_takeOut_189).trans ?_
    refine (ev_iald2 dX9_takeOut_190 (by decide) (v := (μ (r0 + 1) 74 o0 (x3 + 1).toNatClampNeg)) ((mget_a (by decide)).trans ((mget_a (by decide)).trans ((mget_a (by decide)).trans ((mget_a (by decide)).trans ((mget_a (by decide)).trans ((mget_a (by decide)).trans ((mget_a (by decide)).trans (rfl))))))))).trans (and_congr_right fun _ => ?_)
    refine (ev_iast dX9_takeOut_191 (by decide)).trans (and_congr_right fun _ => ?_)
    refine (ev_iinc dX9_takeOut_192 rfl (w := 1) (by decide) rfl).trans ?_
    refine (ev_goto dX9_takeOut_195 (t := 21) (by decide)).trans ?_
    exact Iff.rfl
/-! X9_begin -/
theorem B90_0 {C : Nat → List AV → Mem → Res → Prop} {μ : Mem} {res : Res} {x1 : Int32} {r0 o0 : Nat} : EvE C 90 0 [some (.inr (r0, 40, o0)), some (.inl x1), none, none] [] μ res ↔ ∃ v1 μ1, C 85 [.inr (r0, 40, o0), .inl x1] μ (some v1, μ1) ∧ vp_in v1 120 ∧ vp_in v1 120 ∧ ∃ v2 μ2, C 77 [.inr (r0, 40, o0), .inl (μ1 (r0 + 1) 68 o0 v1.toNatClampNeg), .inl 8] (mset μ1 (r0 + 1) 70 o0 v1.toNatClampNeg 1) (some v2, μ2) ∧ vp_in v1 120 ∧ ∃ μ3, C 87 [.inr (r0, 40, o0), .inl (μ1 (r0 + 1) 68 o0 v1.toNatClampNeg), .inl 7] (mset μ2 (r0 + 1) 72 o0 v1.toNatClampNeg ((μ1 (r0 + 1) 60 o0 0) + v2)) (none, μ3) ∧ res = (none, μ3) := by
  refine (ev_aload_n dX9_begin_0 rfl).trans ?_
  refine (ev_iload_n dX9_begin_1 rfl).trans ?_
  refine (ev_virI dX9_begin_2 c_9_117 (by decide) (As := [.inl x1]) rfl rfl (by decide) rfl (Nat.le_of_ble_eq_true rfl)).trans ((and_iff_right (by decide)).trans (exists_congr fun v1 => exists_congr fun μ1 => and_congr_right fun _ => ?_))
  refine (ev_istore_n dX9_begin_5 (Nat.le_of_ble_eq_true rfl) rfl).trans ?_
  refine (ev_aload_n dX9_begin_6 rfl).trans ?_
  refine (ev_getR dX9_begin_7 f_9_38 rfl).trans ((and_iff_right (by decide)).trans ?_)
  refine (ev_getR dX9_begin_10 f_9_111 rfl).trans ((and_iff_right (by decide)).trans ?_)
  refine (ev_iload_n dX9_begin_13 rfl).trans ?_
  refine (ev_iald2 dX9_begin_14 (by decide) (v := (μ1 (r0 + 1) 68 o0 v1.toNatClampNeg)) (rfl)).trans (and_congr_right fun _ => ?_)
  refine (ev_istore_n dX9_begin_15 (Nat.le_of_ble_eq_true rfl) rfl).trans ?_
  refine (ev_aload_n dX9_begin_16 rfl).trans ?_
  refine (ev_getR dX9_begin_17 f_9_38 rfl).trans ((and_iff_right (by decide)).trans ?_)
  refine (ev_getR dX9_begin_20 f_9_114 rfl).trans ((and_iff_right (by decide)).trans ?_)
  refine (ev_iload_n dX9_begin_23 rfl).trans ?_
  refine (ev_iconst dX9_begin_24 (w := 1) (by decide)).trans ?_
  refine (ev_iast dX9_begin_25 (by decide)).trans (and_congr_right fun _ => ?_)
  refine (ev_aload_n dX9_begin_26 rfl).trans ?_
  refine (ev_getR dX9_begin_27 f_9_38 rfl).trans ((and_iff_right (by decide)).trans ?_)
  refine (ev_getR dX9_begin_30 f_9_127 rfl).trans ((and_iff_right (by decide)).trans ?_)
  refine (ev_iload_n dX9_begin_33 rfl).trans ?_
  refine (ev_aload_n dX9_begin_34 rfl).trans ?_
  refine (ev_getR dX9_begin_35 f_9_38 rfl).trans ((and_iff_right (by decide)).trans ?_)
  refine (ev_getI2 dX9_begin_38 f_9_68 rfl (v := (μ1 (r0 + 1) 60 o0 0)) ((mget_a (by decide)).trans (rfl))).trans ((and_iff_right (by decide)).trans ?_)
  refine (ev_aload_n dX9_begin_41 rfl).trans ?_
  refine (ev_iload_n dX9_begin_42 rfl).trans ?_
  refine (ev_bipush dX9_begin_43 (w := 8) (by decide)).trans ?_
  refine (ev_virI dX9_begin_45 c_9_79 (by decide) (As := [.inl (μ1 (r0 + 1) 68 o0 v1.toNatClampNeg), .inl 8]) rfl rfl (by decide) rfl (Nat.le_of_ble_eq_true rfl)).trans ((and_iff_right (by decide)).trans (exists_congr fun v2 => exists_congr fun μ2 => and_congr_right fun _ => ?_))
  refine (ev_iadd dX9_begin_48).trans ?_
  refine (ev_iast dX9_begin_49 (by decide)).trans (and_congr_right fun _ => ?_)
  refine (ev_aload_n dX9_begin_50 rfl).trans ?_
  refine (ev_iload_n dX9_begin_51 rfl).trans ?_
  refine (ev_bipush dX9_begin_52 (w := 7) (by decide)).trans ?_
  refine (ev_virV dX9_begin_54 c_9_136 (by decide) (As := [.inl (μ1 (r0 + 1) 68 o0 v1.toNatClampNeg), .inl 7]) rfl rfl rfl rfl (Nat.le_of_ble_eq_true rfl)).trans ((and_iff_right (by decide)).trans (exists_congr fun μ3 => and_congr_right fun _ => ?_))
  exact ev_return dX9_begin_57 rfl
/-! X9_leaveRow -/
theorem B91_0 {C : Nat → List AV → Mem → Res → Prop} {μ : Mem} {res : Res} {x1 : Int32} {r0 o0 : Nat} : EvE C 91 0 [some (.inr (r0, 40, o0)), some (.inl x1), none] [] μ res ↔ vp_in x1 6 ∧ vp_in x1 6 ∧ EvE C 91 15 [some (.inr (r0, 40, o0)), some (.inl x1), some (.inl 0)] [] (mset μ (r0 + 1) 66 o0 x1.toNatClampNeg ((μ (r0 + 1) 66 o0 x1.toNatClampNeg) - 1)) res := by
  refine (ev_aload_n dX9_leaveRow_0 rfl).trans ?_
  refine (ev_getR dX9_leaveRow_1 f_9_38 rfl).trans ((and_iff_right (by decide)).trans ?_)
  refine (ev_getR dX9_leaveRow_4 f_9_140 rfl).trans ((and_iff_right (by decide)).trans ?_)
  refine (ev_iload_n dX9_leaveRow_7 rfl).trans ?_
  refine (ev_dup2 dX9_leaveRow_8).trans ?_
  refine (ev_iald2 dX9_leaveRow_9 (by decide) (v := (μ (r0 + 1) 66 o0 x1.toNatClampNeg)) (rfl)).trans (and_congr_right fun _ => ?_)
  refine (ev_iconst dX9_leaveRow_10 (w := 1) (by decide)).trans ?_
  refine (ev_isub dX9_leaveRow_11).trans ?_
  refine (ev_iast dX9_leaveRow_12 (by decide)).trans (and_congr_right fun _ => ?_)
  refine (ev_iconst dX9_leaveRow_13 (w := 0) (by decide)).trans ?_
  refine (ev_istore_n dX9_leaveRow_14 (Nat.le_of_ble_eq_true rfl) rfl).trans ?_
  exact Iff.rfl
theorem B91_15 {C : Nat → List AV → Mem → Res → Prop} {μ : Mem} {res : Res} {x1 x2 : Int32} {r0 o0 : Nat} : EvE C 91 15 [some (.inr (r0, 40, o0)), some (.inl x1), some (.inl x2)] [] μ res ↔ vp_in x1 6 ∧ (((μ (r0 + 1) 66 o0 x1.toNatClampNeg) ≤ x2 → res = (none, μ)) ∧ (¬ ((μ (r0 + 1) 66 o0 x1.toNatClampNeg) ≤ x2) → vp_in (((20 * x1) + x2) + 1) 120 ∧ vp_in ((20 * x1) + x2) 120 ∧ EvE C 91 15 [some (.inr (r0, 40, o0)), some (.inl x1), some (.inl (x2 + 1))] [] (mset μ (r0 + 1) 65 o0 ((20 * x1) + x2).toNatClampNeg (μ (r0 + 1) 65 o0 (((20 * x1) + x2) + 1).toNatClampNeg)) res)) := by
  refine (ev_iload_n dX9_leaveRow_15 rfl).trans ?_
  refine (ev_aload_n dX9_leaveRow_16 rfl).trans ?_
  refine (ev_getR dX9_leaveRow_17 f_9_38 rfl).trans ((and_iff_right (by decide)).trans ?_)
  refine (ev_getR dX9_leaveRow_20 f_9_140 rfl).trans ((and_iff_right (by decide)).trans ?_)
  refine (ev_iload_n dX9_leaveRow_23 rfl).trans ?_
  refine (ev_iald2 dX9_leaveRow_24 (by decide) (v := (μ (r0 + 1) 66 o0 x1.toNatClampNeg)) (rfl)).trans (and_congr_right fun _ => ?_)
  refine (ev_icmp dX9_leaveRow_25 (t := 64) (by decide)).trans (and_congr (imp_congr Iff.rfl ?_) (imp_congr Iff.rfl ?_))
  · exact ev_return dX9_leaveRow_64 rfl
  · refine (ev_aload_n dX9_leaveRow_28 rfl).trans ?_
    refine (ev_getR dX9_leaveRow_29 f_9_38 rfl).trans ((and_iff_right (by decide)).trans ?_)
    refine (ev_getR dX9_leaveRow_32 f_9_143 rfl).trans ((and_iff_right (by decide)).trans ?_)
    refine (ev_bipush dX9_leaveRow_35 (w := 20) (by decide)).trans ?_
    refine (ev_iload_n dX9_leaveRow_37 rfl).trans ?_
    refine (ev_imul dX9_leaveRow_38).trans ?_
    refine (ev_iload_n dX9_leaveRow_39 rfl).trans ?_
    refine (ev_iadd dX9_leaveRow_40).trans ?_
    refine (ev_aload_n dX9_leaveRow_41 rfl).trans ?_
    refine (ev_getR dX9_leaveRow_42 f_9_38 rfl).trans ((and_iff_right (by decide)).trans ?_)
    refine (ev_getR dX9_leaveRow_45 f_9_143 rfl).trans ((and_iff_right (by decide)).trans ?_)
    refine (ev_bipush dX9_leaveRow_48 (w := 20) (by decide)).trans ?_
    refine (ev_iload_n dX9_leaveRow_50 rfl).trans ?_
    refine (ev_imul dX9_leaveRow_51).trans ?_
    refine (ev_iload_n dX9_leaveRow_52 rfl).trans ?_
    refine (ev_iadd dX9_leaveRow_53).trans ?_
    refine (ev_iconst dX9_leaveRow_54 (w := 1) (by decide)).trans ?_
    refine (ev_iadd dX9_leaveRow_55).trans ?_
    refine (ev_iald2 dX9_leaveRow_56 (by decide) (v := (μ (r0 + 1) 65 o0 (((20 * x1) + x2) + 1).toNatClampNeg)) (rfl)).trans (and_congr_right fun _ => ?_)
    refine (ev_iast dX9_leaveRow_57 (by decide)).trans (and_congr_right fun _ => ?_)
    refine (ev_iinc dX9_leaveRow_58 rfl (w := 1) (by decide) rfl).trans ?_
    refine (ev_goto dX9_leaveRow_61 (t := 15) (by decide)).trans ?_
    exact Iff.rfl
/-! X9_comes -/
theorem B92_0 {C : Nat → List AV → Mem → Res → Prop} {μ : Mem} {res : Res} {x1 x2 x3 x4 : Int32} {r0 o0 : Nat} : EvE C 92 0 [some (.inr (r0, 40, o0)), some (.inl x1), some (.inl x2), some (.inl x3), some (.inl x4), none, none, none, none, none] [] μ res ↔ vp_in ((8 * x1) + x2) 48 ∧ (((μ (r0 + 1) 64 o0 ((8 * x1) + x2).toNatClampNeg) < (μ (r0 + 1) 60 o0 0) → ∃ v1 μ1, C 88 [.inr (r0, 40, o0), .inl x1] μ (some v1, μ1) ∧ ∃ v2 μ2, C 77 [.inr (r0, 40, o0), .inl x1, .inl 7] μ1 (some v2, μ2) ∧ ((v2 ≤ v1 → EvE C 92 64 [some (.inr (r0, 40, o0)), some (.inl x1), some (.inl x2), some (.inl x3), some (.inl x4), none, none, none, none, none] [] μ2 res) ∧ (¬ (v2 ≤ v1) → vp_in x1 6 ∧ ((¬ (μ2 (r0 + 1) 66 o0 x1.toNatClampNeg) = 0 → EvE C 92 64 [some (.inr (r0, 40, o0)), some (.inl x1), some (.inl x2), some (.inl x3), some (.inl x4), none, none, none, none, none] [] μ2 res) ∧ (¬ (¬ (μ2 (r0 + 1) 66 o0 x1.toNatClampNeg) = 0) → EvE C 92 65 [some (.inr (r0, 40, o0)), some (.inl x1), some (.inl x2), some (.inl x3), some (.inl x4), none, none, none, none, none] [.inl 1] μ2 res))))) ∧ (¬ ((μ (r0 + 1) 64 o0 ((8 * x1) + x2).toNatClampNeg) < (μ (r0 + 1) 60 o0 0)) → ∃ μ3, C 87 [.inr (r0, 40, o0), .inl x1, .inl 6] μ (none, μ3) ∧ res = (some (-1), μ3))) := by
  refine (ev_aload_n dX9_comes_0 rfl).trans ?_
  refine (ev_getR dX9_comes_1 f_9_38 rfl).trans ((and_iff_right (by decide)).trans ?_)
  refine (ev_getR dX9_comes_4 f_9_55 rfl).trans ((and_iff_right (by decide)).trans ?_)
  refine (ev_bipush dX9_comes_7 (w := 8) (by decide)).trans ?_
  refine (ev_iload_n dX9_comes_9 rfl).trans ?_
  refine (ev_imul dX9_comes_10).trans ?_
  refine (ev_iload_n dX9_comes_11 rfl).trans ?_
  refine (ev_iadd dX9_comes_12).trans ?_
  refine (ev_iald2 dX9_comes_13 (by decide) (v := (μ (r0 + 1) 64 o0 ((8 * x1) + x2).toNatClampNeg)) (rfl)).trans (and_congr_right fun _ => ?_)
  refine (ev_aload_n dX9_comes_14 rfl).trans ?_
  refine (ev_getR dX9_comes_15 f_9_38 rfl).trans ((and_iff_right (by decide)).trans ?_)
  refine (ev_getI2 dX9_comes_18 f_9_68 rfl (v := (μ (r0 + 1) 60 o0 0)) (rfl)).trans ((and_iff_right (by decide)).trans ?_)
  refine (ev_icmp dX9_comes_21 (t := 33) (by decide)).trans (and_congr (imp_congr Iff.rfl ?_) (imp_congr Iff.rfl ?_))
  · refine (ev_aload_n dX9_comes_33 rfl).trans ?_
    refine (ev_iload_n dX9_comes_34 rfl).trans ?_
    refine (ev_virI dX9_comes_35 c_9_146 (by decide) (As := [.inl x1]) rfl rfl (by decide) rfl (Nat.le_of_ble_eq_true rfl)).trans ((and_iff_right (by decide)).trans (exists_congr fun v1 => exists_congr fun μ1 => and_congr_right fun _ => ?_))
    refine (ev_aload_n dX9_comes_38 rfl).trans ?_
    refine (ev_iload_n dX9_comes_39 rfl).trans ?_
    refine (ev_bipush dX9_comes_40 (w := 7) (by decide)).trans ?_
    refine (ev_virI dX9_comes_42 c_9_79 (by decide) (As := [.inl x1, .inl 7]) rfl rfl (by decide) rfl (Nat.le_of_ble_eq_true rfl)).trans ((and_iff_right (by decide)).trans (exists_congr fun v2 => exists_congr fun μ2 => and_congr_right fun _ => ?_))
    refine (ev_icmp dX9_comes_45 (t := 64) (by decide)).trans (and_congr (imp_congr Iff.rfl ?_) (imp_congr Iff.rfl ?_))
    · exact Iff.rfl
    · refine (ev_aload_n dX9_comes_48 rfl).trans ?_
      refine (ev_getR dX9_comes_49 f_9_38 rfl).trans ((and_iff_right (by decide)).trans ?_)
      refine (ev_getR dX9_comes_52 f_9_140 rfl).trans ((and_iff_right (by decide)).trans ?_)
      refine (ev_iload_n dX9_comes_55 rfl).trans ?_
      refine (ev_iald2 dX9_comes_56 (by decide) (v := (μ2 (r0 + 1) 66 o0 x1.toNatClampNeg)) (rfl)).trans (and_congr_right fun _ => ?_)
      refine (ev_ifc dX9_comes_57 (t := 64) (by decide)).trans (and_congr (imp_congr Iff.rfl ?_) (imp_congr Iff.rfl ?_))
      · exact Iff.rfl
      · refine (ev_iconst dX9_comes_60 (w := 1) (by decide)).trans ?_
        refine (ev_goto dX9_comes_61 (t := 65) (by decide)).trans ?_
        exact Iff.rfl
  · refine (ev_aload_n dX9_comes_24 rfl).trans ?_
    refine (ev_iload_n dX9_comes_25 rfl).trans ?_
    refine (ev_bipush dX9_comes_26 (w := 6) (by decide)).trans ?_
    refine (ev_virV dX9_comes_28 c_9_136 (by decide) (As := [.inl x1, .inl 6]) rfl rfl rfl rfl (Nat.le_of_ble_eq_true rfl)).trans ((and_iff_right (by decide)).trans (exists_congr fun μ3 => and_congr_right fun _ => ?_))
    refine (ev_iconst dX9_comes_31 (w := (-1)) (by decide)).trans ?_
    exact ev_ireturn dX9_comes_32 rfl
theorem B92_64 {C : Nat → List AV → Mem → Res → Prop} {μ : Mem} {res : Res} {x1 x2 x3 x4 : Int32} {r0 o0 : Nat} {u5 u6 u7 u8 u9 : Option AV} : EvE C 92 64 [some (.inr (r0, 40, o0)), some (.inl x1), some (.inl x2), some (.inl x3), some (.inl x4), u5, u6, u7, u8, u9] [] μ res ↔ EvE C 92 65 [some (.inr (r0, 40, o0)), some (.inl x1), some (.inl x2), some (.inl x3), some (.inl x4), u5, u6, u7, u8, u9] [.inl 0] μ res := by
  refine (ev_iconst dX9_comes_64 (w := 0) (by decide)).trans ?_
  exact Iff.rfl
theorem B92_65 {C : Nat → List AV → Mem → Res → Prop} {μ : Mem} {res : Res} {x1 x2 x3 x4 w0 : Int32} {r0 o0 : Nat} {u5 u6 u7 u8 u9 : Option AV} : EvE C 92 65 [some (.inr (r0, 40, o0)), some (.inl x1), some (.inl x2), some (.inl x3), some (.inl x4), u5, u6, u7, u8, u9] [.inl w0] μ res ↔ ∃ v1 μ1, C 77 [.inr (r0, 40, o0), .inl x1, .inl 6] μ (some v1, μ1) ∧ ((¬ v1 = 1 → EvE C 92 91 [some (.inr (r0, 40, o0)), some (.inl x1), some (.inl x2), some (.inl x3), some (.inl x4), some (.inl w0), u6, u7, u8, u9] [] μ1 res) ∧ (¬ (¬ v1 = 1) → vp_in x1 6 ∧ (((μ1 r0 42 o0 x1.toNatClampNeg) ≤ 0 → EvE C 92 91 [some (.inr (r0, 40, o0)), some (.inl x1), some (.inl x2), some (.inl x3), some (.inl x4), some (.inl w0), u6, u7, u8, u9] [] μ1 res) ∧ (¬ ((μ1 r0 42 o0 x1.toNatClampNeg) ≤ 0) → EvE C 92 92 [some (.inr (r0, 40, o0)), some (.inl x1), some (.inl x2), some (.inl x3), some (.inl x4), some (.inl w0), u6, u7, u8, u9] [.inl 1] μ1 res)))) := by
  refine (ev_istore dX9_comes_65 (Nat.le_of_ble_eq_true rfl) rfl).trans ?_
  refine (ev_aload_n dX9_comes_67 rfl).trans ?_
  refine (ev_iload_n dX9_comes_68 rfl).trans ?_
  refine (ev_bipush dX9_comes_69 (w := 6) (by decide)).trans ?_
  refine (ev_virI dX9_comes_71 c_9_79 (by decide) (As := [.inl x1, .inl 6]) rfl rfl (by decide) rfl (Nat.le_of_ble_eq_true rfl)).trans ((and_iff_right (by decide)).trans (exists_congr fun v1 => exists_congr fun μ1 => and_congr_right fun _ => ?_))
  refine (ev_iconst dX9_comes_74 (w := 1) (by decide)).trans ?_
  refine (ev_icmp dX9_comes_75 (t := 91) (by decide)).trans (and_congr (imp_congr Iff.rfl ?_) (imp_congr Iff.rfl ?_))
  · exact Iff.rfl
  · refine (ev_aload_n dX9_comes_78 rfl).trans ?_
    refine (ev_getR dX9_comes_79 f_9_13 rfl).trans ((and_iff_right (by decide)).trans ?_)
    refine (ev_iload_n dX9_comes_82 rfl).trans ?_
    refine (ev_iald2 dX9_comes_83 (by decide) (v := (μ1 r0 42 o0 x1.toNatClampNeg)) (rfl)).trans (and_congr_right fun _ => ?_)
    refine (ev_ifc dX9_comes_84 (t := 91) (by decide)).trans (and_congr (imp_congr Iff.rfl ?_) (imp_congr Iff.rfl ?_))
    · exact Iff.rfl
    · refine (ev_iconst dX9_comes_87 (w := 1) (by decide)).trans ?_
      refine (ev_goto dX9_comes_88 (t := 92) (by decide)).trans ?_
      exact Iff.rfl
theorem B92_91 {C : Nat → List AV → Mem → Res → Prop} {μ : Mem} {res : Res} {x1 x2 x3 x4 x5 : Int32} {r0 o0 : Nat} {u6 u7 u8 u9 : Option AV} : EvE C 92 91 [some (.inr (r0, 40, o0)), some (.inl x1), some (.inl x2), some (.inl x3), some (.inl x4), some (.inl x5), u6, u7, u8, u9] [] μ res ↔ EvE C 92 92 [some (.inr (r0, 40, o0)), some (.inl x1), some (.inl x2), some (.inl x3), some (.inl x4), some (.inl x5), u6, u7, u8, u9] [.inl 0] μ res := by
  refine (ev_iconst dX9_comes_91 (w := 0) (by decide)).trans ?_
  exact Iff.rfl
theorem B92_92 {C : Nat → List AV → Mem → Res → Prop} {μ : Mem} {res : Res} {x1 x2 x3 x4 x5 w0 : Int32} {r0 o0 : Nat} {u6 u7 u8 u9 : Option AV} : EvE C 92 92 [some (.inr (r0, 40, o0)), some (.inl x1), some (.inl x2), some (.inl x3), some (.inl x4), some (.inl x5), u6, u7, u8, u9] [.inl w0] μ res ↔ (((μ (r0 + 1) 60 o0 15) = 120 → EvE C 92 134 [some (.inr (r0, 40, o0)), some (.inl x1), some (.inl x2), some (.inl x3), some (.inl x4), some (.inl x5), some (.inl w0), u7, u8, u9] [] μ res) ∧ (¬ ((μ (r0 + 1) 60 o0 15) = 120) → ((¬ x5 = 0 → EvE C 92 152 [some (.inr (r0, 40, o0)), some (.inl x1), some (.inl x2), some (.inl x3), some (.inl x4), some (.inl x5), some (.inl w0), u7, u8, u9] [] μ res) ∧ (¬ (¬ x5 = 0) → vp_in x1 6 ∧ vp_in x1 6 ∧ (((μ (r0 + 1) 66 o0 x1.toNatClampNeg) < (μ r0 42 o0 x1.toNatClampNeg) → EvE C 92 152 [some (.inr (r0, 40, o0)), some (.inl x1), some (.inl x2), some (.inl x3), some (.inl x4), some (.inl x5), some (.inl w0), u7, u8, u9] [] μ res) ∧ (¬ ((μ (r0 + 1) 66 o0 x1.toNatClampNeg) < (μ r0 42 o0 x1.toNatClampNeg)) → ((¬ w0 = 0 → EvE C 92 152 [some (.inr (r0, 40, o0)), some (.inl x1), some (.inl x2), some (.inl x3), some (.inl x4), some (.inl x5), some (.inl w0), u7, u8, u9] [] μ res) ∧ (¬ (¬ w0 = 0) → EvE C 92 134 [some (.inr (r0, 40, o0)), some (.inl x1), some (.inl x2), some (.inl x3), some (.inl x4), some (.inl x5), some (.inl w0), u7, u8, u9] [] μ res)))))))) := by
  refine (ev_istore dX9_comes_92 (Nat.le_of_ble_eq_true rfl) rfl).trans ?_
  refine (ev_aload_n dX9_comes_94 rfl).trans ?_
  refine (ev_getR dX9_comes_95 f_9_38 rfl).trans ((and_iff_right (by decide)).trans ?_)
  refine (ev_getI2 dX9_comes_98 f_9_96 rfl (v := (μ (r0 + 1) 60 o0 15)) (rfl)).trans ((and_iff_right (by decide)).trans ?_)
  refine (ev_bipush dX9_comes_101 (w := 120) (by decide)).trans ?_
  refine (ev_icmp dX9_comes_103 (t := 134) (by decide)).trans (and_congr (imp_congr Iff.rfl ?_) (imp_congr Iff.rfl ?_))
  · exact Iff.rfl
  · refine (ev_iload dX9_comes_106 rfl).trans ?_
    refine (ev_ifc dX9_comes_108 (t := 152) (by decide)).trans (and_congr (imp_congr Iff.rfl ?_) (imp_congr Iff.rfl ?_))
    · exact Iff.rfl
    · refine (ev_aload_n dX9_comes_111 rfl).trans ?_
      refine (ev_getR dX9_comes_112 f_9_38 rfl).trans ((and_iff_right (by decide)).trans ?_)
      refine (ev_getR dX9_comes_115 f_9_140 rfl).trans ((and_iff_right (by decide)).trans ?_)
      refine (ev_iload_n dX9_comes_118 rfl).trans ?_
      refine (ev_iald2 dX9_comes_119 (by decide) (v := (μ (r0 + 1) 66 o0 x1.toNatClampNeg)) (rfl)).trans (and_congr_right fun _ => ?_)
      refine (ev_aload_n dX9_comes_120 rfl).trans ?_
      refine (ev_getR dX9_comes_121 f_9_13 rfl).trans ((and_iff_right (by decide)).trans ?_)
      refine (ev_iload_n dX9_comes_124 rfl).trans ?_
      refine (ev_iald2 dX9_comes_125 (by decide) (v := (μ r0 42 o0 x1.toNatClampNeg)) (rfl)).trans (and_congr_right fun _ => ?_)
      refine (ev_icmp dX9_comes_126 (t := 152) (by decide)).trans (and_congr (imp_congr Iff.rfl ?_) (imp_congr Iff.rfl ?_))
      · exact Iff.rfl
      · refine (ev_iload dX9_comes_129 rfl).trans ?_
        refine (ev_ifc dX9_comes_131 (t := 152) (by decide)).trans (and_congr (imp_congr Iff.rfl ?_) (imp_congr Iff.rfl ?_))
        · exact Iff.rfl
        · exact Iff.rfl
theorem B92_134 {C : Nat → List AV → Mem → Res → Prop} {μ : Mem} {res : Res} {x1 x2 x3 x4 x5 x6 : Int32} {r0 o0 : Nat} {u7 u8 u9 : Option AV} : EvE C 92 134 [some (.inr (r0, 40, o0)), some (.inl x1), some (.inl x2), some (.inl x3), some (.inl x4), some (.inl x5), some (.inl x6), u7, u8, u9] [] μ res ↔ ∃ μ1, C 87 [.inr (r0, 40, o0), .inl x1, .inl 10] μ (none, μ1) ∧ res = (some (-2), (mset μ1 (r0 + 1) 60 o0 28 0)) := by
  refine (ev_aload_n dX9_comes_134 rfl).trans ?_
  refine (ev_iload_n dX9_comes_135 rfl).trans ?_
  refine (ev_bipush dX9_comes_136 (w := 10) (by decide)).trans ?_
  refine (ev_virV dX9_comes_138 c_9_136 (by decide) (As := [.inl x1, .inl 10]) rfl rfl rfl rfl (Nat.le_of_ble_eq_true rfl)).trans ((and_iff_right (by decide)).trans (exists_congr fun μ1 => and_congr_right fun _ => ?_))
  refine (ev_aload_n dX9_comes_141 rfl).trans ?_
  refine (ev_getR dX9_comes_142 f_9_38 rfl).trans ((and_iff_right (by decide)).trans ?_)
  refine (ev_iconst dX9_comes_145 (w := 0) (by decide)).trans ?_
  refine (ev_putZ dX9_comes_146 f_9_51 rfl (by decide)).trans ((and_iff_right ⟨by decide, by decide⟩).trans ?_)
  refine (ev_bipush dX9_comes_149 (w := (-2)) (by decide)).trans ?_
  exact ev_ireturn dX9_comes_151 rfl
theorem B92_152 {C : Nat → List AV → Mem → Res → Prop} {μ : Mem} {res : Res} {x1 x2 x3 x4 x5 x6 : Int32} {r0 o0 : Nat} {u7 u8 u9 : Option AV} : EvE C 92 152 [some (.inr (r0, 40, o0)), some (.inl x1), some (.inl x2), some (.inl x3), some (.inl x4), some (.inl x5), some (.inl x6), u7, u8, u9] [] μ res ↔ vp_in (μ (r0 + 1) 60 o0 15) 120 ∧ vp_in (μ (r0 + 1) 60 o0 15) 120 ∧ vp_in (μ (r0 + 1) 60 o0 15) 120 ∧ vp_in (μ (r0 + 1) 60 o0 15) 120 ∧ vp_in (μ (r0 + 1) 60 o0 15) 120 ∧ vp_in (μ (r0 + 1) 60 o0 15) 120 ∧ vp_in (μ (r0 + 1) 60 o0 15) 120 ∧ vp_in (μ (r0 + 1) 60 o0 15) 120 ∧ ((x3 < 0 → vp_in x4 100 ∧ EvE C 92 320 [some (.inr (r0, 40, o0)), some (.inl x1), some (.inl x2), some (.inl x3), some (.inl x4), some (.inl x5), some (.inl x6), some (.inl (μ (r0 + 1) 60 o0 16)), some (.inl (μ (r0 + 1) 60 o0 15)), u9] [] (mset (mset (mset (mset (mset (mset (mset (mset (mset (mset (mset μ (r0 + 1) 67 o0 (μ (r0 + 1) 60 o0 15).toNatClampNeg (μ (r0 + 1) 60 o0 16)) (r0 + 1) 68 o0 (μ (r0 + 1) 60 o0 15).toNatClampNeg x1) (r0 + 1) 69 o0 (μ (r0 + 1) 60 o0 15).toNatClampNeg x2) (r0 + 1) 70 o0 (μ (r0 + 1) 60 o0 15).toNatClampNeg 0) (r0 + 1) 71 o0 (μ (r0 + 1) 60 o0 15).toNatClampNeg x3) (r0 + 1) 72 o0 (μ (r0 + 1) 60 o0 15).toNatClampNeg (-4)) (r0 + 1) 73 o0 (μ (r0 + 1) 60 o0 15).toNatClampNeg 0) (r0 + 1) 74 o0 (μ (r0 + 1) 60 o0 15).toNatClampNeg (-1)) (r0 + 1) 60 o0 15 ((μ (r0 + 1) 60 o0 15) + 1)) (r0 + 1) 60 o0 16 ((μ (r0 + 1) 60 o0 16) + 1)) (r0 + 1) 76 o0 x4.toNatClampNeg (μ (r0 + 1) 60 o0 16)) res) ∧ (¬ (x3 < 0) → ∃ v1 μ1, C 85 [.inr (r0, 40, o0), .inl x3] (mset (mset (mset (mset (mset (mset (mset (mset (mset (mset μ (r0 + 1) 67 o0 (μ (r0 + 1) 60 o0 15).toNatClampNeg (μ (r0 + 1) 60 o0 16)) (r0 + 1) 68 o0 (μ (r0 + 1) 60 o0 15).toNatClampNeg x1) (r0 + 1) 69 o0 (μ (r0 + 1) 60 o0 15).toNatClampNeg x2) (r0 + 1) 70 o0 (μ (r0 + 1) 60 o0 15).toNatClampNeg 0) (r0 + 1) 71 o0 (μ (r0 + 1) 60 o0 15).toNatClampNeg x3) (r0 + 1) 72 o0 (μ (r0 + 1) 60 o0 15).toNatClampNeg (-4)) (r0 + 1) 73 o0 (μ (r0 + 1) 60 o0 15).toNatClampNeg 0) (r0 + 1) 74 o0 (μ (r0 + 1) 60 o0 15).toNatClampNeg (-1)) (r0 + 1) 60 o0 15 ((μ (r0 + 1) 60 o0 15) + 1)) (r0 + 1) 60 o0 16 ((μ (r0 + 1) 60 o0 16) + 1)) (some v1, μ1) ∧ vp_in v1 120 ∧ EvE C 92 320 [some (.inr (r0, 40, o0)), some (.inl x1), some (.inl x2), some (.inl x3), some (.inl x4), some (.inl x5), some (.inl x6), some (.inl (μ (r0 + 1) 60 o0 16)), some (.inl (μ (r0 + 1) 60 o0 15)), u9] [] (mset μ1 (r0 + 1) 74 o0 v1.toNatClampNeg (μ (r0 + 1) 60 o0 16)) res)) := by
  refine (ev_aload_n dX9_comes_152 rfl).trans ?_
  refine (ev_getR dX9_comes_153 f_9_38 rfl).trans ((and_iff_right (by decide)).trans ?_)
  refine (ev_getI2 dX9_comes_156 f_9_149 rfl (v := (μ (r0 + 1) 60 o0 16)) (rfl)).trans ((and_iff_right (by decide)).trans ?_)
  refine (ev_istore dX9_comes_159 (Nat.le_of_ble_eq_true rfl) rfl).trans ?_
  refine (ev_aload_n dX9_comes_161 rfl).trans ?_
  refine (ev_getR dX9_comes_162 f_9_38 rfl).trans ((and_iff_right (by decide)).trans ?_)
  refine (ev_getI2 dX9_comes_165 f_9_96 rfl (v := (μ (r0 + 1) 60 o0 15)) (rfl)).trans ((and_iff_right (by decide)).trans ?_)
  refine (ev_istore dX9_comes_168 (Nat.le_of_ble_eq_true rfl) rfl).trans ?_
  refine (ev_aload_n dX9_comes_170 rfl).trans ?_
  refine (ev_getR dX9_comes_171 f_9_38 rfl).trans ((and_iff_right (by decide)).trans ?_)
  refine (ev_getR dX9_comes_174 f_9_99 rfl).trans ((and_iff_right (by decide)).trans ?_)
  refine (ev_iload dX9_comes_177 rfl).trans ?_
  refine (ev_iload dX9_comes_179 rfl).trans ?_
  refine (ev_iast dX9_comes_181 (by decide)).trans (and_congr_right fun _ => ?_)
  refine (ev_aload_n dX9_comes_182 rfl).trans ?_
  refine (ev_getR dX9_comes_183 f_9_38 rfl).trans ((and_iff_right (by decide)).trans ?_)
  refine (ev_getR dX9_comes_186 f_9_111 rfl).trans ((and_iff_right (by decide)).trans ?_)
  refine (ev_iload dX9_comes_189 rfl).trans ?_
  refine (ev_iload_n dX9_comes_191 rfl).trans ?_
  refine (ev_iast dX9_comes_192 (by decide)).trans (and_congr_right fun _ => ?_)
  refine (ev_aload_n dX9_comes_193 rfl).trans ?_
  refine (ev_getR dX9_comes_194 f_9_38 rfl).trans ((and_iff_right (by decide)).trans ?_)
  refine (ev_getR dX9_comes_197 f_9_121 rfl).trans ((and_iff_right (by decide)).trans ?_)
  refine (ev_iload dX9_comes_200 rfl).trans ?_
  refine (ev_iload_n dX9_comes_202 rfl).trans ?_
  refine (ev_iast dX9_comes_203 (by decide)).trans (and_congr_right fun _ => ?_)
  refine (ev_aload_n dX9_comes_204 rfl).trans ?_
  refine (ev_getR dX9_comes_205 f_9_38 rfl).trans ((and_iff_right (by decide)).trans ?_)
  refine (ev_getR dX9_comes_208 f_9_114 rfl).trans ((and_iff_right (by decide)).trans ?_)
  refine (ev_iload dX9_comes_211 rfl).trans ?_
  refine (ev_iconst dX9_comes_213 (w := 0) (by decide)).trans ?_
  refine (ev_iast dX9_comes_214 (by decide)).trans (and_congr_right fun _ => ?_)
  refine (ev_aload_n dX9_comes_215 rfl).trans ?_
  refine (ev_getR dX9_comes_216 f_9_38 rfl).trans ((and_iff_right (by decide)).trans ?_)
  refine (ev_getR dX9_comes_219 f_9_124 rfl).trans ((and_iff_right (by decide)).trans ?_)
  refine (ev_iload dX9_comes_222 rfl).trans ?_
  refine (ev_iload_n dX9_comes_224 rfl).trans ?_
  refine (ev_iast dX9_comes_225 (by decide)).trans (and_congr_right fun _ => ?_)
  refine (ev_aload_n dX9_comes_226 rfl).trans ?_
  refine (ev_getR dX9_comes_227 f_9_38 rfl).trans ((and_iff_right (by decide)).trans ?_)
  refine (ev_getR dX9_comes_230 f_9_127 rfl).trans ((and_iff_right (by decide)).trans ?_)
  refine (ev_iload dX9_comes_233 rfl).trans ?_
  refine (ev_bipush dX9_comes_235 (w := (-4)) (by decide)).trans ?_
  refine (ev_iast dX9_comes_237 (by decide)).trans (and_congr_right fun _ => ?_)
  refine (ev_aload_n dX9_comes_238 rfl).trans ?_
  refine (ev_getR dX9_comes_239 f_9_38 rfl).trans ((and_iff_right (by decide)).trans ?_)
  refine (ev_getR dX9_comes_242 f_9_130 rfl).trans ((and_iff_right (by decide)).trans ?_)
  refine (ev_iload dX9_comes_245 rfl).trans ?_
  refine (ev_iconst dX9_comes_247 (w := 0) (by decide)).trans ?_
  refine (ev_iast dX9_comes_248 (by decide)).trans (and_congr_right fun _ => ?_)
  refine (ev_aload_n dX9_comes_249 rfl).trans ?_
  refine (ev_getR dX9_comes_250 f_9_38 rfl).trans ((and_iff_right (by decide)).trans ?_)
  refine (ev_getR dX9_comes_253 f_9_133 rfl).trans ((and_iff_right (by decide)).trans ?_)
  refine (ev_iload dX9_comes_256 rfl).trans ?_
  refine (ev_iconst dX9_comes_258 (w := (-1)) (by decide)).trans ?_
  refine (ev_iast dX9_comes_259 (by decide)).trans (and_congr_right fun _ => ?_)
  refine (ev_aload_n dX9_comes_260 rfl).trans ?_
  refine (ev_getR dX9_comes_261 f_9_38 rfl).trans ((and_iff_right (by decide)).trans ?_)
  refine (ev_dup dX9_comes_264).trans ?_
  refine (ev_getI2 dX9_comes_265 f_9_96 rfl (v := (μ (r0 + 1) 60 o0 15)) ((mget_a (by decide)).trans ((mget_a (by decide)).trans ((mget_a (by decide)).trans ((mget_a (by decide)).trans ((mget_a (by decide)).trans ((mget_a (by decide)).trans ((mget_a (by decide)).trans ((mget_a (by decide)).trans (rfl)))))))))).trans ((and_iff_right (by decide)).trans ?_)
  refine (ev_iconst dX9_comes_268 (w := 1) (by decide)).trans ?_
  refine (ev_iadd dX9_comes_269).trans ?_
  refine (ev_put dX9_comes_270 f_9_96 rfl (by decide)).trans ((and_iff_right (by decide)).trans ?_)
  refine (ev_aload_n dX9_comes_273 rfl).trans ?_
  refine (ev_getR dX9_comes_274 f_9_38 rfl).trans ((and_iff_right (by decide)).trans ?_)
  refine (ev_dup dX9_comes_277).trans ?_
  refine (ev_getI2 dX9_comes_278 f_9_149 rfl (v := (μ (r0 + 1) 60 o0 16)) ((mget_i (by decide)).trans ((mget_a (by decide)).trans ((mget_a (by decide)).trans ((mget_a (by decide)).trans ((mget_a (by decide)).trans ((mget_a (by decide)).trans ((mget_a (by decide)).trans ((mget_a (by decide)).trans ((mget_a (by decide)).trans (rfl))))))))))).trans ((and_iff_right (by decide)).trans ?_)
  refine (ev_iconst dX9_comes_281 (w := 1) (by decide)).trans ?_
  refine (ev_iadd dX9_comes_282).trans ?_
  refine (ev_put dX9_comes_283 f_9_149 rfl (by decide)).trans ((and_iff_right (by decide)).trans ?_)
  refine (ev_iload_n dX9_comes_286 rfl).trans ?_
  refine (ev_ifc dX9_comes_287 (t := 308) (by decide)).trans (and_congr (imp_congr Iff.rfl ?_) (imp_congr Iff.rfl ?_))
  · refine (ev_aload_n dX9_comes_308 rfl).trans ?_
    refine (ev_getR dX9_comes_309 f_9_38 rfl).trans ((and_iff_right (by decide)).trans ?_)
    refine (ev_getR dX9_comes_312 f_9_105 rfl).trans ((and_iff_right (by decide)).trans ?_)
    refine (ev_iload dX9_comes_315 rfl).trans ?_
    refine (ev_iload dX9_comes_317 rfl).trans ?_
    refine (ev_iast dX9_comes_319 (by decide)).trans (and_congr_right fun _ => ?_)
    exact Iff.rfl
  · refine (ev_aload_n dX9_comes_290 rfl).trans ?_
    refine (ev_getR dX9_comes_291 f_9_38 rfl).trans ((and_iff_right (by decide)).trans ?_)
    refine (ev_getR dX9_comes_294 f_9_133 rfl).trans ((and_iff_right (by decide)).trans ?_)
    refine (ev_aload_n dX9_comes_297 rfl).trans ?_
    refine (ev_iload_n dX9_comes_298 rfl).trans ?_
    refine (ev_virI dX9_comes_299 c_9_117 (by decide) (As := [.inl x3]) rfl rfl (by decide) rfl (Nat.le_of_ble_eq_true rfl)).trans ((and_iff_right (by decide)).trans (exists_congr fun v1 => exists_congr fun μ1 => and_congr_right fun _ => ?_))
    refine (ev_iload dX9_comes_302 rfl).trans ?_
    refine (ev_iast dX9_comes_304 (by decide)).trans (and_congr_right fun _ => ?_)
    refine (ev_goto dX9_comes_305 (t := 320) (by decide)).trans ?_
    exact Iff.rfl
theorem B92_320 {C : Nat → List AV → Mem → Res → Prop} {μ : Mem} {res : Res} {x1 x2 x3 x4 x5 x6 x7 x8 : Int32} {r0 o0 : Nat} {u9 : Option AV} : EvE C 92 320 [some (.inr (r0, 40, o0)), some (.inl x1), some (.inl x2), some (.inl x3), some (.inl x4), some (.inl x5), some (.inl x6), some (.inl x7), some (.inl x8), u9] [] μ res ↔ ((x5 = 0 → vp_in x1 6 ∧ vp_in x1 6 ∧ (((μ (r0 + 1) 66 o0 x1.toNatClampNeg) < (μ r0 42 o0 x1.toNatClampNeg) → EvE C 92 368 [some (.inr (r0, 40, o0)), some (.inl x1), some (.inl x2), some (.inl x3), some (.inl x4), some (.inl x5), some (.inl x6), some (.inl x7), some (.inl x8), u9] [.inl (-1)] μ res) ∧ (¬ ((μ (r0 + 1) 66 o0 x1.toNatClampNeg) < (μ r0 42 o0 x1.toNatClampNeg)) → vp_in (20 * x1) 120 ∧ EvE C 92 368 [some (.inr (r0, 40, o0)), some (.inl x1), some (.inl x2), some (.inl x3), some (.inl x4), some (.inl x5), some (.inl x6), some (.inl x7), some (.inl x8), u9] [.inl (μ (r0 + 1) 65 o0 (20 * x1).toNatClampNeg)] μ res))) ∧ (¬ (x5 = 0) → ∃ μ1, C 90 [.inr (r0, 40, o0), .inl x7] μ (none, μ1) ∧ res = (some x7, μ1))) := by
  refine (ev_iload dX9_comes_320 rfl).trans ?_
  refine (ev_ifc dX9_comes_322 (t := 334) (by decide)).trans (and_congr (imp_congr Iff.rfl ?_) (imp_congr Iff.rfl ?_))
  · refine (ev_aload_n dX9_comes_334 rfl).trans ?_
    refine (ev_getR dX9_comes_335 f_9_38 rfl).trans ((and_iff_right (by decide)).trans ?_)
    refine (ev_getR dX9_comes_338 f_9_140 rfl).trans ((and_iff_right (by decide)).trans ?_)
    refine (ev_iload_n dX9_comes_341 rfl).trans ?_
    refine (ev_iald2 dX9_comes_342 (by decide) (v := (μ (r0 + 1) 66 o0 x1.toNatClampNeg)) (rfl)).trans (and_congr_right fun _ => ?_)
    refine (ev_aload_n dX9_comes_343 rfl).trans ?_
    refine (ev_getR dX9_comes_344 f_9_13 rfl).trans ((and_iff_right (by decide)).trans ?_)
    refine (ev_iload_n dX9_comes_347 rfl).trans ?_
    refine (ev_iald2 dX9_comes_348 (by decide) (v := (μ r0 42 o0 x1.toNatClampNeg)) (rfl)).trans (and_congr_right fun _ => ?_)
    refine (ev_icmp dX9_comes_349 (t := 367) (by decide)).trans (and_congr (imp_congr Iff.rfl ?_) (imp_congr Iff.rfl ?_))
    · refine (ev_iconst dX9_comes_367 (w := (-1)) (by decide)).trans ?_
      exact Iff.rfl
    · refine (ev_aload_n dX9_comes_352 rfl).trans ?_
      refine (ev_getR dX9_comes_353 f_9_38 rfl).trans ((and_iff_right (by decide)).trans ?_)
      refine (ev_getR dX9_comes_356 f_9_143 rfl).trans ((and_iff_right (by decide)).trans ?_)
      refine (ev_bipush dX9_comes_359 (w := 20) (by decide)).trans ?_
      refine (ev_iload_n dX9_comes_361 rfl).trans ?_
      refine (ev_imul dX9_comes_362).trans ?_
      refine (ev_iald2 dX9_comes_363 (by decide) (v := (μ (r0 + 1) 65 o0 (20 * x1).toNatClampNeg)) (rfl)).trans (and_congr_right fun _ => ?_)
      refine (ev_goto dX9_comes_364 (t := 368) (by decide)).trans ?_
      exact Iff.rfl
  · refine (ev_aload_n dX9_comes_325 rfl).trans ?_
    refine (ev_iload dX9_comes_326 rfl).trans ?_
    refine (ev_virV dX9_comes_328 c_9_152 (by decide) (As := [.inl x7]) rfl rfl rfl rfl (Nat.le_of_ble_eq_true rfl)).trans ((and_iff_right (by decide)).trans (exists_congr fun μ1 => and_congr_right fun _ => ?_))
    refine (ev_iload dX9_comes_331 rfl).trans ?_
    exact ev_ireturn dX9_comes_333 rfl
theorem B92_368 {C : Nat → List AV → Mem → Res → Prop} {μ : Mem} {res : Res} {x1 x2 x3 x4 x5 x6 x7 x8 w0 : Int32} {r0 o0 : Nat} {u9 : Option AV} : EvE C 92 368 [some (.inr (r0, 40, o0)), some (.inl x1), some (.inl x2), some (.inl x3), some (.inl x4), some (.inl x5), some (.inl x6), some (.inl x7), some (.inl x8), u9] [.inl w0] μ res ↔ ((w0 < 0 → EvE C 92 380 [some (.inr (r0, 40, o0)), some (.inl x1), some (.inl x2), some (.inl x3), some (.inl x4), some (.inl x5), some (.inl x6), some (.inl x7), some (.inl x8), some (.inl w0)] [] μ res) ∧ (¬ (w0 < 0) → ∃ μ1, C 91 [.inr (r0, 40, o0), .inl x1] μ (none, μ1) ∧ EvE C 92 380 [some (.inr (r0, 40, o0)), some (.inl x1), some (.inl x2), some (.inl x3), some (.inl x4), some (.inl x5), some (.inl x6), some (.inl x7), some (.inl x8), some (.inl w0)] [] μ1 res)) := by
  refine (ev_istore dX9_comes_368 (Nat.le_of_ble_eq_true rfl) rfl).trans ?_
  refine (ev_iload dX9_comes_370 rfl).trans ?_
  refine (ev_ifc dX9_comes_372 (t := 380) (by decide)).trans (and_congr (imp_congr Iff.rfl ?_) (imp_congr Iff.rfl ?_))
  · exact Iff.rfl
  · refine (ev_aload_n dX9_comes_375 rfl).trans ?_
    refine (ev_iload_n dX9_comes_376 rfl).trans ?_
    refine (ev_virV dX9_comes_377 c_9_156 (by decide) (As := [.inl x1]) rfl rfl rfl rfl (Nat.le_of_ble_eq_true rfl)).trans ((and_iff_right (by decide)).trans (exists_congr fun μ1 => and_congr_right fun _ => ?_))
    exact Iff.rfl
theorem B92_380 {C : Nat → List AV → Mem → Res → Prop} {μ : Mem} {res : Res} {x1 x2 x3 x4 x5 x6 x7 x8 x9 : Int32} {r0 o0 : Nat} : EvE C 92 380 [some (.inr (r0, 40, o0)), some (.inl x1), some (.inl x2), some (.inl x3), some (.inl x4), some (.inl x5), some (.inl x6), some (.inl x7), some (.inl x8), some (.inl x9)] [] μ res ↔ vp_in x1 6 ∧ vp_in ((20 * x1) + (μ (r0 + 1) 66 o0 x1.toNatClampNeg)) 120 ∧ vp_in x1 6 ∧ vp_in x1 6 ∧ ((x9 < 0 → EvE C 92 428 [some (.inr (r0, 40, o0)), some (.inl x1), some (.inl x2), some (.inl x3), some (.inl x4), some (.inl x5), some (.inl x6), some (.inl x7), some (.inl x8), some (.inl x9)] [] (mset (mset μ (r0 + 1) 65 o0 ((20 * x1) + (μ (r0 + 1) 66 o0 x1.toNatClampNeg)).toNatClampNeg x7) (r0 + 1) 66 o0 x1.toNatClampNeg ((μ (r0 + 1) 66 o0 x1.toNatClampNeg) + 1)) res) ∧ (¬ (x9 < 0) → ∃ μ1, C 93 [.inr (r0, 40, o0), .inl x9] (mset (mset μ (r0 + 1) 65 o0 ((20 * x1) + (μ (r0 + 1) 66 o0 x1.toNatClampNeg)).toNatClampNeg x7) (r0 + 1) 66 o0 x1.toNatClampNeg ((μ (r0 + 1) 66 o0 x1.toNatClampNeg) + 1)) (none, μ1) ∧ EvE C 92 428 [some (.inr (r0, 40, o0)), some (.inl x1), some (.inl x2), some (.inl x3), some (.inl x4), some (.inl x5), some (.inl x6), some (.inl x7), some (.inl x8), some (.inl x9)] [] μ1 res)) := by
  refine (ev_aload_n dX9_comes_380 rfl).trans ?_
  refine (ev_getR dX9_comes_381 f_9_38 rfl).trans ((and_iff_right (by decide)).trans ?_)
  refine (ev_getR dX9_comes_384 f_9_143 rfl).trans ((and_iff_right (by decide)).trans ?_)
  refine (ev_bipush dX9_comes_387 (w := 20) (by decide)).trans ?_
  refine (ev_iload_n dX9_comes_389 rfl).trans ?_
  refine (ev_imul dX9_comes_390).trans ?_
  refine (ev_aload_n dX9_comes_391 rfl).trans ?_
  refine (ev_getR dX9_comes_392 f_9_38 rfl).trans ((and_iff_right (by decide)).trans ?_)
  refine (ev_getR dX9_comes_395 f_9_140 rfl).trans ((and_iff_right (by decide)).trans ?_)
  refine (ev_iload_n dX9_comes_398 rfl).trans ?_
  refine (ev_iald2 dX9_comes_399 (by decide) (v := (μ (r0 + 1) 66 o0 x1.toNatClampNeg)) (rfl)).trans (and_congr_right fun _ => ?_)
  refine (ev_iadd dX9_comes_400).trans ?_
  refine (ev_iload dX9_comes_401 rfl).trans ?_
  refine (ev_iast dX9_comes_403 (by decide)).trans (and_congr_right fun _ => ?_)
  refine (ev_aload_n dX9_comes_404 rfl).trans ?_
  refine (ev_getR dX9_comes_405 f_9_38 rfl).trans ((and_iff_right (by decide)).trans ?_)
  refine (ev_getR dX9_comes_408 f_9_140 rfl).trans ((and_iff_right (by decide)).trans ?_)
  refine (ev_iload_n dX9_comes_411 rfl).trans ?_
  refine (ev_dup2 dX9_comes_412).trans ?_
  refine (ev_iald2 dX9_comes_413 (by decide) (v := (μ (r0 + 1) 66 o0 x1.toNatClampNeg)) ((mget_a (by decide)).trans (rfl))).trans (and_congr_right fun _ => ?_)
  refine (ev_iconst dX9_comes_414 (w := 1) (by decide)).trans ?_
  refine (ev_iadd dX9_comes_415).trans ?_
  refine (ev_iast dX9_comes_416 (by decide)).trans (and_congr_right fun _ => ?_)
  refine (ev_iload dX9_comes_417 rfl).trans ?_
  refine (ev_ifc dX9_comes_419 (t := 428) (by decide)).trans (and_congr (imp_congr Iff.rfl ?_) (imp_congr Iff.rfl ?_))
  · exact Iff.rfl
  · refine (ev_aload_n dX9_comes_422 rfl).trans ?_
    refine (ev_iload dX9_comes_423 rfl).trans ?_
    refine (ev_virV dX9_comes_425 c_9_159 (by decide) (As := [.inl x9]) rfl rfl rfl rfl (Nat.le_of_ble_eq_true rfl)).trans ((and_iff_right (by decide)).trans (exists_congr fun μ1 => and_congr_right fun _ => ?_))
    exact Iff.rfl
theorem B92_428 {C : Nat → List AV → Mem → Res → Prop} {μ : Mem} {res : Res} {x1 x2 x3 x4 x5 x6 x7 x8 x9 : Int32} {r0 o0 : Nat} : EvE C 92 428 [some (.inr (r0, 40, o0)), some (.inl x1), some (.inl x2), some (.inl x3), some (.inl x4), some (.inl x5), some (.inl x6), some (.inl x7), some (.inl x8), some (.inl x9)] [] μ res ↔ res = (some x7, μ) := by
  refine (ev_iload dX9_comes_428 rfl).trans ?_
  exact ev_ireturn dX9_comes_430 rfl
/-! X9_refuse -/
theorem B93_0 {C : Nat → List AV → Mem → Res → Prop} {μ : Mem} {res : Res} {x1 : Int32} {r0 o0 : Nat} : EvE C 93 0 [some (.inr (r0, 40, o0)), some (.inl x1), none, none] [] μ res ↔ ∃ v1 μ1, C 85 [.inr (r0, 40, o0), .inl x1] μ (some v1, μ1) ∧ vp_in v1 120 ∧ vp_in v1 120 ∧ ∃ μ2, C 87 [.inr (r0, 40, o0), .inl (μ1 (r0 + 1) 68 o0 v1.toNatClampNeg), .inl 10] μ1 (none, μ2) ∧ ∃ μ3, C 89 [.inr (r0, 40, o0), .inl x1] (mset μ2 (r0 + 1) 60 o0 28 0) (none, μ3) ∧ ∃ v4 μ4, C 94 [.inr (r0, 40, o0), .inl x1, .inl (μ1 (r0 + 1) 71 o0 v1.toNatClampNeg), .inl 0] μ3 (some v4, μ4) ∧ res = (none, μ4) := by
  refine (ev_aload_n dX9_refuse_0 rfl).trans ?_
  refine (ev_iload_n dX9_refuse_1 rfl).trans ?_
  refine (ev_virI dX9_refuse_2 c_9_117 (by decide) (As := [.inl x1]) rfl rfl (by decide) rfl (Nat.le_of_ble_eq_true rfl)).trans ((and_iff_right (by decide)).trans (exists_congr fun v1 => exists_congr fun μ1 => and_congr_right fun _ => ?_))
  refine (ev_istore_n dX9_refuse_5 (Nat.le_of_ble_eq_true rfl) rfl).trans ?_
  refine (ev_aload_n dX9_refuse_6 rfl).trans ?_
  refine (ev_getR dX9_refuse_7 f_9_38 rfl).trans ((and_iff_right (by decide)).trans ?_)
  refine (ev_getR dX9_refuse_10 f_9_124 rfl).trans ((and_iff_right (by decide)).trans ?_)
  refine (ev_iload_n dX9_refuse_13 rfl).trans ?_
  refine (ev_iald2 dX9_refuse_14 (by decide) (v := (μ1 (r0 + 1) 71 o0 v1.toNatClampNeg)) (rfl)).trans (and_congr_right fun _ => ?_)
  refine (ev_istore_n dX9_refuse_15 (Nat.le_of_ble_eq_true rfl) rfl).trans ?_
  refine (ev_aload_n dX9_refuse_16 rfl).trans ?_
  refine (ev_aload_n dX9_refuse_17 rfl).trans ?_
  refine (ev_getR dX9_refuse_18 f_9_38 rfl).trans ((and_iff_right (by decide)).trans ?_)
  refine (ev_getR dX9_refuse_21 f_9_111 rfl).trans ((and_iff_right (by decide)).trans ?_)
  refine (ev_iload_n dX9_refuse_24 rfl).trans ?_
  refine (ev_iald2 dX9_refuse_25 (by decide) (v := (μ1 (r0 + 1) 68 o0 v1.toNatClampNeg)) (rfl)).trans (and_congr_right fun _ => ?_)
  refine (ev_bipush dX9_refuse_26 (w := 10) (by decide)).trans ?_
  refine (ev_virV dX9_refuse_28 c_9_136 (by decide) (As := [.inl (μ1 (r0 + 1) 68 o0 v1.toNatClampNeg), .inl 10]) rfl rfl rfl rfl (Nat.le_of_ble_eq_true rfl)).trans ((and_iff_right (by decide)).trans (exists_congr fun μ2 => and_congr_right fun _ => ?_))
  refine (ev_aload_n dX9_refuse_31 rfl).trans ?_
  refine (ev_getR dX9_refuse_32 f_9_38 rfl).trans ((and_iff_right (by decide)).trans ?_)
  refine (ev_iconst dX9_refuse_35 (w := 0) (by decide)).trans ?_
  refine (ev_putZ dX9_refuse_36 f_9_51 rfl (by decide)).trans ((and_iff_right ⟨by decide, by decide⟩).trans ?_)
  refine (ev_aload_n dX9_refuse_39 rfl).trans ?_
  refine (ev_iload_n dX9_refuse_40 rfl).trans ?_
  refine (ev_virV dX9_refuse_41 c_9_162 (by decide) (As := [.inl x1]) rfl rfl rfl rfl (Nat.le_of_ble_eq_true rfl)).trans ((and_iff_right (by decide)).trans (exists_congr fun μ3 => and_congr_right fun _ => ?_))
  refine (ev_aload_n dX9_refuse_44 rfl).trans ?_
  refine (ev_iload_n dX9_refuse_45 rfl).trans ?_
  refine (ev_iload_n dX9_refuse_46 rfl).trans ?_
  refine (ev_iconst dX9_refuse_47 (w := 0) (by decide)).trans ?_
  refine (ev_virI dX9_refuse_48 c_9_165 (by decide) (As := [.inl x1, .inl (μ1 (r0 + 1) 71 o0 v1.toNatClampNeg), .inl 0]) rfl rfl (by decide) rfl (Nat.le_of_ble_eq_true rfl)).trans ((and_iff_right (by decide)).trans (exists_congr fun v4 => exists_congr fun μ4 => and_congr_right fun _ => ?_))
  refine (ev_pop dX9_refuse_51).trans ?_
  exact ev_return dX9_refuse_52 rfl
/-! X9_tell -/
theorem B94_0 {C : Nat → List AV → Mem → Res → Prop} {μ : Mem} {res : Res} {x1 x2 x3 : Int32} {r0 o0 : Nat} : EvE C 94 0 [some (.inr (r0, 40, o0)), some (.inl x1), some (.inl x2), some (.inl x3), none] [] μ res ↔ ((x2 < 0 → ∃ v1 μ1, C 86 [.inr (r0, 40, o0), .inl x1] μ (some v1, μ1) ∧ ((0 ≤ v1 → ∃ μ2, C 95 [.inr (r0, 40, o0), .inl v1, .inl x3] μ1 (none, μ2) ∧ res = (some 1, μ2)) ∧ (¬ (0 ≤ v1) → res = (some 0, μ1)))) ∧ (¬ (x2 < 0) → ∃ v3 μ3, C 85 [.inr (r0, 40, o0), .inl x2] μ (some v3, μ3) ∧ ((v3 < 0 → EvE C 94 44 [some (.inr (r0, 40, o0)), some (.inl x1), some (.inl x2), some (.inl x3), some (.inl v3)] [] μ3 res) ∧ (¬ (v3 < 0) → vp_in v3 120 ∧ ((¬ (μ3 (r0 + 1) 70 o0 v3.toNatClampNeg) = 2 → EvE C 94 44 [some (.inr (r0, 40, o0)), some (.inl x1), some (.inl x2), some (.inl x3), some (.inl v3)] [] μ3 res) ∧ (¬ (¬ (μ3 (r0 + 1) 70 o0 v3.toNatClampNeg) = 2) → vp_in v3 120 ∧ (((μ3 (r0 + 1) 74 o0 v3.toNatClampNeg) = x1 → ∃ μ4, C 98 [.inr (r0, 40, o0), .inl x2, .inl x3] μ3 (none, μ4) ∧ res = (some 1, μ4)) ∧ (¬ ((μ3 (r0 + 1) 74 o0 v3.toNatClampNeg) = x1) → EvE C 94 44 [some (.inr (r0, 40, o0)), some (.inl x1), some (.inl x2), some (.inl x3), some (.inl v3)] [] μ3 res)))))))) := by
  refine (ev_iload_n dX9_tell_0 rfl).trans ?_
  refine (ev_ifc dX9_tell_1 (t := 54) (by decide)).trans (and_congr (imp_congr Iff.rfl ?_) (imp_congr Iff.rfl ?_))
  · refine (ev_aload_n dX9_tell_54 rfl).trans ?_
    refine (ev_iload_n dX9_tell_55 rfl).trans ?_
    refine (ev_virI dX9_tell_56 c_9_173 (by decide) (As := [.inl x1]) rfl rfl (by decide) rfl (Nat.le_of_ble_eq_true rfl)).trans ((and_iff_right (by decide)).trans (exists_congr fun v1 => exists_congr fun μ1 => and_congr_right fun _ => ?_))
    refine (ev_istore dX9_tell_59 (Nat.le_of_ble_eq_true rfl) rfl).trans ?_
    refine (ev_iload dX9_tell_61 rfl).trans ?_
    refine (ev_ifc dX9_tell_63 (t := 68) (by decide)).trans (and_congr (imp_congr Iff.rfl ?_) (imp_congr Iff.rfl ?_))
    · refine (ev_aload_n dX9_tell_68 rfl).trans ?_
      refine (ev_iload dX9_tell_69 rfl).trans ?_
      refine (ev_iload_n dX9_tell_71 rfl).trans ?_
      refine (ev_virV dX9_tell_72 c_9_176 (by decide) (As := [.inl v1, .inl x3]) rfl rfl rfl rfl (Nat.le_of_ble_eq_true rfl)).trans ((and_iff_right (by decide)).trans (exists_congr fun μ2 => and_congr_right fun _ => ?_))
      refine (ev_iconst dX9_tell_75 (w := 1) (by decide)).trans ?_
      exact (ev_zreturn dX9_tell_76 rfl).trans (and_iff_right (by decide))
    · refine (ev_iconst dX9_tell_66 (w := 0) (by decide)).trans ?_
      exact (ev_zreturn dX9_tell_67 rfl).trans (and_iff_right (by decide))
  · refine (ev_aload_n dX9_tell_4 rfl).trans ?_
    refine (ev_iload_n dX9_tell_5 rfl).trans ?_
    refine (ev_virI dX9_tell_6 c_9_117 (by decide) (As := [.inl x2]) rfl rfl (by decide) rfl (Nat.le_of_ble_eq_true rfl)).trans ((and_iff_right (by decide)).trans (exists_congr fun v3 => exists_congr fun μ3 => and_congr_right fun _ => ?_))
    refine (ev_istore dX9_tell_9 (Nat.le_of_ble_eq_true rfl) rfl).trans ?_
    refine (ev_iload dX9_tell_11 rfl).trans ?_
    refine (ev_ifc dX9_tell_13 (t := 44) (by decide)).trans (and_congr (imp_congr Iff.rfl ?_) (imp_congr Iff.rfl ?_))
    · exact Iff.rfl
    · refine (ev_aload_n dX9_tell_16 rfl).trans ?_
      refine (ev_getR dX9_tell_17 f_9_38 rfl).trans ((and_iff_right (by decide)).trans ?_)
      refine (ev_getR dX9_tell_20 f_9_114 rfl).trans ((and_iff_right (by decide)).trans ?_)
      refine (ev_iload dX9_tell_23 rfl).trans ?_
      refine (ev_iald2 dX9_tell_25 (by decide) (v := (μ3 (r0 + 1) 70 o0 v3.toNatClampNeg)) (rfl)).trans (and_congr_right fun _ => ?_)
      refine (ev_iconst dX9_tell_26 (w := 2) (by decide)).trans ?_
      refine (ev_icmp dX9_tell_27 (t := 44) (by decide)).trans (and_congr (imp_congr Iff.rfl ?_) (imp_congr Iff.rfl ?_))
      · exact Iff.rfl
      · refine (ev_aload_n dX9_tell_30 rfl).trans ?_
        refine (ev_getR dX9_tell_31 f_9_38 rfl).trans ((and_iff_right (by decide)).trans ?_)
        refine (ev_getR dX9_tell_34 f_9_133 rfl).trans ((and_iff_right (by decide)).trans ?_)
        refine (ev_iload dX9_tell_37 rfl).trans ?_
        refine (ev_iald2 dX9_tell_39 (by decide) (v := (μ3 (r0 + 1) 74 o0 v3.toNatClampNeg)) (rfl)).trans (and_congr_right fun _ => ?_)
        refine (ev_iload_n dX9_tell_40 rfl).trans ?_
        refine (ev_icmp dX9_tell_41 (t := 46) (by decide)).trans (and_congr (imp_congr Iff.rfl ?_) (imp_congr Iff.rfl ?_))
        · refine (ev_aload_n dX9_tell_46 rfl).trans ?_
          refine (ev_iload_n dX9_tell_47 rfl).trans ?_
          refine (ev_iload_n dX9_tell_48 rfl).trans ?_
          refine (ev_virV dX9_tell_49 c_9_169 (by decide) (As := [.inl x2, .inl x3]) rfl rfl rfl rfl (Nat.le_of_ble_eq_true rfl)).trans ((and_iff_right (by decide)).trans (exists_congr fun μ4 => and_congr_right fun _ => ?_))
          refine (ev_iconst dX9_tell_52 (w := 1) (by decide)).trans ?_
          exact (ev_zreturn dX9_tell_53 rfl).trans (and_iff_right (by decide))
        · exact Iff.rfl
theorem B94_44 {C : Nat → List AV → Mem → Res → Prop} {μ : Mem} {res : Res} {x1 x2 x3 x4 : Int32} {r0 o0 : Nat} : EvE C 94 44 [some (.inr (r0, 40, o0)), some (.inl x1), some (.inl x2), some (.inl x3), some (.inl x4)] [] μ res ↔ res = (some 0, μ) := by
  refine (ev_iconst dX9_tell_44 (w := 0) (by decide)).trans ?_
  exact (ev_zreturn dX9_tell_45 rfl).trans (and_iff_right (by decide))
/-! X9_answerGuest -/
theorem B95_0 {C : Nat → List AV → Mem → Res → Prop} {μ : Mem} {res : Res} {x1 x2 : Int32} {r0 o0 : Nat} : EvE C 95 0 [some (.inr (r0, 40, o0)), some (.inl x1), some (.inl x2)] [] μ res ↔ ((x2 = 0 → vp_in x1 100 ∧ vp_in x1 100 ∧ EvE C 95 54 [some (.inr (r0, 40, o0)), some (.inl x1), some (.inl x2)] [] (mset (mset μ (r0 + 1) 76 o0 x1.toNatClampNeg (-3)) (r0 + 1) 77 o0 x1.toNatClampNeg ((μ (r0 + 1) 60 o0 0) + 1)) res) ∧ (¬ (x2 = 0) → ∃ μ1, C 96 [.inr (r0, 40, o0), .inl x1] (mset μ (r0 + 1) 60 o0 24 ((μ (r0 + 1) 60 o0 24) + 1)) (none, μ1) ∧ EvE C 95 54 [some (.inr (r0, 40, o0)), some (.inl x1), some (.inl x2)] [] μ1 res)) := by
  refine (ev_iload_n dX9_answerGuest_0 rfl).trans ?_
  refine (ev_ifc dX9_answerGuest_1 (t := 25) (by decide)).trans (and_congr (imp_congr Iff.rfl ?_) (imp_congr Iff.rfl ?_))
  · refine (ev_aload_n dX9_answerGuest_25 rfl).trans ?_
    refine (ev_getR dX9_answerGuest_26 f_9_38 rfl).trans ((and_iff_right (by decide)).trans ?_)
    refine (ev_getR dX9_answerGuest_29 f_9_105 rfl).trans ((and_iff_right (by decide)).trans ?_)
    refine (ev_iload_n dX9_answerGuest_32 rfl).trans ?_
    refine (ev_bipush dX9_answerGuest_33 (w := (-3)) (by decide)).trans ?_
    refine (ev_iast dX9_answerGuest_35 (by decide)).trans (and_congr_right fun _ => ?_)
    refine (ev_aload_n dX9_answerGuest_36 rfl).trans ?_
    refine (ev_getR dX9_answerGuest_37 f_9_38 rfl).trans ((and_iff_right (by decide)).trans ?_)
    refine (ev_getR dX9_answerGuest_40 f_9_185 rfl).trans ((and_iff_right (by decide)).trans ?_)
    refine (ev_iload_n dX9_answerGuest_43 rfl).trans ?_
    refine (ev_aload_n dX9_answerGuest_44 rfl).trans ?_
    refine (ev_getR dX9_answerGuest_45 f_9_38 rfl).trans ((and_iff_right (by decide)).trans ?_)
    refine (ev_getI2 dX9_answerGuest_48 f_9_68 rfl (v := (μ (r0 + 1) 60 o0 0)) ((mget_a (by decide)).trans (rfl))).trans ((and_iff_right (by decide)).trans ?_)
    refine (ev_iconst dX9_answerGuest_51 (w := 1) (by decide)).trans ?_
    refine (ev_iadd dX9_answerGuest_52).trans ?_
    refine (ev_iast dX9_answerGuest_53 (by decide)).trans (and_congr_right fun _ => ?_)
    exact Iff.rfl
  · refine (ev_aload_n dX9_answerGuest_4 rfl).trans ?_
    refine (ev_getR dX9_answerGuest_5 f_9_38 rfl).trans ((and_iff_right (by decide)).trans ?_)
    refine (ev_dup dX9_answerGuest_8).trans ?_
    refine (ev_getI2 dX9_answerGuest_9 f_9_179 rfl (v := (μ (r0 + 1) 60 o0 24)) (rfl)).trans ((and_iff_right (by decide)).trans ?_)
    refine (ev_iconst dX9_answerGuest_12 (w := 1) (by decide)).trans ?_
    refine (ev_iadd dX9_answerGuest_13).trans ?_
    refine (ev_put dX9_answerGuest_14 f_9_179 rfl (by decide)).trans ((and_iff_right (by decide)).trans ?_)
    refine (ev_aload_n dX9_answerGuest_17 rfl).trans ?_
    refine (ev_iload_n dX9_answerGuest_18 rfl).trans ?_
    refine (ev_virV dX9_answerGuest_19 c_9_182 (by decide) (As := [.inl x1]) rfl rfl rfl rfl (Nat.le_of_ble_eq_true rfl)).trans ((and_iff_right (by decide)).trans (exists_congr fun μ1 => and_congr_right fun _ => ?_))
    refine (ev_goto dX9_answerGuest_22 (t := 54) (by decide)).trans ?_
    exact Iff.rfl
theorem B95_54 {C : Nat → List AV → Mem → Res → Prop} {μ : Mem} {res : Res} {x1 x2 : Int32} {r0 o0 : Nat} : EvE C 95 54 [some (.inr (r0, 40, o0)), some (.inl x1), some (.inl x2)] [] μ res ↔ res = (none, μ) := by
  exact ev_return dX9_answerGuest_54 rfl
/-! X9_guestGoes -/
theorem B96_0 {C : Nat → List AV → Mem → Res → Prop} {μ : Mem} {res : Res} {x1 : Int32} {r0 o0 : Nat} : EvE C 96 0 [some (.inr (r0, 40, o0)), some (.inl x1), none] [] μ res ↔ EvE C 96 15 [some (.inr (r0, 40, o0)), some (.inl x1), some (.inl x1)] [] (mset μ (r0 + 1) 60 o0 22 ((μ (r0 + 1) 60 o0 22) - 1)) res := by
  refine (ev_aload_n dX9_guestGoes_0 rfl).trans ?_
  refine (ev_getR dX9_guestGoes_1 f_9_38 rfl).trans ((and_iff_right (by decide)).trans ?_)
  refine (ev_dup dX9_guestGoes_4).trans ?_
  refine (ev_getI2 dX9_guestGoes_5 f_9_102 rfl (v := (μ (r0 + 1) 60 o0 22)) (rfl)).trans ((and_iff_right (by decide)).trans ?_)
  refine (ev_iconst dX9_guestGoes_8 (w := 1) (by decide)).trans ?_
  refine (ev_isub dX9_guestGoes_9).trans ?_
  refine (ev_put dX9_guestGoes_10 f_9_102 rfl (by decide)).trans ((and_iff_right (by decide)).trans ?_)
  refine (ev_iload_n dX9_guestGoes_13 rfl).trans ?_
  refine (ev_istore_n dX9_guestGoes_14 (Nat.le_of_ble_eq_true rfl) rfl).trans ?_
  exact Iff.rfl
theorem B96_15 {C : Nat → List AV → Mem → Res → Prop} {μ : Mem} {res : Res} {x1 x2 : Int32} {r0 o0 : Nat} : EvE C 96 15 [some (.inr (r0, 40, o0)), some (.inl x1), some (.inl x2)] [] μ res ↔ (((μ (r0 + 1) 60 o0 22) ≤ x2 → res = (none, μ)) ∧ (¬ ((μ (r0 + 1) 60 o0 22) ≤ x2) → vp_in (x2 + 1) 100 ∧ vp_in x2 100 ∧ vp_in (x2 + 1) 100 ∧ vp_in x2 100 ∧ vp_in (x2 + 1) 100 ∧ vp_in x2 100 ∧ vp_in (x2 + 1) 100 ∧ vp_in x2 100 ∧ vp_in (x2 + 1) 100 ∧ vp_in x2 100 ∧ EvE C 96 15 [some (.inr (r0, 40, o0)), some (.inl x1), some (.inl (x2 + 1))] [] (mset (mset (mset (mset (mset μ (r0 + 1) 75 o0 x2.toNatClampNeg (μ (r0 + 1) 75 o0 (x2 + 1).toNatClampNeg)) (r0 + 1) 76 o0 x2.toNatClampNeg (μ (r0 + 1) 76 o0 (x2 + 1).toNatClampNeg)) (r0 + 1) 77 o0 x2.toNatClampNeg (μ (r0 + 1) 77 o0 (x2 + 1).toNatClampNeg)) (r0 + 1) 78 o0 x2.toNatClampNeg (μ (r0 + 1) 78 o0 (x2 + 1).toNatClampNeg)) (r0 + 1) 79 o0 x2.toNatClampNeg (μ (r0 + 1) 79 o0 (x2 + 1).toNatClampNeg)) res)) := by
  refine (ev_iload_n dX9_guestGoes_15 rfl).trans ?_
  refine (ev_aload_n dX9_guestGoes_16 rfl).trans ?_
  refine (ev_getR dX9_guestGoes_17 f_9_38 rfl).trans ((and_iff_right (by decide)).trans ?_)
  refine (ev_getI2 dX9_guestGoes_20 f_9_102 rfl (v := (μ (r0 + 1) 60 o0 22)) (rfl)).trans ((and_iff_right (by decide)).trans ?_)
  refine (ev_icmp dX9_guestGoes_23 (t := 132) (by decide)).trans (and_congr (imp_congr Iff.rfl ?_) (imp_congr Iff.rfl ?_))
  · exact ev_return dX9_guestGoes_132 rfl
  · refine (ev_aload_n dX9_guestGoes_26 rfl).trans ?_
    refine (ev_getR dX9_guestGoes_27 f_9_38 rfl).trans ((and_iff_right (by decide)).trans ?_)
    refine (ev_getR dX9_guestGoes_30 f_9_188 rfl).trans ((and_iff_right (by decide)).trans ?_)
    refine (ev_iload_n dX9_guestGoes_33 rfl).trans ?_
    refine (ev_aload_n dX9_guestGoes_34 rfl).trans ?_
    refine (ev_getR dX9_guestGoes_35 f_9_38 rfl).trans ((and_iff_right (by decide)).trans ?_)
    refine (ev_getR dX9_guestGoes_38 f_9_188 rfl).trans ((and_iff_right (by decide)).trans ?_)
    refine (ev_iload_n dX9_guestGoes_41 rfl).trans ?_
    refine (ev_iconst dX9_guestGoes_42 (w := 1) (by decide)).trans ?_
    refine (ev_iadd dX9_guestGoes_43).trans ?_
    refine (ev_iald2 dX9_guestGoes_44 (by decide) (v := (μ (r0 + 1) 75 o0 (x2 + 1).toNatClampNeg)) (rfl)).trans (and_congr_right fun _ => ?_)
    refine (ev_iast dX9_guestGoes_45 (by decide)).trans (and_congr_right fun _ => ?_)
    refine (ev_aload_n dX9_guestGoes_46 rfl).trans ?_
    refine (ev_getR dX9_guestGoes_47 f_9_38 rfl).trans ((and_iff_right (by decide)).trans ?_)
    refine (ev_getR dX9_guestGoes_50 f_9_105 rfl).trans ((and_iff_right (by decide)).trans ?_)
    refine (ev_iload_n dX9_guestGoes_53 rfl).trans ?_
    refine (ev_aload_n dX9_guestGoes_54 rfl).trans ?_
    refine (ev_getR dX9_guestGoes_55 f_9_38 rfl).trans ((and_iff_right (by decide)).trans ?_)
    refine (ev_getR dX9_guestGoes_58 f_9_105 rfl).trans ((and_iff_right (by decide)).trans ?_)
    refine (ev_iload_n dX9_guestGoes_61 rfl).trans ?_
    refine (ev_iconst dX9_guestGoes_62 (w := 1) (by decide)).trans ?_
    refine (ev_iadd dX9_guestGoes_63).trans ?_
    refine (ev_iald2 dX9_guestGoes_64 (by decide) (v := (μ (r0 + 1) 76 o0 (x2 + 1).toNatClampNeg)) ((mget_a (by decide)).trans (rfl))).trans (and_congr_right fun _ => ?_)
    refine (ev_iast dX9_guestGoes_65 (by decide)).trans (and_congr_right fun _ => ?_)
    refine (ev_aload_n dX9_guestGoes_66 rfl).trans ?_
    refine (ev_getR dX9_guestGoes_67 f_9_38 rfl).trans ((and_iff_right (by decide)).trans ?_)
    refine (ev_getR dX9_guestGoes_70 f_9_185 rfl).trans ((and_iff_right (by decide)).trans ?_)
    refine (ev_iload_n dX9_guestGoes_73 rfl).trans ?_
    refine (ev_aload_n dX9_guestGoes_74 rfl).trans ?_
    refine (ev_getR dX9_guestGoes_75 f_9_38 rfl).trans ((and_iff_right (by decide)).trans ?_)
    refine (ev_getR dX9_guestGoes_78 f_9_185 rfl).trans ((and_iff_right (by decide)).trans ?_)
    refine (ev_iload_n dX9_guestGoes_81 rfl).trans ?_
    refine (ev_iconst dX9_guestGoes_82 (w := 1) (by decide)).trans ?_
    refine (ev_iadd dX9_guestGoes_83).trans ?_
    refine (ev_iald2 dX9_guestGoes_84 (by decide) (v := (μ (r0 + 1) 77 o0 (x2 + 1).toNatClampNeg)) ((mget_a (by decide)).trans ((mget_a (by decide)).trans (rfl)))).trans (and_congr_right fun _ => ?_)
    refine (ev_iast dX9_guestGoes_85 (by decide)).trans (and_congr_right fun _ => ?_)
    refine (ev_aload_n dX9_guestGoes_86 rfl).trans ?_
    refine (ev_getR dX9_guestGoes_87 f_9_38 rfl).trans ((and_iff_right (by decide)).trans ?_)
    refine (ev_getR dX9_guestGoes_90 f_9_191 rfl).trans ((and_iff_right (by decide)).trans ?_)
    refine (ev_iload_n dX9_guestGoes_93 rfl).trans ?_
    refine (ev_aload_n dX9_guestGoes_94 rfl).trans ?_
    refine (ev_getR dX9_guestGoes_95 f_9_38 rfl).trans ((and_iff_right (by decide)).trans ?_)
    refine (ev_getR dX9_guestGoes_98 f_9_191 rfl).trans ((and_iff_right (by decide)).trans ?_)
    refine (ev_iload_n dX9_guestGoes_101 rfl).trans ?_
    refine (ev_iconst dX9_guestGoes_102 (w := 1) (by decide)).trans ?_
    refine (ev_iadd dX9_guestGoes_103).trans ?_
    refine (ev_iald2 dX9_guestGoes_104 (by decide) (v := (μ (r0 + 1) 78 o0 (x2 + 1).toNatClampNeg)) ((mget_a (by decide)).trans ((mget_a (by decide)).trans ((mget_a (by decide)).trans (rfl))))).trans (and_congr_right fun _ => ?_)
    refine (ev_iast dX9_guestGoes_105 (by decide)).trans (and_congr_right fun _ => ?_)
    refine (ev_aload_n dX9_guestGoes_106 rfl).trans ?_
    refine (ev_getR dX9_guestGoes_107 f_9_38 rfl).trans ((and_iff_right (by decide)).trans ?_)
    refine (ev_getR dX9_guestGoes_110 f_9_194 rfl).trans ((and_iff_right (by decide)).trans ?_)
    refine (ev_iload_n dX9_guestGoes_113 rfl).trans ?_
    refine (ev_aload_n dX9_guestGoes_114 rfl).trans ?_
    refine (ev_getR dX9_guestGoes_115 f_9_38 rfl).trans ((and_iff_right (by decide)).trans ?_)
    refine (ev_getR dX9_guestGoes_118 f_9_194 rfl).trans ((and_iff_right (by decide)).trans ?_)
    refine (ev_iload_n dX9_guestGoes_121 rfl).trans ?_
    refine (ev_iconst dX9_guestGoes_122 (w := 1) (by decide)).trans ?_
    refine (ev_iadd dX9_guestGoes_123).trans ?_
    refine (ev_iald2 dX9_guestGoes_124 (by decide) (v := (μ (r0 + 1) 79 o0 (x2 + 1).toNatClampNeg)) ((mget_a (by decide)).trans ((mget_a (by decide)).trans ((mget_a (by decide)).trans ((mget_a (by decide)).trans (rfl)))))).trans (and_congr_right fun _ => ?_)
    refine (ev_iast dX9_guestGoes_125 (by decide)).trans (and_congr_right fun _ => ?_)
    refine (ev_iinc dX9_guestGoes_126 rfl (w := 1) (by decide) rfl).trans ?_
    refine (ev_goto dX9_guestGoes_129 (t := 15) (by decide)).trans ?_
    exact Iff.rfl
/-! X9_over -/
theorem B97_0 {C : Nat → List AV → Mem → Res → Prop} {μ : Mem} {res : Res} {x1 x2 : Int32} {r0 o0 : Nat} : EvE C 97 0 [some (.inr (r0, 40, o0)), some (.inl x1), some (.inl x2), none, none, none] [] μ res ↔ ∃ v1 μ1, C 85 [.inr (r0, 40, o0), .inl x1] μ (some v1, μ1) ∧ vp_in v1 120 ∧ vp_in v1 120 ∧ ((x2 = 0 → EvE C 97 42 [some (.inr (r0, 40, o0)), some (.inl x1), some (.inl x2), some (.inl v1), some (.inl (μ1 (r0 + 1) 68 o0 v1.toNatClampNeg)), some (.inl (μ1 (r0 + 1) 71 o0 v1.toNatClampNeg))] [.inl 9, .inl (μ1 (r0 + 1) 68 o0 v1.toNatClampNeg), .inr (r0, 40, o0)] μ1 res) ∧ (¬ (x2 = 0) → EvE C 97 42 [some (.inr (r0, 40, o0)), some (.inl x1), some (.inl x2), some (.inl v1), some (.inl (μ1 (r0 + 1) 68 o0 v1.toNatClampNeg)), some (.inl (μ1 (r0 + 1) 71 o0 v1.toNatClampNeg))] [.inl 8, .inl (μ1 (r0 + 1) 68 o0 v1.toNatClampNeg), .inr (r0, 40, o0)] μ1 res)) := by
  refine (ev_aload_n dX9_over_0 rfl).trans ?_
  refine (ev_iload_n dX9_over_1 rfl).trans ?_
  refine (ev_virI dX9_over_2 c_9_117 (by decide) (As := [.inl x1]) rfl rfl (by decide) rfl (Nat.le_of_ble_eq_true rfl)).trans ((and_iff_right (by decide)).trans (exists_congr fun v1 => exists_congr fun μ1 => and_congr_right fun _ => ?_))
  refine (ev_istore_n dX9_over_5 (Nat.le_of_ble_eq_true rfl) rfl).trans ?_
  refine (ev_aload_n dX9_over_6 rfl).trans ?_
  refine (ev_getR dX9_over_7 f_9_38 rfl).trans ((and_iff_right (by decide)).trans ?_)
  refine (ev_getR dX9_over_10 f_9_111 rfl).trans ((and_iff_right (by decide)).trans ?_)
  refine (ev_iload_n dX9_over_13 rfl).trans ?_
  refine (ev_iald2 dX9_over_14 (by decide) (v := (μ1 (r0 + 1) 68 o0 v1.toNatClampNeg)) (rfl)).trans (and_congr_right fun _ => ?_)
  refine (ev_istore dX9_over_15 (Nat.le_of_ble_eq_true rfl) rfl).trans ?_
  refine (ev_aload_n dX9_over_17 rfl).trans ?_
  refine (ev_getR dX9_over_18 f_9_38 rfl).trans ((and_iff_right (by decide)).trans ?_)
  refine (ev_getR dX9_over_21 f_9_124 rfl).trans ((and_iff_right (by decide)).trans ?_)
  refine (ev_iload_n dX9_over_24 rfl).trans ?_
  refine (ev_iald2 dX9_over_25 (by decide) (v := (μ1 (r0 + 1) 71 o0 v1.toNatClampNeg)) (rfl)).trans (and_congr_right fun _ => ?_)
  refine (ev_istore dX9_over_26 (Nat.le_of_ble_eq_true rfl) rfl).trans ?_
  refine (ev_aload_n dX9_over_28 rfl).trans ?_
  refine (ev_iload dX9_over_29 rfl).trans ?_
  refine (ev_iload_n dX9_over_31 rfl).trans ?_
  refine (ev_ifc dX9_over_32 (t := 40) (by decide)).trans (and_congr (imp_congr Iff.rfl ?_) (imp_congr Iff.rfl ?_))
  · refine (ev_bipush dX9_over_40 (w := 9) (by decide)).trans ?_
    exact Iff.rfl
  · refine (ev_bipush dX9_over_35 (w := 8) (by decide)).trans ?_
    refine (ev_goto dX9_over_37 (t := 42) (by decide)).trans ?_
    exact Iff.rfl
theorem B97_42 {C : Nat → List AV → Mem → Res → Prop} {μ : Mem} {res : Res} {x1 x2 x3 x4 x5 w1 w2 : Int32} {r0 o0 rs0 os0 : Nat} : EvE C 97 42 [some (.inr (r0, 40, o0)), some (.inl x1), some (.inl x2), some (.inl x3), some (.inl x4), some (.inl x5)] [.inl w2, .inl w1, .inr (rs0, 40, os0)] μ res ↔ ∃ μ1, C 87 [.inr (rs0, 40, os0), .inl w1, .inl w2] μ (none, μ1) ∧ ((x2 = 0 → EvE C 97 97 [some (.inr (r0, 40, o0)), some (.inl x1), some (.inl x2), some (.inl x3), some (.inl x4), some (.inl x5)] [] μ1 res) ∧ (¬ (x2 = 0) → ∃ v2 μ2, C 77 [.inr (r0, 40, o0), .inl x4, .inl 3] μ1 (some v2, μ2) ∧ ((v2 ≤ 0 → EvE C 97 97 [some (.inr (r0, 40, o0)), some (.inl x1), some (.inl x2), some (.inl x3), some (.inl x4), some (.inl x5)] [] μ2 res) ∧ (¬ (v2 ≤ 0) → vp_in x3 120 ∧ ∃ v3 μ3, C 77 [.inr (r0, 40, o0), .inl x4, .inl 3] μ2 (some v3, μ3) ∧ vp_in ((8 * x4) + (μ2 (r0 + 1) 69 o0 x3.toNatClampNeg)) 48 ∧ EvE C 97 97 [some (.inr (r0, 40, o0)), some (.inl x1), some (.inl x2), some (.inl x3), some (.inl x4), some (.inl x5)] [] (mset μ3 (r0 + 1) 64 o0 ((8 * x4) + (μ2 (r0 + 1) 69 o0 x3.toNatClampNeg)).toNatClampNeg ((μ2 (r0 + 1) 60 o0 0) + v3)) res)))) := by
  refine (ev_virV dX9_over_42 c_9_136 (by decide) (As := [.inl w1, .inl w2]) rfl rfl rfl rfl (Nat.le_of_ble_eq_true rfl)).trans ((and_iff_right (by decide)).trans (exists_congr fun μ1 => and_congr_right fun _ => ?_))
  refine (ev_iload_n dX9_over_45 rfl).trans ?_
  refine (ev_ifc dX9_over_46 (t := 97) (by decide)).trans (and_congr (imp_congr Iff.rfl ?_) (imp_congr Iff.rfl ?_))
  · exact Iff.rfl
  · refine (ev_aload_n dX9_over_49 rfl).trans ?_
    refine (ev_iload dX9_over_50 rfl).trans ?_
    refine (ev_iconst dX9_over_52 (w := 3) (by decide)).trans ?_
    refine (ev_virI dX9_over_53 c_9_79 (by decide) (As := [.inl x4, .inl 3]) rfl rfl (by decide) rfl (Nat.le_of_ble_eq_true rfl)).trans ((and_iff_right (by decide)).trans (exists_congr fun v2 => exists_congr fun μ2 => and_congr_right fun _ => ?_))
    refine (ev_ifc dX9_over_56 (t := 97) (by decide)).trans (and_congr (imp_congr Iff.rfl ?_) (imp_congr Iff.rfl ?_))
    · exact Iff.rfl
    · refine (ev_aload_n dX9_over_59 rfl).trans ?_
      refine (ev_getR dX9_over_60 f_9_38 rfl).trans ((and_iff_right (by decide)).trans ?_)
      refine (ev_getR dX9_over_63 f_9_55 rfl).trans ((and_iff_right (by decide)).trans ?_)
      refine (ev_bipush dX9_over_66 (w := 8) (by decide)).trans ?_
      refine (ev_iload dX9_over_68 rfl).trans ?_
      refine (ev_imul dX9_over_70).trans ?_
      refine (ev_aload_n dX9_over_71 rfl).trans ?_
      refine (ev_getR dX9_over_72 f_9_38 rfl).trans ((and_iff_right (by decide)).trans ?_)
      refine (ev_getR dX9_over_75 f_9_121 rfl).trans ((and_iff_right (by decide)).trans ?_)
      refine (ev_iload_n dX9_over_78 rfl).trans ?_
      refine (ev_iald2 dX9_over_79 (by decide) (v := (μ2 (r0 + 1) 69 o0 x3.toNatClampNeg)) (rfl)).trans (and_congr_right fun _ => ?_)
      refine (ev_iadd dX9_over_80).trans ?_
      refine (ev_aload_n dX9_over_81 rfl).trans ?_
      refine (ev_getR dX9_over_82 f_9_38 rfl).trans ((and_iff_right (by decide)).trans ?_)
      refine (ev_getI2 dX9_over_85 f_9_68 rfl (v := (μ2 (r0 + 1) 60 o0 0)) (rfl)).trans ((and_iff_right (by decide)).trans ?_)
      refine (ev_aload_n dX9_over_88 rfl).trans ?_
      refine (ev_iload dX9_over_89 rfl).trans ?_
      refine (ev_iconst dX9_over_91 (w := 3) (by decide)).trans ?_
      refine (ev_virI dX9_over_92 c_9_79 (by decide) (As := [.inl x4, .inl 3]) rfl rfl (by decide) rfl (Nat.le_of_ble_eq_true rfl)).trans ((and_iff_right (by decide)).trans (exists_congr fun v3 => exists_congr fun μ3 => and_congr_right fun _ => ?_))
      refine (ev_iadd dX9_over_95).trans ?_
      refine (ev_iast dX9_over_96 (by decide)).trans (and_congr_right fun _ => ?_)
      exact Iff.rfl
theorem B97_97 {C : Nat → List AV → Mem → Res → Prop} {μ : Mem} {res : Res} {x1 x2 x3 x4 x5 : Int32} {r0 o0 : Nat} : EvE C 97 97 [some (.inr (r0, 40, o0)), some (.inl x1), some (.inl x2), some (.inl x3), some (.inl x4), some (.inl x5)] [] μ res ↔ ∃ μ1, C 89 [.inr (r0, 40, o0), .inl x1] μ (none, μ1) ∧ ∃ v2 μ2, C 94 [.inr (r0, 40, o0), .inl x1, .inl x5, .inl x2] μ1 (some v2, μ2) ∧ ((¬ v2 = 0 → EvE C 97 134 [some (.inr (r0, 40, o0)), some (.inl x1), some (.inl x2), some (.inl x3), some (.inl x4), some (.inl x5)] [] μ2 res) ∧ (¬ (¬ v2 = 0) → ∃ μ3, C 87 [.inr (r0, 40, o0), .inl x4, .inl 11] μ2 (none, μ3) ∧ EvE C 97 134 [some (.inr (r0, 40, o0)), some (.inl x1), some (.inl x2), some (.inl x3), some (.inl x4), some (.inl x5)] [] (mset μ3 (r0 + 1) 60 o0 27 ((μ3 (r0 + 1) 60 o0 27) + 1)) res)) := by
  refine (ev_aload_n dX9_over_97 rfl).trans ?_
  refine (ev_iload_n dX9_over_98 rfl).trans ?_
  refine (ev_virV dX9_over_99 c_9_162 (by decide) (As := [.inl x1]) rfl rfl rfl rfl (Nat.le_of_ble_eq_true rfl)).trans ((and_iff_right (by decide)).trans (exists_congr fun μ1 => and_congr_right fun _ => ?_))
  refine (ev_aload_n dX9_over_102 rfl).trans ?_
  refine (ev_iload_n dX9_over_103 rfl).trans ?_
  refine (ev_iload dX9_over_104 rfl).trans ?_
  refine (ev_iload_n dX9_over_106 rfl).trans ?_
  refine (ev_virI dX9_over_107 c_9_165 (by decide) (As := [.inl x1, .inl x5, .inl x2]) rfl rfl (by decide) rfl (Nat.le_of_ble_eq_true rfl)).trans ((and_iff_right (by decide)).trans (exists_congr fun v2 => exists_congr fun μ2 => and_congr_right fun _ => ?_))
  refine (ev_ifc dX9_over_110 (t := 134) (by decide)).trans (and_congr (imp_congr Iff.rfl ?_) (imp_congr Iff.rfl ?_))
  · exact Iff.rfl
  · refine (ev_aload_n dX9_over_113 rfl).trans ?_
    refine (ev_iload dX9_over_114 rfl).trans ?_
    refine (ev_bipush dX9_over_116 (w := 11) (by decide)).trans ?_
    refine (ev_virV dX9_over_118 c_9_136 (by decide) (As := [.inl x4, .inl 11]) rfl rfl rfl rfl (Nat.le_of_ble_eq_true rfl)).trans ((and_iff_right (by decide)).trans (exists_congr fun μ3 => and_congr_right fun _ => ?_))
    refine (ev_aload_n dX9_over_121 rfl).trans ?_
    refine (ev_getR dX9_over_122 f_9_38 rfl).trans ((and_iff_right (by decide)).trans ?_)
    refine (ev_dup dX9_over_125).trans ?_
    refine (ev_getI2 dX9_over_126 f_9_197 rfl (v := (μ3 (r0 + 1) 60 o0 27)) (rfl)).trans ((and_iff_right (by decide)).trans ?_)
    refine (ev_iconst dX9_over_129 (w := 1) (by decide)).trans ?_
    refine (ev_iadd dX9_over_130).trans ?_
    refine (ev_put dX9_over_131 f_9_197 rfl (by decide)).trans ((and_iff_right (by decide)).trans ?_)
    exact Iff.rfl
theorem B97_134 {C : Nat → List AV → Mem → Res → Prop} {μ : Mem} {res : Res} {x1 x2 x3 x4 x5 : Int32} {r0 o0 : Nat} : EvE C 97 134 [some (.inr (r0, 40, o0)), some (.inl x1), some (.inl x2), some (.inl x3), some (.inl x4), some (.inl x5)] [] μ res ↔ res = (none, μ) := by
  exact ev_return dX9_over_134 rfl
/-! X9_answered -/
theorem B98_0 {C : Nat → List AV → Mem → Res → Prop} {μ : Mem} {res : Res} {x1 x2 : Int32} {r0 o0 : Nat} : EvE C 98 0 [some (.inr (r0, 40, o0)), some (.inl x1), some (.inl x2)] [] μ res ↔ ((x2 = 0 → ∃ μ1, C 99 [.inr (r0, 40, o0), .inl x1] μ (none, μ1) ∧ EvE C 98 40 [some (.inr (r0, 40, o0)), some (.inl x1), some (.inl x2)] [] μ1 res) ∧ (¬ (x2 = 0) → ∃ v2 μ2, C 85 [.inr (r0, 40, o0), .inl x1] μ (some v2, μ2) ∧ vp_in v2 120 ∧ vp_in (μ2 (r0 + 1) 68 o0 v2.toNatClampNeg) 6 ∧ ∃ μ3, C 97 [.inr (r0, 40, o0), .inl x1, .inl 1] (mset μ2 (r0 + 1) 62 o0 (μ2 (r0 + 1) 68 o0 v2.toNatClampNeg).toNatClampNeg 0) (none, μ3) ∧ EvE C 98 40 [some (.inr (r0, 40, o0)), some (.inl x1), some (.inl x2)] [] μ3 res)) := by
  refine (ev_iload_n dX9_answered_0 rfl).trans ?_
  refine (ev_ifc dX9_answered_1 (t := 35) (by decide)).trans (and_congr (imp_congr Iff.rfl ?_) (imp_congr Iff.rfl ?_))
  · refine (ev_aload_n dX9_answered_35 rfl).trans ?_
    refine (ev_iload_n dX9_answered_36 rfl).trans ?_
    refine (ev_virV dX9_answered_37 c_9_206 (by decide) (As := [.inl x1]) rfl rfl rfl rfl (Nat.le_of_ble_eq_true rfl)).trans ((and_iff_right (by decide)).trans (exists_congr fun μ1 => and_congr_right fun _ => ?_))
    exact Iff.rfl
  · refine (ev_aload_n dX9_answered_4 rfl).trans ?_
    refine (ev_getR dX9_answered_5 f_9_38 rfl).trans ((and_iff_right (by decide)).trans ?_)
    refine (ev_getR dX9_answered_8 f_9_200 rfl).trans ((and_iff_right (by decide)).trans ?_)
    refine (ev_aload_n dX9_answered_11 rfl).trans ?_
    refine (ev_getR dX9_answered_12 f_9_38 rfl).trans ((and_iff_right (by decide)).trans ?_)
    refine (ev_getR dX9_answered_15 f_9_111 rfl).trans ((and_iff_right (by decide)).trans ?_)
    refine (ev_aload_n dX9_answered_18 rfl).trans ?_
    refine (ev_iload_n dX9_answered_19 rfl).trans ?_
    refine (ev_virI dX9_answered_20 c_9_117 (by decide) (As := [.inl x1]) rfl rfl (by decide) rfl (Nat.le_of_ble_eq_true rfl)).trans ((and_iff_right (by decide)).trans (exists_congr fun v2 => exists_congr fun μ2 => and_congr_right fun _ => ?_))
    refine (ev_iald2 dX9_answered_23 (by decide) (v := (μ2 (r0 + 1) 68 o0 v2.toNatClampNeg)) (rfl)).trans (and_congr_right fun _ => ?_)
    refine (ev_iconst dX9_answered_24 (w := 0) (by decide)).trans ?_
    refine (ev_iast dX9_answered_25 (by decide)).trans (and_congr_right fun _ => ?_)
    refine (ev_aload_n dX9_answered_26 rfl).trans ?_
    refine (ev_iload_n dX9_answered_27 rfl).trans ?_
    refine (ev_iconst dX9_answered_28 (w := 1) (by decide)).trans ?_
    refine (ev_virV dX9_answered_29 c_9_203 (by decide) (As := [.inl x1, .inl 1]) rfl rfl rfl rfl (Nat.le_of_ble_eq_true rfl)).trans ((and_iff_right (by decide)).trans (exists_congr fun μ3 => and_congr_right fun _ => ?_))
    refine (ev_goto dX9_answered_32 (t := 40) (by decide)).trans ?_
    exact Iff.rfl
theorem B98_40 {C : Nat → List AV → Mem → Res → Prop} {μ : Mem} {res : Res} {x1 x2 : Int32} {r0 o0 : Nat} : EvE C 98 40 [some (.inr (r0, 40, o0)), some (.inl x1), some (.inl x2)] [] μ res ↔ res = (none, μ) := by
  exact ev_return dX9_answered_40 rfl
/-! X9_fail -/
theorem B99_0 {C : Nat → List AV → Mem → Res → Prop} {μ : Mem} {res : Res} {x1 : Int32} {r0 o0 : Nat} : EvE C 99 0 [some (.inr (r0, 40, o0)), some (.inl x1), none, none] [] μ res ↔ ∃ v1 μ1, C 85 [.inr (r0, 40, o0), .inl x1] μ (some v1, μ1) ∧ vp_in v1 120 ∧ vp_in v1 120 ∧ ∃ μ2, C 87 [.inr (r0, 40, o0), .inl (μ1 (r0 + 1) 68 o0 v1.toNatClampNeg), .inl 12] (mset (mset μ1 (r0 + 1) 74 o0 v1.toNatClampNeg (-1)) (r0 + 1) 60 o0 28 0) (none, μ2) ∧ vp_in (μ1 (r0 + 1) 68 o0 v1.toNatClampNeg) 6 ∧ vp_in (μ1 (r0 + 1) 68 o0 v1.toNatClampNeg) 6 ∧ ∃ v3 μ3, C 77 [.inr (r0, 40, o0), .inl (μ1 (r0 + 1) 68 o0 v1.toNatClampNeg), .inl 4] (mset μ2 (r0 + 1) 62 o0 (μ1 (r0 + 1) 68 o0 v1.toNatClampNeg).toNatClampNeg ((μ2 (r0 + 1) 62 o0 (μ1 (r0 + 1) 68 o0 v1.toNatClampNeg).toNatClampNeg) + 1)) (some v3, μ3) ∧ ((v3 ≤ 0 → EvE C 99 114 [some (.inr (r0, 40, o0)), some (.inl x1), some (.inl v1), some (.inl (μ1 (r0 + 1) 68 o0 v1.toNatClampNeg))] [] μ3 res) ∧ (¬ (v3 ≤ 0) → vp_in (μ1 (r0 + 1) 68 o0 v1.toNatClampNeg) 6 ∧ ∃ v4 μ4, C 77 [.inr (r0, 40, o0), .inl (μ1 (r0 + 1) 68 o0 v1.toNatClampNeg), .inl 4] μ3 (some v4, μ4) ∧ (((μ3 (r0 + 1) 62 o0 (μ1 (r0 + 1) 68 o0 v1.toNatClampNeg).toNatClampNeg) < v4 → EvE C 99 114 [some (.inr (r0, 40, o0)), some (.inl x1), some (.inl v1), some (.inl (μ1 (r0 + 1) 68 o0 v1.toNatClampNeg))] [] μ4 res) ∧ (¬ ((μ3 (r0 + 1) 62 o0 (μ1 (r0 + 1) 68 o0 v1.toNatClampNeg).toNatClampNeg) < v4) → ∃ v5 μ5, C 77 [.inr (r0, 40, o0), .inl (μ1 (r0 + 1) 68 o0 v1.toNatClampNeg), .inl 5] μ4 (some v5, μ5) ∧ vp_in (μ1 (r0 + 1) 68 o0 v1.toNatClampNeg) 6 ∧ vp_in (μ1 (r0 + 1) 68 o0 v1.toNatClampNeg) 6 ∧ EvE C 99 114 [some (.inr (r0, 40, o0)), some (.inl x1), some (.inl v1), some (.inl (μ1 (r0 + 1) 68 o0 v1.toNatClampNeg))] [] (mset (mset μ5 (r0 + 1) 61 o0 (μ1 (r0 + 1) 68 o0 v1.toNatClampNeg).toNatClampNeg ((μ4 (r0 + 1) 60 o0 0) + v5)) (r0 + 1) 62 o0 (μ1 (r0 + 1) 68 o0 v1.toNatClampNeg).toNatClampNeg 0) res)))) := by
  refine (ev_aload_n dX9_fail_0 rfl).trans ?_
  refine (ev_iload_n dX9_fail_1 rfl).trans ?_
  refine (ev_virI dX9_fail_2 c_9_117 (by decide) (As := [.inl x1]) rfl rfl (by decide) rfl (Nat.le_of_ble_eq_true rfl)).trans ((and_iff_right (by decide)).trans (exists_congr fun v1 => exists_congr fun μ1 => and_congr_right fun _ => ?_))
  refine (ev_istore_n dX9_fail_5 (Nat.le_of_ble_eq_true rfl) rfl).trans ?_
  refine (ev_aload_n dX9_fail_6 rfl).trans ?_
  refine (ev_getR dX9_fail_7 f_9_38 rfl).trans ((and_iff_right (by decide)).trans ?_)
  refine (ev_getR dX9_fail_10 f_9_111 rfl).trans ((and_iff_right (by decide)).trans ?_)
  refine (ev_iload_n dX9_fail_13 rfl).trans ?_
  refine (ev_iald2 dX9_fail_14 (by decide) (v := (μ1 (r0 + 1) 68 o0 v1.toNatClampNeg)) (rfl)).trans (and_congr_right fun _ => ?_)
  refine (ev_istore_n dX9_fail_15 (Nat.le_of_ble_eq_true rfl) rfl).trans ?_
  refine (ev_aload_n dX9_fail_16 rfl).trans ?_
  refine (ev_getR dX9_fail_17 f_9_38 rfl).trans ((and_iff_right (by decide)).trans ?_)
  refine (ev_getR dX9_fail_20 f_9_133 rfl).trans ((and_iff_right (by decide)).trans ?_)
  refine (ev_iload_n dX9_fail_23 rfl).trans ?_
  refine (ev_iconst dX9_fail_24 (w := (-1)) (by decide)).trans ?_
  refine (ev_iast dX9_fail_25 (by decide)).trans (and_congr_right fun _ => ?_)
  refine (ev_aload_n dX9_fail_26 rfl).trans ?_
  refine (ev_getR dX9_fail_27 f_9_38 rfl).trans ((and_iff_right (by decide)).trans ?_)
  refine (ev_iconst dX9_fail_30 (w := 0) (by decide)).trans ?_
  refine (ev_putZ dX9_fail_31 f_9_51 rfl (by decide)).trans ((and_iff_right ⟨by decide, by decide⟩).trans ?_)
  refine (ev_aload_n dX9_fail_34 rfl).trans ?_
  refine (ev_iload_n dX9_fail_35 rfl).trans ?_
  refine (ev_bipush dX9_fail_36 (w := 12) (by decide)).trans ?_
  refine (ev_virV dX9_fail_38 c_9_136 (by decide) (As := [.inl (μ1 (r0 + 1) 68 o0 v1.toNatClampNeg), .inl 12]) rfl rfl rfl rfl (Nat.le_of_ble_eq_true rfl)).trans ((and_iff_right (by decide)).trans (exists_congr fun μ2 => and_congr_right fun _ => ?_))
  refine (ev_aload_n dX9_fail_41 rfl).trans ?_
  refine (ev_getR dX9_fail_42 f_9_38 rfl).trans ((and_iff_right (by decide)).trans ?_)
  refine (ev_getR dX9_fail_45 f_9_200 rfl).trans ((and_iff_right (by decide)).trans ?_)
  refine (ev_iload_n dX9_fail_48 rfl).trans ?_
  refine (ev_dup2 dX9_fail_49).trans ?_
  refine (ev_iald2 dX9_fail_50 (by decide) (v := (μ2 (r0 + 1) 62 o0 (μ1 (r0 + 1) 68 o0 v1.toNatClampNeg).toNatClampNeg)) (rfl)).trans (and_congr_right fun _ => ?_)
  refine (ev_iconst dX9_fail_51 (w := 1) (by decide)).trans ?_
  refine (ev_iadd dX9_fail_52).trans ?_
  refine (ev_iast dX9_fail_53 (by decide)).trans (and_congr_right fun _ => ?_)
  refine (ev_aload_n dX9_fail_54 rfl).trans ?_
  refine (ev_iload_n dX9_fail_55 rfl).trans ?_
  refine (ev_iconst dX9_fail_56 (w := 4) (by decide)).trans ?_
  refine (ev_virI dX9_fail_57 c_9_79 (by decide) (As := [.inl (μ1 (r0 + 1) 68 o0 v1.toNatClampNeg), .inl 4]) rfl rfl (by decide) rfl (Nat.le_of_ble_eq_true rfl)).trans ((and_iff_right (by decide)).trans (exists_congr fun v3 => exists_congr fun μ3 => and_congr_right fun _ => ?_))
  refine (ev_ifc dX9_fail_60 (t := 114) (by decide)).trans (and_congr (imp_congr Iff.rfl ?_) (imp_congr Iff.rfl ?_))
  · exact Iff.rfl
  · refine (ev_aload_n dX9_fail_63 rfl).trans ?_
    refine (ev_getR dX9_fail_64 f_9_38 rfl).trans ((and_iff_right (by decide)).trans ?_)
    refine (ev_getR dX9_fail_67 f_9_200 rfl).trans ((and_iff_right (by decide)).trans ?_)
    refine (ev_iload_n dX9_fail_70 rfl).trans ?_
    refine (ev_iald2 dX9_fail_71 (by decide) (v := (μ3 (r0 + 1) 62 o0 (μ1 (r0 + 1) 68 o0 v1.toNatClampNeg).toNatClampNeg)) (rfl)).trans (and_congr_right fun _ => ?_)
    refine (ev_aload_n dX9_fail_72 rfl).trans ?_
    refine (ev_iload_n dX9_fail_73 rfl).trans ?_
    refine (ev_iconst dX9_fail_74 (w := 4) (by decide)).trans ?_
    refine (ev_virI dX9_fail_75 c_9_79 (by decide) (As := [.inl (μ1 (r0 + 1) 68 o0 v1.toNatClampNeg), .inl 4]) rfl rfl (by decide) rfl (Nat.le_of_ble_eq_true rfl)).trans ((and_iff_right (by decide)).trans (exists_congr fun v4 => exists_congr fun μ4 => and_congr_right fun _ => ?_))
    refine (ev_icmp dX9_fail_78 (t := 114) (by decide)).trans (and_congr (imp_congr Iff.rfl ?_) (imp_congr Iff.rfl ?_))
    · exact Iff.rfl
    · refine (ev_aload_n dX9_fail_81 rfl).trans ?_
      refine (ev_getR dX9_fail_82 f_9_38 rfl).trans ((and_iff_right (by decide)).trans ?_)
      refine (ev_getR dX9_fail_85 f_9_58 rfl).trans ((and_iff_right (by decide)).trans ?_)
      refine (ev_iload_n dX9_fail_88 rfl).trans ?_
      refine (ev_aload_n dX9_fail_89 rfl).trans ?_
      refine (ev_getR dX9_fail_90 f_9_38 rfl).trans ((and_iff_right (by decide)).trans ?_)
      refine (ev_getI2 dX9_fail_93 f_9_68 rfl (v := (μ4 (r0 + 1) 60 o0 0)) (rfl)).trans ((and_iff_right (by decide)).trans ?_)
      refine (ev_aload_n dX9_fail_96 rfl).trans ?_
      refine (ev_iload_n dX9_fail_97 rfl).trans ?_
      refine (ev_iconst dX9_fail_98 (w := 5) (by decide)).trans ?_
      refine (ev_virI dX9_fail_99 c_9_79 (by decide) (As := [.inl (μ1 (r0 + 1) 68 o0 v1.toNatClampNeg), .inl 5]) rfl rfl (by decide) rfl (Nat.le_of_ble_eq_true rfl)).trans ((and_iff_right (by decide)).trans (exists_congr fun v5 => exists_congr fun μ5 => and_congr_right fun _ => ?_))
      refine (ev_iadd dX9_fail_102).trans ?_
      refine (ev_iast dX9_fail_103 (by decide)).trans (and_congr_right fun _ => ?_)
      refine (ev_aload_n dX9_fail_104 rfl).trans ?_
      refine (ev_getR dX9_fail_105 f_9_38 rfl).trans ((and_iff_right (by decide)).trans ?_)
      refine (ev_getR dX9_fail_108 f_9_200 rfl).trans ((and_iff_right (by decide)).trans ?_)
      refine (ev_iload_n dX9_fail_111 rfl).trans ?_
      refine (ev_iconst dX9_fail_112 (w := 0) (by decide)).trans ?_
      refine (ev_iast dX9_fail_113 (by decide)).trans (and_congr_right fun _ => ?_)
      exact Iff.rfl
theorem B99_114 {C : Nat → List AV → Mem → Res → Prop} {μ : Mem} {res : Res} {x1 x2 x3 : Int32} {r0 o0 : Nat} : EvE C 99 114 [some (.inr (r0, 40, o0)), some (.inl x1), some (.inl x2), some (.inl x3)] [] μ res ↔ vp_in x2 120 ∧ ∃ v1 μ1, C 77 [.inr (r0, 40, o0), .inl x3, .inl 1] μ (some v1, μ1) ∧ ((v1 ≤ (μ (r0 + 1) 73 o0 x2.toNatClampNeg) → ∃ μ2, C 97 [.inr (r0, 40, o0), .inl x1, .inl 0] μ1 (none, μ2) ∧ EvE C 99 186 [some (.inr (r0, 40, o0)), some (.inl x1), some (.inl x2), some (.inl x3)] [] μ2 res) ∧ (¬ (v1 ≤ (μ (r0 + 1) 73 o0 x2.toNatClampNeg)) → vp_in x2 120 ∧ ∃ v3 μ3, C 77 [.inr (r0, 40, o0), .inl x3, .inl 2] (mset μ1 (r0 + 1) 70 o0 x2.toNatClampNeg 3) (some v3, μ3) ∧ vp_in x2 120 ∧ vp_in x2 120 ∧ EvE C 99 186 [some (.inr (r0, 40, o0)), some (.inl x1), some (.inl x2), some (.inl x3)] [] (mset μ3 (r0 + 1) 72 o0 x2.toNatClampNeg (((μ1 (r0 + 1) 60 o0 0) + 1) + (v3 <<< ((μ3 (r0 + 1) 73 o0 x2.toNatClampNeg) &&& 31)))) res)) := by
  refine (ev_aload_n dX9_fail_114 rfl).trans ?_
  refine (ev_getR dX9_fail_115 f_9_38 rfl).trans ((and_iff_right (by decide)).trans ?_)
  refine (ev_getR dX9_fail_118 f_9_130 rfl).trans ((and_iff_right (by decide)).trans ?_)
  refine (ev_iload_n dX9_fail_121 rfl).trans ?_
  refine (ev_iald2 dX9_fail_122 (by decide) (v := (μ (r0 + 1) 73 o0 x2.toNatClampNeg)) (rfl)).trans (and_congr_right fun _ => ?_)
  refine (ev_aload_n dX9_fail_123 rfl).trans ?_
  refine (ev_iload_n dX9_fail_124 rfl).trans ?_
  refine (ev_iconst dX9_fail_125 (w := 1) (by decide)).trans ?_
  refine (ev_virI dX9_fail_126 c_9_79 (by decide) (As := [.inl x3, .inl 1]) rfl rfl (by decide) rfl (Nat.le_of_ble_eq_true rfl)).trans ((and_iff_right (by decide)).trans (exists_congr fun v1 => exists_congr fun μ1 => and_congr_right fun _ => ?_))
  refine (ev_icmp dX9_fail_129 (t := 180) (by decide)).trans (and_congr (imp_congr Iff.rfl ?_) (imp_congr Iff.rfl ?_))
  · refine (ev_aload_n dX9_fail_180 rfl).trans ?_
    refine (ev_iload_n dX9_fail_181 rfl).trans ?_
    refine (ev_iconst dX9_fail_182 (w := 0) (by decide)).trans ?_
    refine (ev_virV dX9_fail_183 c_9_203 (by decide) (As := [.inl x1, .inl 0]) rfl rfl rfl rfl (Nat.le_of_ble_eq_true rfl)).trans ((and_iff_right (by decide)).trans (exists_congr fun μ2 => and_congr_right fun _ => ?_))
    exact Iff.rfl
  · refine (ev_aload_n dX9_fail_132 rfl).trans ?_
    refine (ev_getR dX9_fail_133 f_9_38 rfl).trans ((and_iff_right (by decide)).trans ?_)
    refine (ev_getR dX9_fail_136 f_9_114 rfl).trans ((and_iff_right (by decide)).trans ?_)
    refine (ev_iload_n dX9_fail_139 rfl).trans ?_
    refine (ev_iconst dX9_fail_140 (w := 3) (by decide)).trans ?_
    refine (ev_iast dX9_fail_141 (by decide)).trans (and_congr_right fun _ => ?_)
    refine (ev_aload_n dX9_fail_142 rfl).trans ?_
    refine (ev_getR dX9_fail_143 f_9_38 rfl).trans ((and_iff_right (by decide)).trans ?_)
    refine (ev_getR dX9_fail_146 f_9_127 rfl).trans ((and_iff_right (by decide)).trans ?_)
    refine (ev_iload_n dX9_fail_149 rfl).trans ?_
    refine (ev_aload_n dX9_fail_150 rfl).trans ?_
    refine (ev_getR dX9_fail_151 f_9_38 rfl).trans ((and_iff_right (by decide)).trans ?_)
    refine (ev_getI2 dX9_fail_154 f_9_68 rfl (v := (μ1 (r0 + 1) 60 o0 0)) ((mget_a (by decide)).trans (rfl))).trans ((and_iff_right (by decide)).trans ?_)
    refine (ev_iconst dX9_fail_157 (w := 1) (by decide)).trans ?_
    refine (ev_iadd dX9_fail_158).trans ?_
    refine (ev_aload_n dX9_fail_159 rfl).trans ?_
    refine (ev_iload_n dX9_fail_160 rfl).trans ?_
    refine (ev_iconst dX9_fail_161 (w := 2) (by decide)).trans ?_
    refine (ev_virI dX9_fail_162 c_9_79 (by decide) (As := [.inl x3, .inl 2]) rfl rfl (by decide) rfl (Nat.le_of_ble_eq_true rfl)).trans ((and_iff_right (by decide)).trans (exists_congr fun v3 => exists_congr fun μ3 => and_congr_right fun _ => ?_))
    refine (ev_aload_n dX9_fail_165 rfl).trans ?_
    refine (ev_getR dX9_fail_166 f_9_38 rfl).trans ((and_iff_right (by decide)).trans ?_)
    refine (ev_getR dX9_fail_169 f_9_130 rfl).trans ((and_iff_right (by decide)).trans ?_)
    refine (ev_iload_n dX9_fail_172 rfl).trans ?_
    refine (ev_iald2 dX9_fail_173 (by decide) (v := (μ3 (r0 + 1) 73 o0 x2.toNatClampNeg)) (rfl)).trans (and_congr_right fun _ => ?_)
    refine (ev_ishl dX9_fail_174).trans ?_
    refine (ev_iadd dX9_fail_175).trans ?_
    refine (ev_iast dX9_fail_176 (by decide)).trans (and_congr_right fun _ => ?_)
    refine (ev_goto dX9_fail_177 (t := 186) (by decide)).trans ?_
    exact Iff.rfl
theorem B99_186 {C : Nat → List AV → Mem → Res → Prop} {μ : Mem} {res : Res} {x1 x2 x3 : Int32} {r0 o0 : Nat} : EvE C 99 186 [some (.inr (r0, 40, o0)), some (.inl x1), some (.inl x2), some (.inl x3)] [] μ res ↔ res = (none, μ) := by
  exact ev_return dX9_fail_186 rfl
/-! X9_rests -/
theorem B100_0 {C : Nat → List AV → Mem → Res → Prop} {μ : Mem} {res : Res} {x1 : Int32} {r0 o0 : Nat} : EvE C 100 0 [some (.inr (r0, 40, o0)), some (.inl x1)] [] μ res ↔ vp_in x1 6 ∧ (((μ (r0 + 1) 61 o0 x1.toNatClampNeg) < (μ (r0 + 1) 60 o0 0) → EvE C 100 24 [some (.inr (r0, 40, o0)), some (.inl x1)] [.inl 0] μ res) ∧ (¬ ((μ (r0 + 1) 61 o0 x1.toNatClampNeg) < (μ (r0 + 1) 60 o0 0)) → EvE C 100 24 [some (.inr (r0, 40, o0)), some (.inl x1)] [.inl 1] μ res)) := by
  refine (ev_aload_n dX9_rests_0 rfl).trans ?_
  refine (ev_getR dX9_rests_1 f_9_38 rfl).trans ((and_iff_right (by decide)).trans ?_)
  refine (ev_getR dX9_rests_4 f_9_58 rfl).trans ((and_iff_right (by decide)).trans ?_)
  refine (ev_iload_n dX9_rests_7 rfl).trans ?_
  refine (ev_iald2 dX9_rests_8 (by decide) (v := (μ (r0 + 1) 61 o0 x1.toNatClampNeg)) (rfl)).trans (and_congr_right fun _ => ?_)
  refine (ev_aload_n dX9_rests_9 rfl).trans ?_
  refine (ev_getR dX9_rests_10 f_9_38 rfl).trans ((and_iff_right (by decide)).trans ?_)
  refine (ev_getI2 dX9_rests_13 f_9_68 rfl (v := (μ (r0 + 1) 60 o0 0)) (rfl)).trans ((and_iff_right (by decide)).trans ?_)
  refine (ev_icmp dX9_rests_16 (t := 23) (by decide)).trans (and_congr (imp_congr Iff.rfl ?_) (imp_congr Iff.rfl ?_))
  · refine (ev_iconst dX9_rests_23 (w := 0) (by decide)).trans ?_
    exact Iff.rfl
  · refine (ev_iconst dX9_rests_19 (w := 1) (by decide)).trans ?_
    refine (ev_goto dX9_rests_20 (t := 24) (by decide)).trans ?_
    exact Iff.rfl
theorem B100_24 {C : Nat → List AV → Mem → Res → Prop} {μ : Mem} {res : Res} {x1 w0 : Int32} {r0 o0 : Nat} : EvE C 100 24 [some (.inr (r0, 40, o0)), some (.inl x1)] [.inl w0] μ res ↔ (w0 = 0 ∨ w0 = 1) ∧ res = (some w0, μ) := by
  exact ev_zreturn dX9_rests_24 rfl
/-! X9_ask -/
theorem B101_0 {C : Nat → List AV → Mem → Res → Prop} {μ : Mem} {res : Res} {x1 : Int32} {r0 o0 : Nat} : EvE C 101 0 [some (.inr (r0, 40, o0)), some (.inl x1), none, none, none] [] μ res ↔ ∃ v1 μ1, C 85 [.inr (r0, 40, o0), .inl x1] μ (some v1, μ1) ∧ vp_in v1 120 ∧ ∃ v2 μ2, C 100 [.inr (r0, 40, o0), .inl (μ1 (r0 + 1) 68 o0 v1.toNatClampNeg)] μ1 (some v2, μ2) ∧ ((v2 = 0 → vp_in v1 120 ∧ ∃ v3 μ3, C 77 [.inr (r0, 40, o0), .inl (μ1 (r0 + 1) 68 o0 v1.toNatClampNeg), .inl 0] (mset μ2 (r0 + 1) 70 o0 v1.toNatClampNeg 2) (some v3, μ3) ∧ vp_in v1 120 ∧ vp_in v1 120 ∧ vp_in v1 120 ∧ ∃ v4 μ4, C 92 [.inr (r0, 40, o0), .inl ((μ1 (r0 + 1) 68 o0 v1.toNatClampNeg) + 1), .inl (μ3 (r0 + 1) 69 o0 v1.toNatClampNeg), .inl x1, .inl (-1)] (mset (mset μ3 (r0 + 1) 72 o0 v1.toNatClampNeg ((μ2 (r0 + 1) 60 o0 0) + v3)) (r0 + 1) 74 o0 v1.toNatClampNeg (-1)) (some v4, μ4) ∧ ((0 ≤ v4 → EvE C 101 115 [some (.inr (r0, 40, o0)), some (.inl x1), some (.inl v1), some (.inl (μ1 (r0 + 1) 68 o0 v1.toNatClampNeg)), some (.inl v4)] [] μ4 res) ∧ (¬ (0 ≤ v4) → ((¬ v4 = (-1) → EvE C 101 112 [some (.inr (r0, 40, o0)), some (.inl x1), some (.inl v1), some (.inl (μ1 (r0 + 1) 68 o0 v1.toNatClampNeg)), some (.inl v4)] [.inl 0, .inl x1, .inr (r0, 40, o0)] μ4 res) ∧ (¬ (¬ v4 = (-1)) → EvE C 101 112 [some (.inr (r0, 40, o0)), some (.inl x1), some (.inl v1), some (.inl (μ1 (r0 + 1) 68 o0 v1.toNatClampNeg)), some (.inl v4)] [.inl 1, .inl x1, .inr (r0, 40, o0)] μ4 res))))) ∧ (¬ (v2 = 0) → ∃ μ5, C 97 [.inr (r0, 40, o0), .inl x1, .inl 0] μ2 (none, μ5) ∧ res = (none, μ5))) := by
  refine (ev_aload_n dX9_ask_0 rfl).trans ?_
  refine (ev_iload_n dX9_ask_1 rfl).trans ?_
  refine (ev_virI dX9_ask_2 c_9_117 (by decide) (As := [.inl x1]) rfl rfl (by decide) rfl (Nat.le_of_ble_eq_true rfl)).trans ((and_iff_right (by decide)).trans (exists_congr fun v1 => exists_congr fun μ1 => and_congr_right fun _ => ?_))
  refine (ev_istore_n dX9_ask_5 (Nat.le_of_ble_eq_true rfl) rfl).trans ?_
  refine (ev_aload_n dX9_ask_6 rfl).trans ?_
  refine (ev_getR dX9_ask_7 f_9_38 rfl).trans ((and_iff_right (by decide)).trans ?_)
  refine (ev_getR dX9_ask_10 f_9_111 rfl).trans ((and_iff_right (by decide)).trans ?_)
  refine (ev_iload_n dX9_ask_13 rfl).trans ?_
  refine (ev_iald2 dX9_ask_14 (by decide) (v := (μ1 (r0 + 1) 68 o0 v1.toNatClampNeg)) (rfl)).trans (and_congr_right fun _ => ?_)
  refine (ev_istore_n dX9_ask_15 (Nat.le_of_ble_eq_true rfl) rfl).trans ?_
  refine (ev_aload_n dX9_ask_16 rfl).trans ?_
  refine (ev_iload_n dX9_ask_17 rfl).trans ?_
  refine (ev_virI dX9_ask_18 c_9_209 (by decide) (As := [.inl (μ1 (r0 + 1) 68 o0 v1.toNatClampNeg)]) rfl rfl (by decide) rfl (Nat.le_of_ble_eq_true rfl)).trans ((and_iff_right (by decide)).trans (exists_congr fun v2 => exists_congr fun μ2 => and_congr_right fun _ => ?_))
  refine (ev_ifc dX9_ask_21 (t := 31) (by decide)).trans (and_congr (imp_congr Iff.rfl ?_) (imp_congr Iff.rfl ?_))
  · refine (ev_aload_n dX9_ask_31 rfl).trans ?_
    refine (ev_getR dX9_ask_32 f_9_38 rfl).trans ((and_iff_right (by decide)).trans ?_)
    refine (ev_getR dX9_ask_35 f_9_114 rfl).trans ((and_iff_right (by decide)).trans ?_)
    refine (ev_iload_n dX9_ask_38 rfl).trans ?_
    refine (ev_iconst dX9_ask_39 (w := 2) (by decide)).trans ?_
    refine (ev_iast dX9_ask_40 (by decide)).trans (and_congr_right fun _ => ?_)
    refine (ev_aload_n dX9_ask_41 rfl).trans ?_
    refine (ev_getR dX9_ask_42 f_9_38 rfl).trans ((and_iff_right (by decide)).trans ?_)
    refine (ev_getR dX9_ask_45 f_9_127 rfl).trans ((and_iff_right (by decide)).trans ?_)
    refine (ev_iload_n dX9_ask_48 rfl).trans ?_
    refine (ev_aload_n dX9_ask_49 rfl).trans ?_
    refine (ev_getR dX9_ask_50 f_9_38 rfl).trans ((and_iff_right (by decide)).trans ?_)
    refine (ev_getI2 dX9_ask_53 f_9_68 rfl (v := (μ2 (r0 + 1) 60 o0 0)) ((mget_a (by decide)).trans (rfl))).trans ((and_iff_right (by decide)).trans ?_)
    refine (ev_aload_n dX9_ask_56 rfl).trans ?_
    refine (ev_iload_n dX9_ask_57 rfl).trans ?_
    refine (ev_iconst dX9_ask_58 (w := 0) (by decide)).trans ?_
    refine (ev_virI dX9_ask_59 c_9_79 (by decide) (As := [.inl (μ1 (r0 + 1) 68 o0 v1.toNatClampNeg), .inl 0]) rfl rfl (by decide) rfl (Nat.le_of_ble_eq_true rfl)).trans ((and_iff_right (by decide)).trans (exists_congr fun v3 => exists_congr fun μ3 => and_congr_right fun _ => ?_))
    refine (ev_iadd dX9_ask_62).trans ?_
    refine (ev_iast dX9_ask_63 (by decide)).trans (and_congr_right fun _ => ?_)
    refine (ev_aload_n dX9_ask_64 rfl).trans ?_
    refine (ev_getR dX9_ask_65 f_9_38 rfl).trans ((and_iff_right (by decide)).trans ?_)
    refine (ev_getR dX9_ask_68 f_9_133 rfl).trans ((and_iff_right (by decide)).trans ?_)
    refine (ev_iload_n dX9_ask_71 rfl).trans ?_
    refine (ev_iconst dX9_ask_72 (w := (-1)) (by decide)).trans ?_
    refine (ev_iast dX9_ask_73 (by decide)).trans (and_congr_right fun _ => ?_)
    refine (ev_aload_n dX9_ask_74 rfl).trans ?_
    refine (ev_iload_n dX9_ask_75 rfl).trans ?_
    refine (ev_iconst dX9_ask_76 (w := 1) (by decide)).trans ?_
    refine (ev_iadd dX9_ask_77).trans ?_
    refine (ev_aload_n dX9_ask_78 rfl).trans ?_
    refine (ev_getR dX9_ask_79 f_9_38 rfl).trans ((and_iff_right (by decide)).trans ?_)
    refine (ev_getR dX9_ask_82 f_9_121 rfl).trans ((and_iff_right (by decide)).trans ?_)
    refine (ev_iload_n dX9_ask_85 rfl).trans ?_
    refine (ev_iald2 dX9_ask_86 (by decide) (v := (μ3 (r0 + 1) 69 o0 v1.toNatClampNeg)) ((mget_a (by decide)).trans ((mget_a (by decide)).trans (rfl)))).trans (and_congr_right fun _ => ?_)
    refine (ev_iload_n dX9_ask_87 rfl).trans ?_
    refine (ev_iconst dX9_ask_88 (w := (-1)) (by decide)).trans ?_
    refine (ev_virI dX9_ask_89 c_9_212 (by decide) (As := [.inl ((μ1 (r0 + 1) 68 o0 v1.toNatClampNeg) + 1), .inl (μ3 (r0 + 1) 69 o0 v1.toNatClampNeg), .inl x1, .inl (-1)]) rfl rfl (by decide) rfl (Nat.le_of_ble_eq_true rfl)).trans ((and_iff_right (by decide)).trans (exists_congr fun v4 => exists_congr fun μ4 => and_congr_right fun _ => ?_))
    refine (ev_istore dX9_ask_92 (Nat.le_of_ble_eq_true rfl) rfl).trans ?_
    refine (ev_iload dX9_ask_94 rfl).trans ?_
    refine (ev_ifc dX9_ask_96 (t := 115) (by decide)).trans (and_congr (imp_congr Iff.rfl ?_) (imp_congr Iff.rfl ?_))
    · exact Iff.rfl
    · refine (ev_aload_n dX9_ask_99 rfl).trans ?_
      refine (ev_iload_n dX9_ask_100 rfl).trans ?_
      refine (ev_iload dX9_ask_101 rfl).trans ?_
      refine (ev_iconst dX9_ask_103 (w := (-1)) (by decide)).trans ?_
      refine (ev_icmp dX9_ask_104 (t := 111) (by decide)).trans (and_congr (imp_congr Iff.rfl ?_) (imp_congr Iff.rfl ?_))
      · refine (ev_iconst dX9_ask_111 (w := 0) (by decide)).trans ?_
        exact Iff.rfl
      · refine (ev_iconst dX9_ask_107 (w := 1) (by decide)).trans ?_
        refine (ev_goto dX9_ask_108 (t := 112) (by decide)).trans ?_
        exact Iff.rfl
  · refine (ev_aload_n dX9_ask_24 rfl).trans ?_
    refine (ev_iload_n dX9_ask_25 rfl).trans ?_
    refine (ev_iconst dX9_ask_26 (w := 0) (by decide)).trans ?_
    refine (ev_virV dX9_ask_27 c_9_203 (by decide) (As := [.inl x1, .inl 0]) rfl rfl rfl rfl (Nat.le_of_ble_eq_true rfl)).trans ((and_iff_right (by decide)).trans (exists_congr fun μ5 => and_congr_right fun _ => ?_))
    exact ev_return dX9_ask_30 rfl
theorem B101_112 {C : Nat → List AV → Mem → Res → Prop} {μ : Mem} {res : Res} {x1 x2 x3 x4 w1 w2 : Int32} {r0 o0 rs0 os0 : Nat} : EvE C 101 112 [some (.inr (r0, 40, o0)), some (.inl x1), some (.inl x2), some (.inl x3), some (.inl x4)] [.inl w2, .inl w1, .inr (rs0, 40, os0)] μ res ↔ ∃ μ1, C 98 [.inr (rs0, 40, os0), .inl w1, .inl w2] μ (none, μ1) ∧ EvE C 101 115 [some (.inr (r0, 40, o0)), some (.inl x1), some (.inl x2), some (.inl x3), some (.inl x4)] [] μ1 res := by
  refine (ev_virV dX9_ask_112 c_9_169 (by decide) (As := [.inl w1, .inl w2]) rfl rfl rfl rfl (Nat.le_of_ble_eq_true rfl)).trans ((and_iff_right (by decide)).trans (exists_congr fun μ1 => and_congr_right fun _ => ?_))
  exact Iff.rfl
theorem B101_115 {C : Nat → List AV → Mem → Res → Prop} {μ : Mem} {res : Res} {x1 x2 x3 x4 : Int32} {r0 o0 : Nat} : EvE C 101 115 [some (.inr (r0, 40, o0)), some (.inl x1), some (.inl x2), some (.inl x3), some (.inl x4)] [] μ res ↔ res = (none, μ) := by
  exact ev_return dX9_ask_115 rfl
/-! X9_guestAsks -/
theorem B102_0 {C : Nat → List AV → Mem → Res → Prop} {μ : Mem} {res : Res} {x1 : Int32} {r0 o0 : Nat} : EvE C 102 0 [some (.inr (r0, 40, o0)), some (.inl x1), none] [] μ res ↔ vp_in x1 100 ∧ vp_in x1 100 ∧ vp_in x1 100 ∧ ∃ v1 μ1, C 92 [.inr (r0, 40, o0), .inl 0, .inl (μ (r0 + 1) 75 o0 x1.toNatClampNeg), .inl (-4), .inl x1] (mset (mset μ (r0 + 1) 76 o0 x1.toNatClampNeg (-3)) (r0 + 1) 77 o0 x1.toNatClampNeg ((μ (r0 + 1) 60 o0 0) + (μ r0 40 o0 3))) (some v1, μ1) ∧ ((0 ≤ v1 → EvE C 102 69 [some (.inr (r0, 40, o0)), some (.inl x1), some (.inl v1)] [] μ1 res) ∧ (¬ (0 ≤ v1) → ((¬ v1 = (-1) → EvE C 102 66 [some (.inr (r0, 40, o0)), some (.inl x1), some (.inl v1)] [.inl 0, .inl x1, .inr (r0, 40, o0)] μ1 res) ∧ (¬ (¬ v1 = (-1)) → EvE C 102 66 [some (.inr (r0, 40, o0)), some (.inl x1), some (.inl v1)] [.inl 1, .inl x1, .inr (r0, 40, o0)] μ1 res)))) := by
  refine (ev_aload_n dX9_guestAsks_0 rfl).trans ?_
  refine (ev_getR dX9_guestAsks_1 f_9_38 rfl).trans ((and_iff_right (by decide)).trans ?_)
  refine (ev_getR dX9_guestAsks_4 f_9_105 rfl).trans ((and_iff_right (by decide)).trans ?_)
  refine (ev_iload_n dX9_guestAsks_7 rfl).trans ?_
  refine (ev_bipush dX9_guestAsks_8 (w := (-3)) (by decide)).trans ?_
  refine (ev_iast dX9_guestAsks_10 (by decide)).trans (and_congr_right fun _ => ?_)
  refine (ev_aload_n dX9_guestAsks_11 rfl).trans ?_
  refine (ev_getR dX9_guestAsks_12 f_9_38 rfl).trans ((and_iff_right (by decide)).trans ?_)
  refine (ev_getR dX9_guestAsks_15 f_9_185 rfl).trans ((and_iff_right (by decide)).trans ?_)
  refine (ev_iload_n dX9_guestAsks_18 rfl).trans ?_
  refine (ev_aload_n dX9_guestAsks_19 rfl).trans ?_
  refine (ev_getR dX9_guestAsks_20 f_9_38 rfl).trans ((and_iff_right (by decide)).trans ?_)
  refine (ev_getI2 dX9_guestAsks_23 f_9_68 rfl (v := (μ (r0 + 1) 60 o0 0)) ((mget_a (by decide)).trans (rfl))).trans ((and_iff_right (by decide)).trans ?_)
  refine (ev_aload_n dX9_guestAsks_26 rfl).trans ?_
  refine (ev_getI2 dX9_guestAsks_27 f_9_16 rfl (v := (μ r0 40 o0 3)) ((mget_a (by decide)).trans (rfl))).trans ((and_iff_right (by decide)).trans ?_)
  refine (ev_iadd dX9_guestAsks_30).trans ?_
  refine (ev_iast dX9_guestAsks_31 (by decide)).trans (and_congr_right fun _ => ?_)
  refine (ev_aload_n dX9_guestAsks_32 rfl).trans ?_
  refine (ev_iconst dX9_guestAsks_33 (w := 0) (by decide)).trans ?_
  refine (ev_aload_n dX9_guestAsks_34 rfl).trans ?_
  refine (ev_getR dX9_guestAsks_35 f_9_38 rfl).trans ((and_iff_right (by decide)).trans ?_)
  refine (ev_getR dX9_guestAsks_38 f_9_188 rfl).trans ((and_iff_right (by decide)).trans ?_)
  refine (ev_iload_n dX9_guestAsks_41 rfl).trans ?_
  refine (ev_iald2 dX9_guestAsks_42 (by decide) (v := (μ (r0 + 1) 75 o0 x1.toNatClampNeg)) ((mget_a (by decide)).trans ((mget_a (by decide)).trans (rfl)))).trans (and_congr_right fun _ => ?_)
  refine (ev_bipush dX9_guestAsks_43 (w := (-4)) (by decide)).trans ?_
  refine (ev_iload_n dX9_guestAsks_45 rfl).trans ?_
  refine (ev_virI dX9_guestAsks_46 c_9_212 (by decide) (As := [.inl 0, .inl (μ (r0 + 1) 75 o0 x1.toNatClampNeg), .inl (-4), .inl x1]) rfl rfl (by decide) rfl (Nat.le_of_ble_eq_true rfl)).trans ((and_iff_right (by decide)).trans (exists_congr fun v1 => exists_congr fun μ1 => and_congr_right fun _ => ?_))
  refine (ev_istore_n dX9_guestAsks_49 (Nat.le_of_ble_eq_true rfl) rfl).trans ?_
  refine (ev_iload_n dX9_guestAsks_50 rfl).trans ?_
  refine (ev_ifc dX9_guestAsks_51 (t := 69) (by decide)).trans (and_congr (imp_congr Iff.rfl ?_) (imp_congr Iff.rfl ?_))
  · exact Iff.rfl
  · refine (ev_aload_n dX9_guestAsks_54 rfl).trans ?_
    refine (ev_iload_n dX9_guestAsks_55 rfl).trans ?_
    refine (ev_iload_n dX9_guestAsks_56 rfl).trans ?_
    refine (ev_iconst dX9_guestAsks_57 (w := (-1)) (by decide)).trans ?_
    refine (ev_icmp dX9_guestAsks_58 (t := 65) (by decide)).trans (and_congr (imp_congr Iff.rfl ?_) (imp_congr Iff.rfl ?_))
    · refine (ev_iconst dX9_guestAsks_65 (w := 0) (by decide)).trans ?_
      exact Iff.rfl
    · refine (ev_iconst dX9_guestAsks_61 (w := 1) (by decide)).trans ?_
      refine (ev_goto dX9_guestAsks_62 (t := 66) (by decide)).trans ?_
      exact Iff.rfl
theorem B102_66 {C : Nat → List AV → Mem → Res → Prop} {μ : Mem} {res : Res} {x1 x2 w1 w2 : Int32} {r0 o0 rs0 os0 : Nat} : EvE C 102 66 [some (.inr (r0, 40, o0)), some (.inl x1), some (.inl x2)] [.inl w2, .inl w1, .inr (rs0, 40, os0)] μ res ↔ ∃ μ1, C 95 [.inr (rs0, 40, os0), .inl w1, .inl w2] μ (none, μ1) ∧ EvE C 102 69 [some (.inr (r0, 40, o0)), some (.inl x1), some (.inl x2)] [] μ1 res := by
  refine (ev_virV dX9_guestAsks_66 c_9_176 (by decide) (As := [.inl w1, .inl w2]) rfl rfl rfl rfl (Nat.le_of_ble_eq_true rfl)).trans ((and_iff_right (by decide)).trans (exists_congr fun μ1 => and_congr_right fun _ => ?_))
  exact Iff.rfl
theorem B102_69 {C : Nat → List AV → Mem → Res → Prop} {μ : Mem} {res : Res} {x1 x2 : Int32} {r0 o0 : Nat} : EvE C 102 69 [some (.inr (r0, 40, o0)), some (.inl x1), some (.inl x2)] [] μ res ↔ res = (none, μ) := by
  exact ev_return dX9_guestAsks_69 rfl
/-! X9_guestComes -/
theorem B103_0 {C : Nat → List AV → Mem → Res → Prop} {μ : Mem} {res : Res} {x1 : Int32} {r0 o0 : Nat} : EvE C 103 0 [some (.inr (r0, 40, o0)), some (.inl x1)] [] μ res ↔ ((¬ (μ (r0 + 1) 60 o0 22) = 100 → vp_in (μ (r0 + 1) 60 o0 22) 100 ∧ vp_in (μ (r0 + 1) 60 o0 22) 100 ∧ vp_in (μ (r0 + 1) 60 o0 22) 100 ∧ ∃ μ1, C 102 [.inr (r0, 40, o0), .inl (((μ (r0 + 1) 60 o0 22) + 1) - 1)] (mset (mset (mset (mset (mset μ (r0 + 1) 60 o0 23 ((μ (r0 + 1) 60 o0 23) + 1)) (r0 + 1) 75 o0 (μ (r0 + 1) 60 o0 22).toNatClampNeg x1) (r0 + 1) 78 o0 (μ (r0 + 1) 60 o0 22).toNatClampNeg 0) (r0 + 1) 79 o0 (μ (r0 + 1) 60 o0 22).toNatClampNeg ((μ (r0 + 1) 60 o0 23) + 1)) (r0 + 1) 60 o0 22 ((μ (r0 + 1) 60 o0 22) + 1)) (none, μ1) ∧ res = (none, μ1)) ∧ (¬ (¬ (μ (r0 + 1) 60 o0 22) = 100) → res = (none, (mset (mset (mset μ (r0 + 1) 60 o0 23 ((μ (r0 + 1) 60 o0 23) + 1)) (r0 + 1) 60 o0 25 ((μ (r0 + 1) 60 o0 25) + 1)) (r0 + 1) 60 o0 28 0)))) := by
  refine (ev_aload_n dX9_guestComes_0 rfl).trans ?_
  refine (ev_getR dX9_guestComes_1 f_9_38 rfl).trans ((and_iff_right (by decide)).trans ?_)
  refine (ev_dup dX9_guestComes_4).trans ?_
  refine (ev_getI2 dX9_guestComes_5 f_9_216 rfl (v := (μ (r0 + 1) 60 o0 23)) (rfl)).trans ((and_iff_right (by decide)).trans ?_)
  refine (ev_iconst dX9_guestComes_8 (w := 1) (by decide)).trans ?_
  refine (ev_iadd dX9_guestComes_9).trans ?_
  refine (ev_put dX9_guestComes_10 f_9_216 rfl (by decide)).trans ((and_iff_right (by decide)).trans ?_)
  refine (ev_aload_n dX9_guestComes_13 rfl).trans ?_
  refine (ev_getR dX9_guestComes_14 f_9_38 rfl).trans ((and_iff_right (by decide)).trans ?_)
  refine (ev_getI2 dX9_guestComes_17 f_9_102 rfl (v := (μ (r0 + 1) 60 o0 22)) ((mget_i (by decide)).trans (rfl))).trans ((and_iff_right (by decide)).trans ?_)
  refine (ev_bipush dX9_guestComes_20 (w := 100) (by decide)).trans ?_
  refine (ev_icmp dX9_guestComes_22 (t := 47) (by decide)).trans (and_congr (imp_congr Iff.rfl ?_) (imp_congr Iff.rfl ?_))
  · refine (ev_aload_n dX9_guestComes_47 rfl).trans ?_
    refine (ev_getR dX9_guestComes_48 f_9_38 rfl).trans ((and_iff_right (by decide)).trans ?_)
    refine (ev_getR dX9_guestComes_51 f_9_188 rfl).trans ((and_iff_right (by decide)).trans ?_)
    refine (ev_aload_n dX9_guestComes_54 rfl).trans ?_
    refine (ev_getR dX9_guestComes_55 f_9_38 rfl).trans ((and_iff_right (by decide)).trans ?_)
    refine (ev_getI2 dX9_guestComes_58 f_9_102 rfl (v := (μ (r0 + 1) 60 o0 22)) ((mget_i (by decide)).trans (rfl))).trans ((and_iff_right (by decide)).trans ?_)
    refine (ev_iload_n dX9_guestComes_61 rfl).trans ?_
    refine (ev_iast dX9_guestComes_62 (by decide)).trans (and_congr_right fun _ => ?_)
    refine (ev_aload_n dX9_guestComes_63 rfl).trans ?_
    refine (ev_getR dX9_guestComes_64 f_9_38 rfl).trans ((and_iff_right (by decide)).trans ?_)
    refine (ev_getR dX9_guestComes_67 f_9_191 rfl).trans ((and_iff_right (by decide)).trans ?_)
    refine (ev_aload_n dX9_guestComes_70 rfl).trans ?_
    refine (ev_getR dX9_guestComes_71 f_9_38 rfl).trans ((and_iff_right (by decide)).trans ?_)
    refine (ev_getI2 dX9_guestComes_74 f_9_102 rfl (v := (μ (r0 + 1) 60 o0 22)) ((mget_a (by decide)).trans ((mget_i (by decide)).trans (rfl)))).trans ((and_iff_right (by decide)).trans ?_)
    refine (ev_iconst dX9_guestComes_77 (w := 0) (by decide)).trans ?_
    refine (ev_iast dX9_guestComes_78 (by decide)).trans (and_congr_right fun _ => ?_)
    refine (ev_aload_n dX9_guestComes_79 rfl).trans ?_
    refine (ev_getR dX9_guestComes_80 f_9_38 rfl).trans ((and_iff_right (by decide)).trans ?_)
    refine (ev_getR dX9_guestComes_83 f_9_194 rfl).trans ((and_iff_right (by decide)).trans ?_)
    refine (ev_aload_n dX9_guestComes_86 rfl).trans ?_
    refine (ev_getR dX9_guestComes_87 f_9_38 rfl).trans ((and_iff_right (by decide)).trans ?_)
    refine (ev_getI2 dX9_guestComes_90 f_9_102 rfl (v := (μ (r0 + 1) 60 o0 22)) ((mget_a (by decide)).trans ((mget_a (by decide)).trans ((mget_i (by decide)).trans (rfl))))).trans ((and_iff_right (by decide)).trans ?_)
    refine (ev_aload_n dX9_guestComes_93 rfl).trans ?_
    refine (ev_getR dX9_guestComes_94 f_9_38 rfl).trans ((and_iff_right (by decide)).trans ?_)
    refine (ev_getI2 dX9_guestComes_97 f_9_216 rfl (v := ((μ (r0 + 1) 60 o0 23) + 1)) ((mget_a (by decide)).trans ((mget_a (by decide)).trans (mget_s)))).trans ((and_iff_right (by decide)).trans ?_)
    refine (ev_iast dX9_guestComes_100 (by decide)).trans (and_congr_right fun _ => ?_)
    refine (ev_aload_n dX9_guestComes_101 rfl).trans ?_
    refine (ev_getR dX9_guestComes_102 f_9_38 rfl).trans ((and_iff_right (by decide)).trans ?_)
    refine (ev_dup dX9_guestComes_105).trans ?_
    refine (ev_getI2 dX9_guestComes_106 f_9_102 rfl (v := (μ (r0 + 1) 60 o0 22)) ((mget_a (by decide)).trans ((mget_a (by decide)).trans ((mget_a (by decide)).trans ((mget_i (by decide)).trans (rfl)))))).trans ((and_iff_right (by decide)).trans ?_)
    refine (ev_iconst dX9_guestComes_109 (w := 1) (by decide)).trans ?_
    refine (ev_iadd dX9_guestComes_110).trans ?_
    refine (ev_put dX9_guestComes_111 f_9_102 rfl (by decide)).trans ((and_iff_right (by decide)).trans ?_)
    refine (ev_aload_n dX9_guestComes_114 rfl).trans ?_
    refine (ev_aload_n dX9_guestComes_115 rfl).trans ?_
    refine (ev_getR dX9_guestComes_116 f_9_38 rfl).trans ((and_iff_right (by decide)).trans ?_)
    refine (ev_getI2 dX9_guestComes_119 f_9_102 rfl (v := ((μ (r0 + 1) 60 o0 22) + 1)) (mget_s)).trans ((and_iff_right (by decide)).trans ?_)
    refine (ev_iconst dX9_guestComes_122 (w := 1) (by decide)).trans ?_
    refine (ev_isub dX9_guestComes_123).trans ?_
    refine (ev_virV dX9_guestComes_124 c_9_222 (by decide) (As := [.inl (((μ (r0 + 1) 60 o0 22) + 1) - 1)]) rfl rfl rfl rfl (Nat.le_of_ble_eq_true rfl)).trans ((and_iff_right (by decide)).trans (exists_congr fun μ1 => and_congr_right fun _ => ?_))
    exact ev_return dX9_guestComes_127 rfl
  · refine (ev_aload_n dX9_guestComes_25 rfl).trans ?_
    refine (ev_getR dX9_guestComes_26 f_9_38 rfl).trans ((and_iff_right (by decide)).trans ?_)
    refine (ev_dup dX9_guestComes_29).trans ?_
    refine (ev_getI2 dX9_guestComes_30 f_9_219 rfl (v := (μ (r0 + 1) 60 o0 25)) ((mget_i (by decide)).trans (rfl))).trans ((and_iff_right (by decide)).trans ?_)
    refine (ev_iconst dX9_guestComes_33 (w := 1) (by decide)).trans ?_
    refine (ev_iadd dX9_guestComes_34).trans ?_
    refine (ev_put dX9_guestComes_35 f_9_219 rfl (by decide)).trans ((and_iff_right (by decide)).trans ?_)
    refine (ev_aload_n dX9_guestComes_38 rfl).trans ?_
    refine (ev_getR dX9_guestComes_39 f_9_38 rfl).trans ((and_iff_right (by decide)).trans ?_)
    refine (ev_iconst dX9_guestComes_42 (w := 0) (by decide)).trans ?_
    refine (ev_putZ dX9_guestComes_43 f_9_51 rfl (by decide)).trans ((and_iff_right ⟨by decide, by decide⟩).trans ?_)
    exact ev_return dX9_guestComes_46 rfl
/-! X9_mean -/
theorem B104_0 {C : Nat → List AV → Mem → Res → Prop} {μ : Mem} {res : Res} {x1 : Int32} {r0 o0 : Nat} : EvE C 104 0 [some (.inr (r0, 40, o0)), some (.inl x1), none] [] μ res ↔ EvE C 104 7 [some (.inr (r0, 40, o0)), some (.inl x1), some (.inl 0)] [] (mset μ r0 40 o0 19 0) res := by
  refine (ev_aload_n dX9_mean_0 rfl).trans ?_
  refine (ev_iconst dX9_mean_1 (w := 0) (by decide)).trans ?_
  refine (ev_put dX9_mean_2 f_9_225 rfl (by decide)).trans ((and_iff_right (by decide)).trans ?_)
  refine (ev_iconst dX9_mean_5 (w := 0) (by decide)).trans ?_
  refine (ev_istore_n dX9_mean_6 (Nat.le_of_ble_eq_true rfl) rfl).trans ?_
  exact Iff.rfl
theorem B104_7 {C : Nat → List AV → Mem → Res → Prop} {μ : Mem} {res : Res} {x1 x2 : Int32} {r0 o0 : Nat} : EvE C 104 7 [some (.inr (r0, 40, o0)), some (.inl x1), some (.inl x2)] [] μ res ↔ (((μ (r0 + 1) 60 o0 15) ≤ x2 → res = (none, μ)) ∧ (¬ ((μ (r0 + 1) 60 o0 15) ≤ x2) → vp_in x2 120 ∧ ((¬ (μ (r0 + 1) 70 o0 x2.toNatClampNeg) = x1 → EvE C 104 78 [some (.inr (r0, 40, o0)), some (.inl x1), some (.inl x2)] [] μ res) ∧ (¬ (¬ (μ (r0 + 1) 70 o0 x2.toNatClampNeg) = x1) → vp_in x2 120 ∧ ((¬ (μ (r0 + 1) 72 o0 x2.toNatClampNeg) = (μ (r0 + 1) 60 o0 0) → EvE C 104 78 [some (.inr (r0, 40, o0)), some (.inl x1), some (.inl x2)] [] μ res) ∧ (¬ (¬ (μ (r0 + 1) 72 o0 x2.toNatClampNeg) = (μ (r0 + 1) 60 o0 0)) → vp_in x2 120 ∧ vp_in (μ r0 40 o0 19) 120 ∧ EvE C 104 78 [some (.inr (r0, 40, o0)), some (.inl x1), some (.inl x2)] [] (mset (mset μ r0 48 o0 (μ r0 40 o0 19).toNatClampNeg (μ (r0 + 1) 67 o0 x2.toNatClampNeg)) r0 40 o0 19 ((μ r0 40 o0 19) + 1)) res)))))) := by
  refine (ev_iload_n dX9_mean_7 rfl).trans ?_
  refine (ev_aload_n dX9_mean_8 rfl).trans ?_
  refine (ev_getR dX9_mean_9 f_9_38 rfl).trans ((and_iff_right (by decide)).trans ?_)
  refine (ev_getI2 dX9_mean_12 f_9_96 rfl (v := (μ (r0 + 1) 60 o0 15)) (rfl)).trans ((and_iff_right (by decide)).trans ?_)
  refine (ev_icmp dX9_mean_15 (t := 84) (by decide)).trans (and_congr (imp_congr Iff.rfl ?_) (imp_congr Iff.rfl ?_))
  · exact ev_return dX9_mean_84 rfl
  · refine (ev_aload_n dX9_mean_18 rfl).trans ?_
    refine (ev_getR dX9_mean_19 f_9_38 rfl).trans ((and_iff_right (by decide)).trans ?_)
    refine (ev_getR dX9_mean_22 f_9_114 rfl).trans ((and_iff_right (by decide)).trans ?_)
    refine (ev_iload_n dX9_mean_25 rfl).trans ?_
    refine (ev_iald2 dX9_mean_26 (by decide) (v := (μ (r0 + 1) 70 o0 x2.toNatClampNeg)) (rfl)).trans (and_congr_right fun _ => ?_)
    refine (ev_iload_n dX9_mean_27 rfl).trans ?_
    refine (ev_icmp dX9_mean_28 (t := 78) (by decide)).trans (and_congr (imp_congr Iff.rfl ?_) (imp_congr Iff.rfl ?_))
    · exact Iff.rfl
    · refine (ev_aload_n dX9_mean_31 rfl).trans ?_
      refine (ev_getR dX9_mean_32 f_9_38 rfl).trans ((and_iff_right (by decide)).trans ?_)
      refine (ev_getR dX9_mean_35 f_9_127 rfl).trans ((and_iff_right (by decide)).trans ?_)
      refine (ev_iload_n dX9_mean_38 rfl).trans ?_
      refine (ev_iald2 dX9_mean_39 (by decide) (v := (μ (r0 + 1) 72 o0 x2.toNatClampNeg)) (rfl)).trans (and_congr_right fun _ => ?_)
      refine (ev_aload_n dX9_mean_40 rfl).trans ?_
      refine (ev_getR dX9_mean_41 f_9_38 rfl).trans ((and_iff_right (by decide)).trans ?_)
      refine (ev_getI2 dX9_mean_44 f_9_68 rfl (v := (μ (r0 + 1) 60 o0 0)) (rfl)).trans ((and_iff_right (by decide)).trans ?_)
      refine (ev_icmp dX9_mean_47 (t := 78) (by decide)).trans (and_congr (imp_congr Iff.rfl ?_) (imp_congr Iff.rfl ?_))
      · exact Iff.rfl
      · refine (ev_aload_n dX9_mean_50 rfl).trans ?_
        refine (ev_getR dX9_mean_51 f_9_45 rfl).trans ((and_iff_right (by decide)).trans ?_)
        refine (ev_aload_n dX9_mean_54 rfl).trans ?_
        refine (ev_getI2 dX9_mean_55 f_9_225 rfl (v := (μ r0 40 o0 19)) (rfl)).trans ((and_iff_right (by decide)).trans ?_)
        refine (ev_aload_n dX9_mean_58 rfl).trans ?_
        refine (ev_getR dX9_mean_59 f_9_38 rfl).trans ((and_iff_right (by decide)).trans ?_)
        refine (ev_getR dX9_mean_62 f_9_99 rfl).trans ((and_iff_right (by decide)).trans ?_)
        refine (ev_iload_n dX9_mean_65 rfl).trans ?_
        refine (ev_iald2 dX9_mean_66 (by decide) (v := (μ (r0 + 1) 67 o0 x2.toNatClampNeg)) (rfl)).trans (and_congr_right fun _ => ?_)
        refine (ev_iast dX9_mean_67 (by decide)).trans (and_congr_right fun _ => ?_)
        refine (ev_aload_n dX9_mean_68 rfl).trans ?_
        refine (ev_dup dX9_mean_69).trans ?_
        refine (ev_getI2 dX9_mean_70 f_9_225 rfl (v := (μ r0 40 o0 19)) ((mget_a (by decide)).trans (rfl))).trans ((and_iff_right (by decide)).trans ?_)
        refine (ev_iconst dX9_mean_73 (w := 1) (by decide)).trans ?_
        refine (ev_iadd dX9_mean_74).trans ?_
        refine (ev_put dX9_mean_75 f_9_225 rfl (by decide)).trans ((and_iff_right (by decide)).trans ?_)
        exact Iff.rfl
theorem B104_78 {C : Nat → List AV → Mem → Res → Prop} {μ : Mem} {res : Res} {x1 x2 : Int32} {r0 o0 : Nat} : EvE C 104 78 [some (.inr (r0, 40, o0)), some (.inl x1), some (.inl x2)] [] μ res ↔ EvE C 104 7 [some (.inr (r0, 40, o0)), some (.inl x1), some (.inl (x2 + 1))] [] μ res := by
  refine (ev_iinc dX9_mean_78 rfl (w := 1) (by decide) rfl).trans ?_
  refine (ev_goto dX9_mean_81 (t := 7) (by decide)).trans ?_
  exact Iff.rfl
/-! X9_isSo -/
theorem B105_0 {C : Nat → List AV → Mem → Res → Prop} {μ : Mem} {res : Res} {x1 x2 : Int32} {r0 o0 : Nat} : EvE C 105 0 [some (.inr (r0, 40, o0)), some (.inl x1), some (.inl x2), none] [] μ res ↔ ∃ v1 μ1, C 85 [.inr (r0, 40, o0), .inl x1] μ (some v1, μ1) ∧ ((v1 < 0 → EvE C 105 46 [some (.inr (r0, 40, o0)), some (.inl x1), some (.inl x2), some (.inl v1)] [] μ1 res) ∧ (¬ (v1 < 0) → vp_in v1 120 ∧ ((¬ (μ1 (r0 + 1) 70 o0 v1.toNatClampNeg) = x2 → EvE C 105 46 [some (.inr (r0, 40, o0)), some (.inl x1), some (.inl x2), some (.inl v1)] [] μ1 res) ∧ (¬ (¬ (μ1 (r0 + 1) 70 o0 v1.toNatClampNeg) = x2) → vp_in v1 120 ∧ ((¬ (μ1 (r0 + 1) 72 o0 v1.toNatClampNeg) = (μ1 (r0 + 1) 60 o0 0) → EvE C 105 46 [some (.inr (r0, 40, o0)), some (.inl x1), some (.inl x2), some (.inl v1)] [] μ1 res) ∧ (¬ (¬ (μ1 (r0 + 1) 72 o0 v1.toNatClampNeg) = (μ1 (r0 + 1) 60 o0 0)) → EvE C 105 47 [some (.inr (r0, 40, o0)), some (.inl x1), some (.inl x2), some (.inl v1)] [.inl 1] μ1 res)))))) := by
  refine (ev_aload_n dX9_isSo_0 rfl).trans ?_
  refine (ev_iload_n dX9_isSo_1 rfl).trans ?_
  refine (ev_virI dX9_isSo_2 c_9_117 (by decide) (As := [.inl x1]) rfl rfl (by decide) rfl (Nat.le_of_ble_eq_true rfl)).trans ((and_iff_right (by decide)).trans (exists_congr fun v1 => exists_congr fun μ1 => and_congr_right fun _ => ?_))
  refine (ev_istore_n dX9_isSo_5 (Nat.le_of_ble_eq_true rfl) rfl).trans ?_
  refine (ev_iload_n dX9_isSo_6 rfl).trans ?_
  refine (ev_ifc dX9_isSo_7 (t := 46) (by decide)).trans (and_congr (imp_congr Iff.rfl ?_) (imp_congr Iff.rfl ?_))
  · exact Iff.rfl
  · refine (ev_aload_n dX9_isSo_10 rfl).trans ?_
    refine (ev_getR dX9_isSo_11 f_9_38 rfl).trans ((and_iff_right (by decide)).trans ?_)
    refine (ev_getR dX9_isSo_14 f_9_114 rfl).trans ((and_iff_right (by decide)).trans ?_)
    refine (ev_iload_n dX9_isSo_17 rfl).trans ?_
    refine (ev_iald2 dX9_isSo_18 (by decide) (v := (μ1 (r0 + 1) 70 o0 v1.toNatClampNeg)) (rfl)).trans (and_congr_right fun _ => ?_)
    refine (ev_iload_n dX9_isSo_19 rfl).trans ?_
    refine (ev_icmp dX9_isSo_20 (t := 46) (by decide)).trans (and_congr (imp_congr Iff.rfl ?_) (imp_congr Iff.rfl ?_))
    · exact Iff.rfl
    · refine (ev_aload_n dX9_isSo_23 rfl).trans ?_
      refine (ev_getR dX9_isSo_24 f_9_38 rfl).trans ((and_iff_right (by decide)).trans ?_)
      refine (ev_getR dX9_isSo_27 f_9_127 rfl).trans ((and_iff_right (by decide)).trans ?_)
      refine (ev_iload_n dX9_isSo_30 rfl).trans ?_
      refine (ev_iald2 dX9_isSo_31 (by decide) (v := (μ1 (r0 + 1) 72 o0 v1.toNatClampNeg)) (rfl)).trans (and_congr_right fun _ => ?_)
      refine (ev_aload_n dX9_isSo_32 rfl).trans ?_
      refine (ev_getR dX9_isSo_33 f_9_38 rfl).trans ((and_iff_right (by decide)).trans ?_)
      refine (ev_getI2 dX9_isSo_36 f_9_68 rfl (v := (μ1 (r0 + 1) 60 o0 0)) (rfl)).trans ((and_iff_right (by decide)).trans ?_)
      refine (ev_icmp dX9_isSo_39 (t := 46) (by decide)).trans (and_congr (imp_congr Iff.rfl ?_) (imp_congr Iff.rfl ?_))
      · exact Iff.rfl
      · refine (ev_iconst dX9_isSo_42 (w := 1) (by decide)).trans ?_
        refine (ev_goto dX9_isSo_43 (t := 47) (by decide)).trans ?_
        exact Iff.rfl
theorem B105_46 {C : Nat → List AV → Mem → Res → Prop} {μ : Mem} {res : Res} {x1 x2 x3 : Int32} {r0 o0 : Nat} : EvE C 105 46 [some (.inr (r0, 40, o0)), some (.inl x1), some (.inl x2), some (.inl x3)] [] μ res ↔ EvE C 105 47 [some (.inr (r0, 40, o0)), some (.inl x1), some (.inl x2), some (.inl x3)] [.inl 0] μ res := by
  refine (ev_iconst dX9_isSo_46 (w := 0) (by decide)).trans ?_
  exact Iff.rfl
theorem B105_47 {C : Nat → List AV → Mem → Res → Prop} {μ : Mem} {res : Res} {x1 x2 x3 w0 : Int32} {r0 o0 : Nat} : EvE C 105 47 [some (.inr (r0, 40, o0)), some (.inl x1), some (.inl x2), some (.inl x3)] [.inl w0] μ res ↔ (w0 = 0 ∨ w0 = 1) ∧ res = (some w0, μ) := by
  exact ev_zreturn dX9_isSo_47 rfl
/-! X9_workEnds -/
theorem B106_0 {C : Nat → List AV → Mem → Res → Prop} {μ : Mem} {res : Res} {r0 o0 : Nat} : EvE C 106 0 [some (.inr (r0, 40, o0)), none, none] [] μ res ↔ ∃ μ1, C 104 [.inr (r0, 40, o0), .inl 1] μ (none, μ1) ∧ EvE C 106 7 [some (.inr (r0, 40, o0)), some (.inl 0), none] [] μ1 res := by
  refine (ev_aload_n dX9_workEnds_0 rfl).trans ?_
  refine (ev_iconst dX9_workEnds_1 (w := 1) (by decide)).trans ?_
  refine (ev_virV dX9_workEnds_2 c_9_228 (by decide) (As := [.inl 1]) rfl rfl rfl rfl (Nat.le_of_ble_eq_true rfl)).trans ((and_iff_right (by decide)).trans (exists_congr fun μ1 => and_congr_right fun _ => ?_))
  refine (ev_iconst dX9_workEnds_5 (w := 0) (by decide)).trans ?_
  refine (ev_istore_n dX9_workEnds_6 (Nat.le_of_ble_eq_true rfl) rfl).trans ?_
  exact Iff.rfl
theorem B106_7 {C : Nat → List AV → Mem → Res → Prop} {μ : Mem} {res : Res} {x1 : Int32} {r0 o0 : Nat} {u2 : Option AV} : EvE C 106 7 [some (.inr (r0, 40, o0)), some (.inl x1), u2] [] μ res ↔ (((μ r0 40 o0 19) ≤ x1 → res = (none, μ)) ∧ (¬ ((μ r0 40 o0 19) ≤ x1) → vp_in x1 120 ∧ ∃ v1 μ1, C 105 [.inr (r0, 40, o0), .inl (μ r0 48 o0 x1.toNatClampNeg), .inl 1] μ (some v1, μ1) ∧ ((v1 = 0 → EvE C 106 67 [some (.inr (r0, 40, o0)), some (.inl x1), some (.inl (μ r0 48 o0 x1.toNatClampNeg))] [] μ1 res) ∧ (¬ (v1 = 0) → ∃ v2 μ2, C 85 [.inr (r0, 40, o0), .inl (μ r0 48 o0 x1.toNatClampNeg)] μ1 (some v2, μ2) ∧ vp_in v2 120 ∧ ((((μ2 r0 40 o0 2) - 1) ≤ (μ2 (r0 + 1) 68 o0 v2.toNatClampNeg) → ∃ μ3, C 97 [.inr (r0, 40, o0), .inl (μ r0 48 o0 x1.toNatClampNeg), .inl 1] μ2 (none, μ3) ∧ EvE C 106 67 [some (.inr (r0, 40, o0)), some (.inl x1), some (.inl (μ r0 48 o0 x1.toNatClampNeg))] [] μ3 res) ∧ (¬ (((μ2 r0 40 o0 2) - 1) ≤ (μ2 (r0 + 1) 68 o0 v2.toNatClampNeg)) → ∃ μ4, C 101 [.inr (r0, 40, o0), .inl (μ r0 48 o0 x1.toNatClampNeg)] μ2 (none, μ4) ∧ EvE C 106 67 [some (.inr (r0, 40, o0)), some (.inl x1), some (.inl (μ r0 48 o0 x1.toNatClampNeg))] [] μ4 res)))))) := by
  refine (ev_iload_n dX9_workEnds_7 rfl).trans ?_
  refine (ev_aload_n dX9_workEnds_8 rfl).trans ?_
  refine (ev_getI2 dX9_workEnds_9 f_9_225 rfl (v := (μ r0 40 o0 19)) (rfl)).trans ((and_iff_right (by decide)).trans ?_)
  refine (ev_icmp dX9_workEnds_12 (t := 73) (by decide)).trans (and_congr (imp_congr Iff.rfl ?_) (imp_congr Iff.rfl ?_))
  · exact ev_return dX9_workEnds_73 rfl
  · refine (ev_aload_n dX9_workEnds_15 rfl).trans ?_
    refine (ev_getR dX9_workEnds_16 f_9_45 rfl).trans ((and_iff_right (by decide)).trans ?_)
    refine (ev_iload_n dX9_workEnds_19 rfl).trans ?_
    refine (ev_iald2 dX9_workEnds_20 (by decide) (v := (μ r0 48 o0 x1.toNatClampNeg)) (rfl)).trans (and_congr_right fun _ => ?_)
    refine (ev_istore_n dX9_workEnds_21 (Nat.le_of_ble_eq_true rfl) rfl).trans ?_
    refine (ev_aload_n dX9_workEnds_22 rfl).trans ?_
    refine (ev_iload_n dX9_workEnds_23 rfl).trans ?_
    refine (ev_iconst dX9_workEnds_24 (w := 1) (by decide)).trans ?_
    refine (ev_virI dX9_workEnds_25 c_9_231 (by decide) (As := [.inl (μ r0 48 o0 x1.toNatClampNeg), .inl 1]) rfl rfl (by decide) rfl (Nat.le_of_ble_eq_true rfl)).trans ((and_iff_right (by decide)).trans (exists_congr fun v1 => exists_congr fun μ1 => and_congr_right fun _ => ?_))
    refine (ev_ifc dX9_workEnds_28 (t := 67) (by decide)).trans (and_congr (imp_congr Iff.rfl ?_) (imp_congr Iff.rfl ?_))
    · exact Iff.rfl
    · refine (ev_aload_n dX9_workEnds_31 rfl).trans ?_
      refine (ev_getR dX9_workEnds_32 f_9_38 rfl).trans ((and_iff_right (by decide)).trans ?_)
      refine (ev_getR dX9_workEnds_35 f_9_111 rfl).trans ((and_iff_right (by decide)).trans ?_)
      refine (ev_aload_n dX9_workEnds_38 rfl).trans ?_
      refine (ev_iload_n dX9_workEnds_39 rfl).trans ?_
      refine (ev_virI dX9_workEnds_40 c_9_117 (by decide) (As := [.inl (μ r0 48 o0 x1.toNatClampNeg)]) rfl rfl (by decide) rfl (Nat.le_of_ble_eq_true rfl)).trans ((and_iff_right (by decide)).trans (exists_congr fun v2 => exists_congr fun μ2 => and_congr_right fun _ => ?_))
      refine (ev_iald2 dX9_workEnds_43 (by decide) (v := (μ2 (r0 + 1) 68 o0 v2.toNatClampNeg)) (rfl)).trans (and_congr_right fun _ => ?_)
      refine (ev_aload_n dX9_workEnds_44 rfl).trans ?_
      refine (ev_getI2 dX9_workEnds_45 f_9_61 rfl (v := (μ2 r0 40 o0 2)) (rfl)).trans ((and_iff_right (by decide)).trans ?_)
      refine (ev_iconst dX9_workEnds_48 (w := 1) (by decide)).trans ?_
      refine (ev_isub dX9_workEnds_49).trans ?_
      refine (ev_icmp dX9_workEnds_50 (t := 61) (by decide)).trans (and_congr (imp_congr Iff.rfl ?_) (imp_congr Iff.rfl ?_))
      · refine (ev_aload_n dX9_workEnds_61 rfl).trans ?_
        refine (ev_iload_n dX9_workEnds_62 rfl).trans ?_
        refine (ev_iconst dX9_workEnds_63 (w := 1) (by decide)).trans ?_
        refine (ev_virV dX9_workEnds_64 c_9_203 (by decide) (As := [.inl (μ r0 48 o0 x1.toNatClampNeg), .inl 1]) rfl rfl rfl rfl (Nat.le_of_ble_eq_true rfl)).trans ((and_iff_right (by decide)).trans (exists_congr fun μ3 => and_congr_right fun _ => ?_))
        exact Iff.rfl
      · refine (ev_aload_n dX9_workEnds_53 rfl).trans ?_
        refine (ev_iload_n dX9_workEnds_54 rfl).trans ?_
        refine (ev_virV dX9_workEnds_55 c_9_234 (by decide) (As := [.inl (μ r0 48 o0 x1.toNatClampNeg)]) rfl rfl rfl rfl (Nat.le_of_ble_eq_true rfl)).trans ((and_iff_right (by decide)).trans (exists_congr fun μ4 => and_congr_right fun _ => ?_))
        refine (ev_goto dX9_workEnds_58 (t := 67) (by decide)).trans ?_
        exact Iff.rfl
theorem B106_67 {C : Nat → List AV → Mem → Res → Prop} {μ : Mem} {res : Res} {x1 x2 : Int32} {r0 o0 : Nat} : EvE C 106 67 [some (.inr (r0, 40, o0)), some (.inl x1), some (.inl x2)] [] μ res ↔ EvE C 106 7 [some (.inr (r0, 40, o0)), some (.inl (x1 + 1)), some (.inl x2)] [] μ res := by
  refine (ev_iinc dX9_workEnds_67 rfl (w := 1) (by decide) rfl).trans ?_
  refine (ev_goto dX9_workEnds_70 (t := 7) (by decide)).trans ?_
  exact Iff.rfl
/-! X9_pausesEnd -/
theorem B107_0 {C : Nat → List AV → Mem → Res → Prop} {μ : Mem} {res : Res} {r0 o0 : Nat} : EvE C 107 0 [some (.inr (r0, 40, o0)), none] [] μ res ↔ ∃ μ1, C 104 [.inr (r0, 40, o0), .inl 3] μ (none, μ1) ∧ EvE C 107 7 [some (.inr (r0, 40, o0)), some (.inl 0)] [] μ1 res := by
  refine (ev_aload_n dX9_pausesEnd_0 rfl).trans ?_
  refine (ev_iconst dX9_pausesEnd_1 (w := 3) (by decide)).trans ?_
  refine (ev_virV dX9_pausesEnd_2 c_9_228 (by decide) (As := [.inl 3]) rfl rfl rfl rfl (Nat.le_of_ble_eq_true rfl)).trans ((and_iff_right (by decide)).trans (exists_congr fun μ1 => and_congr_right fun _ => ?_))
  refine (ev_iconst dX9_pausesEnd_5 (w := 0) (by decide)).trans ?_
  refine (ev_istore_n dX9_pausesEnd_6 (Nat.le_of_ble_eq_true rfl) rfl).trans ?_
  exact Iff.rfl
theorem B107_7 {C : Nat → List AV → Mem → Res → Prop} {μ : Mem} {res : Res} {x1 : Int32} {r0 o0 : Nat} : EvE C 107 7 [some (.inr (r0, 40, o0)), some (.inl x1)] [] μ res ↔ (((μ r0 40 o0 19) ≤ x1 → res = (none, μ)) ∧ (¬ ((μ r0 40 o0 19) ≤ x1) → vp_in x1 120 ∧ ∃ v1 μ1, C 105 [.inr (r0, 40, o0), .inl (μ r0 48 o0 x1.toNatClampNeg), .inl 3] μ (some v1, μ1) ∧ ((v1 = 0 → EvE C 107 61 [some (.inr (r0, 40, o0)), some (.inl x1)] [] μ1 res) ∧ (¬ (v1 = 0) → vp_in x1 120 ∧ ∃ v2 μ2, C 85 [.inr (r0, 40, o0), .inl (μ1 r0 48 o0 x1.toNatClampNeg)] μ1 (some v2, μ2) ∧ vp_in v2 120 ∧ vp_in v2 120 ∧ vp_in x1 120 ∧ ∃ μ3, C 101 [.inr (r0, 40, o0), .inl (μ2 r0 48 o0 x1.toNatClampNeg)] (mset μ2 (r0 + 1) 73 o0 v2.toNatClampNeg ((μ2 (r0 + 1) 73 o0 v2.toNatClampNeg) + 1)) (none, μ3) ∧ EvE C 107 61 [some (.inr (r0, 40, o0)), some (.inl x1)] [] μ3 res)))) := by
  refine (ev_iload_n dX9_pausesEnd_7 rfl).trans ?_
  refine (ev_aload_n dX9_pausesEnd_8 rfl).trans ?_
  refine (ev_getI2 dX9_pausesEnd_9 f_9_225 rfl (v := (μ r0 40 o0 19)) (rfl)).trans ((and_iff_right (by decide)).trans ?_)
  refine (ev_icmp dX9_pausesEnd_12 (t := 67) (by decide)).trans (and_congr (imp_congr Iff.rfl ?_) (imp_congr Iff.rfl ?_))
  · exact ev_return dX9_pausesEnd_67 rfl
  · refine (ev_aload_n dX9_pausesEnd_15 rfl).trans ?_
    refine (ev_aload_n dX9_pausesEnd_16 rfl).trans ?_
    refine (ev_getR dX9_pausesEnd_17 f_9_45 rfl).trans ((and_iff_right (by decide)).trans ?_)
    refine (ev_iload_n dX9_pausesEnd_20 rfl).trans ?_
    refine (ev_iald2 dX9_pausesEnd_21 (by decide) (v := (μ r0 48 o0 x1.toNatClampNeg)) (rfl)).trans (and_congr_right fun _ => ?_)
    refine (ev_iconst dX9_pausesEnd_22 (w := 3) (by decide)).trans ?_
    refine (ev_virI dX9_pausesEnd_23 c_9_231 (by decide) (As := [.inl (μ r0 48 o0 x1.toNatClampNeg), .inl 3]) rfl rfl (by decide) rfl (Nat.le_of_ble_eq_true rfl)).trans ((and_iff_right (by decide)).trans (exists_congr fun v1 => exists_congr fun μ1 => and_congr_right fun _ => ?_))
    refine (ev_ifc dX9_pausesEnd_26 (t := 61) (by decide)).trans (and_congr (imp_congr Iff.rfl ?_) (imp_congr Iff.rfl ?_))
    · exact Iff.rfl
    · refine (ev_aload_n dX9_pausesEnd_29 rfl).trans ?_
      refine (ev_getR dX9_pausesEnd_30 f_9_38 rfl).trans ((and_iff_right (by decide)).trans ?_)
      refine (ev_getR dX9_pausesEnd_33 f_9_130 rfl).trans ((and_iff_right (by decide)).trans ?_)
      refine (ev_aload_n dX9_pausesEnd_36 rfl).trans ?_
      refine (ev_aload_n dX9_pausesEnd_37 rfl).trans ?_
      refine (ev_getR dX9_pausesEnd_38 f_9_45 rfl).trans ((and_iff_right (by decide)).trans ?_)
      refine (ev_iload_n dX9_pausesEnd_41 rfl).trans ?_
      refine (ev_iald2 dX9_pausesEnd_42 (by decide) (v := (μ1 r0 48 o0 x1.toNatClampNeg)) (rfl)).trans (and_congr_right fun _ => ?_)
      refine (ev_virI dX9_pausesEnd_43 c_9_117 (by decide) (As := [.inl (μ1 r0 48 o0 x1.toNatClampNeg)]) rfl rfl (by decide) rfl (Nat.le_of_ble_eq_true rfl)).trans ((and_iff_right (by decide)).trans (exists_congr fun v2 => exists_congr fun μ2 => and_congr_right fun _ => ?_))
      refine (ev_dup2 dX9_pausesEnd_46).trans ?_
      refine (ev_iald2 dX9_pausesEnd_47 (by decide) (v := (μ2 (r0 + 1) 73 o0 v2.toNatClampNeg)) (rfl)).trans (and_congr_right fun _ => ?_)
      refine (ev_iconst dX9_pausesEnd_48 (w := 1) (by decide)).trans ?_
      refine (ev_iadd dX9_pausesEnd_49).trans ?_
      refine (ev_iast dX9_pausesEnd_50 (by decide)).trans (and_congr_right fun _ => ?_)
      refine (ev_aload_n dX9_pausesEnd_51 rfl).trans ?_
      refine (ev_aload_n dX9_pausesEnd_52 rfl).trans ?_
      refine (ev_getR dX9_pausesEnd_53 f_9_45 rfl).trans ((and_iff_right (by decide)).trans ?_)
      refine (ev_iload_n dX9_pausesEnd_56 rfl).trans ?_
      refine (ev_iald2 dX9_pausesEnd_57 (by decide) (v := (μ2 r0 48 o0 x1.toNatClampNeg)) ((mget_a (by decide)).trans (rfl))).trans (and_congr_right fun _ => ?_)
      refine (ev_virV dX9_pausesEnd_58 c_9_234 (by decide) (As := [.inl (μ2 r0 48 o0 x1.toNatClampNeg)]) rfl rfl rfl rfl (Nat.le_of_ble_eq_true rfl)).trans ((and_iff_right (by decide)).trans (exists_congr fun μ3 => and_congr_right fun _ => ?_))
      exact Iff.rfl
theorem B107_61 {C : Nat → List AV → Mem → Res → Prop} {μ : Mem} {res : Res} {x1 : Int32} {r0 o0 : Nat} : EvE C 107 61 [some (.inr (r0, 40, o0)), some (.inl x1)] [] μ res ↔ EvE C 107 7 [some (.inr (r0, 40, o0)), some (.inl (x1 + 1))] [] μ res := by
  refine (ev_iinc dX9_pausesEnd_61 rfl (w := 1) (by decide) rfl).trans ?_
  refine (ev_goto dX9_pausesEnd_64 (t := 7) (by decide)).trans ?_
  exact Iff.rfl
/-! X9_deadlines -/
theorem B108_0 {C : Nat → List AV → Mem → Res → Prop} {μ : Mem} {res : Res} {r0 o0 : Nat} : EvE C 108 0 [some (.inr (r0, 40, o0)), none] [] μ res ↔ ∃ μ1, C 104 [.inr (r0, 40, o0), .inl 2] μ (none, μ1) ∧ EvE C 108 7 [some (.inr (r0, 40, o0)), some (.inl 0)] [] μ1 res := by
  refine (ev_aload_n dX9_deadlines_0 rfl).trans ?_
  refine (ev_iconst dX9_deadlines_1 (w := 2) (by decide)).trans ?_
  refine (ev_virV dX9_deadlines_2 c_9_228 (by decide) (As := [.inl 2]) rfl rfl rfl rfl (Nat.le_of_ble_eq_true rfl)).trans ((and_iff_right (by decide)).trans (exists_congr fun μ1 => and_congr_right fun _ => ?_))
  refine (ev_iconst dX9_deadlines_5 (w := 0) (by decide)).trans ?_
  refine (ev_istore_n dX9_deadlines_6 (Nat.le_of_ble_eq_true rfl) rfl).trans ?_
  exact Iff.rfl
theorem B108_7 {C : Nat → List AV → Mem → Res → Prop} {μ : Mem} {res : Res} {x1 : Int32} {r0 o0 : Nat} : EvE C 108 7 [some (.inr (r0, 40, o0)), some (.inl x1)] [] μ res ↔ (((μ r0 40 o0 19) ≤ x1 → res = (none, μ)) ∧ (¬ ((μ r0 40 o0 19) ≤ x1) → vp_in x1 120 ∧ ∃ v1 μ1, C 105 [.inr (r0, 40, o0), .inl (μ r0 48 o0 x1.toNatClampNeg), .inl 2] μ (some v1, μ1) ∧ ((v1 = 0 → EvE C 108 39 [some (.inr (r0, 40, o0)), some (.inl x1)] [] μ1 res) ∧ (¬ (v1 = 0) → vp_in x1 120 ∧ ∃ μ2, C 99 [.inr (r0, 40, o0), .inl (μ1 r0 48 o0 x1.toNatClampNeg)] μ1 (none, μ2) ∧ EvE C 108 39 [some (.inr (r0, 40, o0)), some (.inl x1)] [] μ2 res)))) := by
  refine (ev_iload_n dX9_deadlines_7 rfl).trans ?_
  refine (ev_aload_n dX9_deadlines_8 rfl).trans ?_
  refine (ev_getI2 dX9_deadlines_9 f_9_225 rfl (v := (μ r0 40 o0 19)) (rfl)).trans ((and_iff_right (by decide)).trans ?_)
  refine (ev_icmp dX9_deadlines_12 (t := 45) (by decide)).trans (and_congr (imp_congr Iff.rfl ?_) (imp_congr Iff.rfl ?_))
  · exact ev_return dX9_deadlines_45 rfl
  · refine (ev_aload_n dX9_deadlines_15 rfl).trans ?_
    refine (ev_aload_n dX9_deadlines_16 rfl).trans ?_
    refine (ev_getR dX9_deadlines_17 f_9_45 rfl).trans ((and_iff_right (by decide)).trans ?_)
    refine (ev_iload_n dX9_deadlines_20 rfl).trans ?_
    refine (ev_iald2 dX9_deadlines_21 (by decide) (v := (μ r0 48 o0 x1.toNatClampNeg)) (rfl)).trans (and_congr_right fun _ => ?_)
    refine (ev_iconst dX9_deadlines_22 (w := 2) (by decide)).trans ?_
    refine (ev_virI dX9_deadlines_23 c_9_231 (by decide) (As := [.inl (μ r0 48 o0 x1.toNatClampNeg), .inl 2]) rfl rfl (by decide) rfl (Nat.le_of_ble_eq_true rfl)).trans ((and_iff_right (by decide)).trans (exists_congr fun v1 => exists_congr fun μ1 => and_congr_right fun _ => ?_))
    refine (ev_ifc dX9_deadlines_26 (t := 39) (by decide)).trans (and_congr (imp_congr Iff.rfl ?_) (imp_congr Iff.rfl ?_))
    · exact Iff.rfl
    · refine (ev_aload_n dX9_deadlines_29 rfl).trans ?_
      refine (ev_aload_n dX9_deadlines_30 rfl).trans ?_
      refine (ev_getR dX9_deadlines_31 f_9_45 rfl).trans ((and_iff_right (by decide)).trans ?_)
      refine (ev_iload_n dX9_deadlines_34 rfl).trans ?_
      refine (ev_iald2 dX9_deadlines_35 (by decide) (v := (μ1 r0 48 o0 x1.toNatClampNeg)) (rfl)).trans (and_congr_right fun _ => ?_)
      refine (ev_virV dX9_deadlines_36 c_9_206 (by decide) (As := [.inl (μ1 r0 48 o0 x1.toNatClampNeg)]) rfl rfl rfl rfl (Nat.le_of_ble_eq_true rfl)).trans ((and_iff_right (by decide)).trans (exists_congr fun μ2 => and_congr_right fun _ => ?_))
      exact Iff.rfl
theorem B108_39 {C : Nat → List AV → Mem → Res → Prop} {μ : Mem} {res : Res} {x1 : Int32} {r0 o0 : Nat} : EvE C 108 39 [some (.inr (r0, 40, o0)), some (.inl x1)] [] μ res ↔ EvE C 108 7 [some (.inr (r0, 40, o0)), some (.inl (x1 + 1))] [] μ res := by
  refine (ev_iinc dX9_deadlines_39 rfl (w := 1) (by decide) rfl).trans ?_
  refine (ev_goto dX9_deadlines_42 (t := 7) (by decide)).trans ?_
  exact Iff.rfl
/-! X9_guestDeadlines -/
theorem B109_0 {C : Nat → List AV → Mem → Res → Prop} {μ : Mem} {res : Res} {r0 o0 : Nat} : EvE C 109 0 [some (.inr (r0, 40, o0)), none, none, none] [] μ res ↔ EvE C 109 4 [some (.inr (r0, 40, o0)), some (.inl 0), some (.inl 0), none] [] μ res := by
  refine (ev_iconst dX9_guestDeadlines_0 (w := 0) (by decide)).trans ?_
  refine (ev_istore_n dX9_guestDeadlines_1 (Nat.le_of_ble_eq_true rfl) rfl).trans ?_
  refine (ev_iconst dX9_guestDeadlines_2 (w := 0) (by decide)).trans ?_
  refine (ev_istore_n dX9_guestDeadlines_3 (Nat.le_of_ble_eq_true rfl) rfl).trans ?_
  exact Iff.rfl
theorem B109_4 {C : Nat → List AV → Mem → Res → Prop} {μ : Mem} {res : Res} {x1 x2 : Int32} {r0 o0 : Nat} {u3 : Option AV} : EvE C 109 4 [some (.inr (r0, 40, o0)), some (.inl x1), some (.inl x2), u3] [] μ res ↔ (((μ (r0 + 1) 60 o0 22) ≤ x2 → EvE C 109 60 [some (.inr (r0, 40, o0)), some (.inl x1), some (.inl 0), u3] [] μ res) ∧ (¬ ((μ (r0 + 1) 60 o0 22) ≤ x2) → vp_in x2 100 ∧ ((¬ (μ (r0 + 1) 77 o0 x2.toNatClampNeg) = (μ (r0 + 1) 60 o0 0) → EvE C 109 52 [some (.inr (r0, 40, o0)), some (.inl x1), some (.inl x2), u3] [] μ res) ∧ (¬ (¬ (μ (r0 + 1) 77 o0 x2.toNatClampNeg) = (μ (r0 + 1) 60 o0 0)) → vp_in x2 100 ∧ vp_in x1 100 ∧ EvE C 109 52 [some (.inr (r0, 40, o0)), some (.inl (x1 + 1)), some (.inl x2), u3] [] (mset μ r0 49 o0 x1.toNatClampNeg (μ (r0 + 1) 79 o0 x2.toNatClampNeg)) res)))) := by
  refine (ev_iload_n dX9_guestDeadlines_4 rfl).trans ?_
  refine (ev_aload_n dX9_guestDeadlines_5 rfl).trans ?_
  refine (ev_getR dX9_guestDeadlines_6 f_9_38 rfl).trans ((and_iff_right (by decide)).trans ?_)
  refine (ev_getI2 dX9_guestDeadlines_9 f_9_102 rfl (v := (μ (r0 + 1) 60 o0 22)) (rfl)).trans ((and_iff_right (by decide)).trans ?_)
  refine (ev_icmp dX9_guestDeadlines_12 (t := 58) (by decide)).trans (and_congr (imp_congr Iff.rfl ?_) (imp_congr Iff.rfl ?_))
  · refine (ev_iconst dX9_guestDeadlines_58 (w := 0) (by decide)).trans ?_
    refine (ev_istore_n dX9_guestDeadlines_59 (Nat.le_of_ble_eq_true rfl) rfl).trans ?_
    exact Iff.rfl
  · refine (ev_aload_n dX9_guestDeadlines_15 rfl).trans ?_
    refine (ev_getR dX9_guestDeadlines_16 f_9_38 rfl).trans ((and_iff_right (by decide)).trans ?_)
    refine (ev_getR dX9_guestDeadlines_19 f_9_185 rfl).trans ((and_iff_right (by decide)).trans ?_)
    refine (ev_iload_n dX9_guestDeadlines_22 rfl).trans ?_
    refine (ev_iald2 dX9_guestDeadlines_23 (by decide) (v := (μ (r0 + 1) 77 o0 x2.toNatClampNeg)) (rfl)).trans (and_congr_right fun _ => ?_)
    refine (ev_aload_n dX9_guestDeadlines_24 rfl).trans ?_
    refine (ev_getR dX9_guestDeadlines_25 f_9_38 rfl).trans ((and_iff_right (by decide)).trans ?_)
    refine (ev_getI2 dX9_guestDeadlines_28 f_9_68 rfl (v := (μ (r0 + 1) 60 o0 0)) (rfl)).trans ((and_iff_right (by decide)).trans ?_)
    refine (ev_icmp dX9_guestDeadlines_31 (t := 52) (by decide)).trans (and_congr (imp_congr Iff.rfl ?_) (imp_congr Iff.rfl ?_))
    · exact Iff.rfl
    · refine (ev_aload_n dX9_guestDeadlines_34 rfl).trans ?_
      refine (ev_getR dX9_guestDeadlines_35 f_9_48 rfl).trans ((and_iff_right (by decide)).trans ?_)
      refine (ev_iload_n dX9_guestDeadlines_38 rfl).trans ?_
      refine (ev_aload_n dX9_guestDeadlines_39 rfl).trans ?_
      refine (ev_getR dX9_guestDeadlines_40 f_9_38 rfl).trans ((and_iff_right (by decide)).trans ?_)
      refine (ev_getR dX9_guestDeadlines_43 f_9_194 rfl).trans ((and_iff_right (by decide)).trans ?_)
      refine (ev_iload_n dX9_guestDeadlines_46 rfl).trans ?_
      refine (ev_iald2 dX9_guestDeadlines_47 (by decide) (v := (μ (r0 + 1) 79 o0 x2.toNatClampNeg)) (rfl)).trans (and_congr_right fun _ => ?_)
      refine (ev_iast dX9_guestDeadlines_48 (by decide)).trans (and_congr_right fun _ => ?_)
      refine (ev_iinc dX9_guestDeadlines_49 rfl (w := 1) (by decide) rfl).trans ?_
      exact Iff.rfl
theorem B109_52 {C : Nat → List AV → Mem → Res → Prop} {μ : Mem} {res : Res} {x1 x2 : Int32} {r0 o0 : Nat} {u3 : Option AV} : EvE C 109 52 [some (.inr (r0, 40, o0)), some (.inl x1), some (.inl x2), u3] [] μ res ↔ EvE C 109 4 [some (.inr (r0, 40, o0)), some (.inl x1), some (.inl (x2 + 1)), u3] [] μ res := by
  refine (ev_iinc dX9_guestDeadlines_52 rfl (w := 1) (by decide) rfl).trans ?_
  refine (ev_goto dX9_guestDeadlines_55 (t := 4) (by decide)).trans ?_
  exact Iff.rfl
theorem B109_60 {C : Nat → List AV → Mem → Res → Prop} {μ : Mem} {res : Res} {x1 x2 : Int32} {r0 o0 : Nat} {u3 : Option AV} : EvE C 109 60 [some (.inr (r0, 40, o0)), some (.inl x1), some (.inl x2), u3] [] μ res ↔ ((x1 ≤ x2 → res = (none, μ)) ∧ (¬ (x1 ≤ x2) → EvE C 109 67 [some (.inr (r0, 40, o0)), some (.inl x1), some (.inl x2), some (.inl 0)] [] μ res)) := by
  refine (ev_iload_n dX9_guestDeadlines_60 rfl).trans ?_
  refine (ev_iload_n dX9_guestDeadlines_61 rfl).trans ?_
  refine (ev_icmp dX9_guestDeadlines_62 (t := 214) (by decide)).trans (and_congr (imp_congr Iff.rfl ?_) (imp_congr Iff.rfl ?_))
  · exact ev_return dX9_guestDeadlines_214 rfl
  · refine (ev_iconst dX9_guestDeadlines_65 (w := 0) (by decide)).trans ?_
    refine (ev_istore_n dX9_guestDeadlines_66 (Nat.le_of_ble_eq_true rfl) rfl).trans ?_
    exact Iff.rfl
theorem B109_67 {C : Nat → List AV → Mem → Res → Prop} {μ : Mem} {res : Res} {x1 x2 x3 : Int32} {r0 o0 : Nat} : EvE C 109 67 [some (.inr (r0, 40, o0)), some (.inl x1), some (.inl x2), some (.inl x3)] [] μ res ↔ (((μ (r0 + 1) 60 o0 22) ≤ x3 → EvE C 109 102 [some (.inr (r0, 40, o0)), some (.inl x1), some (.inl x2), some (.inl x3)] [] μ res) ∧ (¬ ((μ (r0 + 1) 60 o0 22) ≤ x3) → vp_in x3 100 ∧ vp_in x2 100 ∧ (((μ (r0 + 1) 79 o0 x3.toNatClampNeg) = (μ r0 49 o0 x2.toNatClampNeg) → EvE C 109 102 [some (.inr (r0, 40, o0)), some (.inl x1), some (.inl x2), some (.inl x3)] [] μ res) ∧ (¬ ((μ (r0 + 1) 79 o0 x3.toNatClampNeg) = (μ r0 49 o0 x2.toNatClampNeg)) → EvE C 109 67 [some (.inr (r0, 40, o0)), some (.inl x1), some (.inl x2), some (.inl (x3 + 1))] [] μ res)))) := by
  refine (ev_iload_n dX9_guestDeadlines_67 rfl).trans ?_
  refine (ev_aload_n dX9_guestDeadlines_68 rfl).trans ?_
  refine (ev_getR dX9_guestDeadlines_69 f_9_38 rfl).trans ((and_iff_right (by decide)).trans ?_)
  refine (ev_getI2 dX9_guestDeadlines_72 f_9_102 rfl (v := (μ (r0 + 1) 60 o0 22)) (rfl)).trans ((and_iff_right (by decide)).trans ?_)
  refine (ev_icmp dX9_guestDeadlines_75 (t := 102) (by decide)).trans (and_congr (imp_congr Iff.rfl ?_) (imp_congr Iff.rfl ?_))
  · exact Iff.rfl
  · refine (ev_aload_n dX9_guestDeadlines_78 rfl).trans ?_
    refine (ev_getR dX9_guestDeadlines_79 f_9_38 rfl).trans ((and_iff_right (by decide)).trans ?_)
    refine (ev_getR dX9_guestDeadlines_82 f_9_194 rfl).trans ((and_iff_right (by decide)).trans ?_)
    refine (ev_iload_n dX9_guestDeadlines_85 rfl).trans ?_
    refine (ev_iald2 dX9_guestDeadlines_86 (by decide) (v := (μ (r0 + 1) 79 o0 x3.toNatClampNeg)) (rfl)).trans (and_congr_right fun _ => ?_)
    refine (ev_aload_n dX9_guestDeadlines_87 rfl).trans ?_
    refine (ev_getR dX9_guestDeadlines_88 f_9_48 rfl).trans ((and_iff_right (by decide)).trans ?_)
    refine (ev_iload_n dX9_guestDeadlines_91 rfl).trans ?_
    refine (ev_iald2 dX9_guestDeadlines_92 (by decide) (v := (μ r0 49 o0 x2.toNatClampNeg)) (rfl)).trans (and_congr_right fun _ => ?_)
    refine (ev_icmp dX9_guestDeadlines_93 (t := 102) (by decide)).trans (and_congr (imp_congr Iff.rfl ?_) (imp_congr Iff.rfl ?_))
    · exact Iff.rfl
    · refine (ev_iinc dX9_guestDeadlines_96 rfl (w := 1) (by decide) rfl).trans ?_
      refine (ev_goto dX9_guestDeadlines_99 (t := 67) (by decide)).trans ?_
      exact Iff.rfl
theorem B109_102 {C : Nat → List AV → Mem → Res → Prop} {μ : Mem} {res : Res} {x1 x2 x3 : Int32} {r0 o0 : Nat} : EvE C 109 102 [some (.inr (r0, 40, o0)), some (.inl x1), some (.inl x2), some (.inl x3)] [] μ res ↔ (((μ (r0 + 1) 60 o0 22) ≤ x3 → EvE C 109 208 [some (.inr (r0, 40, o0)), some (.inl x1), some (.inl x2), some (.inl x3)] [] μ res) ∧ (¬ ((μ (r0 + 1) 60 o0 22) ≤ x3) → vp_in x3 100 ∧ ((¬ (μ (r0 + 1) 77 o0 x3.toNatClampNeg) = (μ (r0 + 1) 60 o0 0) → EvE C 109 208 [some (.inr (r0, 40, o0)), some (.inl x1), some (.inl x2), some (.inl x3)] [] μ res) ∧ (¬ (¬ (μ (r0 + 1) 77 o0 x3.toNatClampNeg) = (μ (r0 + 1) 60 o0 0)) → vp_in x3 100 ∧ (((μ r0 40 o0 4) ≤ (μ (r0 + 1) 78 o0 x3.toNatClampNeg) → ∃ μ1, C 96 [.inr (r0, 40, o0), .inl x3] (mset (mset μ (r0 + 1) 60 o0 28 0) (r0 + 1) 60 o0 25 ((μ (r0 + 1) 60 o0 25) + 1)) (none, μ1) ∧ EvE C 109 208 [some (.inr (r0, 40, o0)), some (.inl x1), some (.inl x2), some (.inl x3)] [] μ1 res) ∧ (¬ ((μ r0 40 o0 4) ≤ (μ (r0 + 1) 78 o0 x3.toNatClampNeg)) → vp_in x3 100 ∧ vp_in x3 100 ∧ ∃ μ2, C 102 [.inr (r0, 40, o0), .inl x3] (mset (mset (mset μ (r0 + 1) 60 o0 28 0) (r0 + 1) 78 o0 x3.toNatClampNeg ((μ (r0 + 1) 78 o0 x3.toNatClampNeg) + 1)) (r0 + 1) 60 o0 26 ((μ (r0 + 1) 60 o0 26) + 1)) (none, μ2) ∧ EvE C 109 208 [some (.inr (r0, 40, o0)), some (.inl x1), some (.inl x2), some (.inl x3)] [] μ2 res)))))) := by
  refine (ev_iload_n dX9_guestDeadlines_102 rfl).trans ?_
  refine (ev_aload_n dX9_guestDeadlines_103 rfl).trans ?_
  refine (ev_getR dX9_guestDeadlines_104 f_9_38 rfl).trans ((and_iff_right (by decide)).trans ?_)
  refine (ev_getI2 dX9_guestDeadlines_107 f_9_102 rfl (v := (μ (r0 + 1) 60 o0 22)) (rfl)).trans ((and_iff_right (by decide)).trans ?_)
  refine (ev_icmp dX9_guestDeadlines_110 (t := 208) (by decide)).trans (and_congr (imp_congr Iff.rfl ?_) (imp_congr Iff.rfl ?_))
  · exact Iff.rfl
  · refine (ev_aload_n dX9_guestDeadlines_113 rfl).trans ?_
    refine (ev_getR dX9_guestDeadlines_114 f_9_38 rfl).trans ((and_iff_right (by decide)).trans ?_)
    refine (ev_getR dX9_guestDeadlines_117 f_9_185 rfl).trans ((and_iff_right (by decide)).trans ?_)
    refine (ev_iload_n dX9_guestDeadlines_120 rfl).trans ?_
    refine (ev_iald2 dX9_guestDeadlines_121 (by decide) (v := (μ (r0 + 1) 77 o0 x3.toNatClampNeg)) (rfl)).trans (and_congr_right fun _ => ?_)
    refine (ev_aload_n dX9_guestDeadlines_122 rfl).trans ?_
    refine (ev_getR dX9_guestDeadlines_123 f_9_38 rfl).trans ((and_iff_right (by decide)).trans ?_)
    refine (ev_getI2 dX9_guestDeadlines_126 f_9_68 rfl (v := (μ (r0 + 1) 60 o0 0)) (rfl)).trans ((and_iff_right (by decide)).trans ?_)
    refine (ev_icmp dX9_guestDeadlines_129 (t := 208) (by decide)).trans (and_congr (imp_congr Iff.rfl ?_) (imp_congr Iff.rfl ?_))
    · exact Iff.rfl
    · refine (ev_aload_n dX9_guestDeadlines_132 rfl).trans ?_
      refine (ev_getR dX9_guestDeadlines_133 f_9_38 rfl).trans ((and_iff_right (by decide)).trans ?_)
      refine (ev_iconst dX9_guestDeadlines_136 (w := 0) (by decide)).trans ?_
      refine (ev_putZ dX9_guestDeadlines_137 f_9_51 rfl (by decide)).trans ((and_iff_right ⟨by decide, by decide⟩).trans ?_)
      refine (ev_aload_n dX9_guestDeadlines_140 rfl).trans ?_
      refine (ev_getR dX9_guestDeadlines_141 f_9_38 rfl).trans ((and_iff_right (by decide)).trans ?_)
      refine (ev_getR dX9_guestDeadlines_144 f_9_191 rfl).trans ((and_iff_right (by decide)).trans ?_)
      refine (ev_iload_n dX9_guestDeadlines_147 rfl).trans ?_
      refine (ev_iald2 dX9_guestDeadlines_148 (by decide) (v := (μ (r0 + 1) 78 o0 x3.toNatClampNeg)) ((mget_a (by decide)).trans (rfl))).trans (and_congr_right fun _ => ?_)
      refine (ev_aload_n dX9_guestDeadlines_149 rfl).trans ?_
      refine (ev_getI2 dX9_guestDeadlines_150 f_9_83 rfl (v := (μ r0 40 o0 4)) ((mget_a (by decide)).trans (rfl))).trans ((and_iff_right (by decide)).trans ?_)
      refine (ev_icmp dX9_guestDeadlines_153 (t := 190) (by decide)).trans (and_congr (imp_congr Iff.rfl ?_) (imp_congr Iff.rfl ?_))
      · refine (ev_aload_n dX9_guestDeadlines_190 rfl).trans ?_
        refine (ev_getR dX9_guestDeadlines_191 f_9_38 rfl).trans ((and_iff_right (by decide)).trans ?_)
        refine (ev_dup dX9_guestDeadlines_194).trans ?_
        refine (ev_getI2 dX9_guestDeadlines_195 f_9_219 rfl (v := (μ (r0 + 1) 60 o0 25)) ((mget_i (by decide)).trans (rfl))).trans ((and_iff_right (by decide)).trans ?_)
        refine (ev_iconst dX9_guestDeadlines_198 (w := 1) (by decide)).trans ?_
        refine (ev_iadd dX9_guestDeadlines_199).trans ?_
        refine (ev_put dX9_guestDeadlines_200 f_9_219 rfl (by decide)).trans ((and_iff_right (by decide)).trans ?_)
        refine (ev_aload_n dX9_guestDeadlines_203 rfl).trans ?_
        refine (ev_iload_n dX9_guestDeadlines_204 rfl).trans ?_
        refine (ev_virV dX9_guestDeadlines_205 c_9_182 (by decide) (As := [.inl x3]) rfl rfl rfl rfl (Nat.le_of_ble_eq_true rfl)).trans ((and_iff_right (by decide)).trans (exists_congr fun μ1 => and_congr_right fun _ => ?_))
        exact Iff.rfl
      · refine (ev_aload_n dX9_guestDeadlines_156 rfl).trans ?_
        refine (ev_getR dX9_guestDeadlines_157 f_9_38 rfl).trans ((and_iff_right (by decide)).trans ?_)
        refine (ev_getR dX9_guestDeadlines_160 f_9_191 rfl).trans ((and_iff_right (by decide)).trans ?_)
        refine (ev_iload_n dX9_guestDeadlines_163 rfl).trans ?_
        refine (ev_dup2 dX9_guestDeadlines_164).trans ?_
        refine (ev_iald2 dX9_guestDeadlines_165 (by decide) (v := (μ (r0 + 1) 78 o0 x3.toNatClampNeg)) ((mget_a (by decide)).trans (rfl))).trans (and_congr_right fun _ => ?_)
        refine (ev_iconst dX9_guestDeadlines_166 (w := 1) (by decide)).trans ?_
        refine (ev_iadd dX9_guestDeadlines_167).trans ?_
        refine (ev_iast dX9_guestDeadlines_168 (by decide)).trans (and_congr_right fun _ => ?_)
        refine (ev_aload_n dX9_guestDeadlines_169 rfl).trans ?_
        refine (ev_getR dX9_guestDeadlines_170 f_9_38 rfl).trans ((and_iff_right (by decide)).trans ?_)
        refine (ev_dup dX9_guestDeadlines_173).trans ?_
        refine (ev_getI2 dX9_guestDeadlines_174 f_9_237 rfl (v := (μ (r0 + 1) 60 o0 26)) ((mget_a (by decide)).trans ((mget_i (by decide)).trans (rfl)))).trans ((and_iff_right (by decide)).trans ?_)
        refine (ev_iconst dX9_guestDeadlines_177 (w := 1) (by decide)).trans ?_
        refine (ev_iadd dX9_guestDeadlines_178).trans ?_
        refine (ev_put dX9_guestDeadlines_179 f_9_237 rfl (by decide)).trans ((and_iff_right (by decide)).trans ?_)
        refine (ev_aload_n dX9_guestDeadlines_182 rfl).trans ?_
        refine (ev_iload_n dX9_guestDeadlines_183 rfl).trans ?_
        refine (ev_virV dX9_guestDeadlines_184 c_9_222 (by decide) (As := [.inl x3]) rfl rfl rfl rfl (Nat.le_of_ble_eq_true rfl)).trans ((and_iff_right (by decide)).trans (exists_congr fun μ2 => and_congr_right fun _ => ?_))
        refine (ev_goto dX9_guestDeadlines_187 (t := 208) (by decide)).trans ?_
        exact Iff.rfl
theorem B109_208 {C : Nat → List AV → Mem → Res → Prop} {μ : Mem} {res : Res} {x1 x2 x3 : Int32} {r0 o0 : Nat} : EvE C 109 208 [some (.inr (r0, 40, o0)), some (.inl x1), some (.inl x2), some (.inl x3)] [] μ res ↔ EvE C 109 60 [some (.inr (r0, 40, o0)), some (.inl x1), some (.inl (x2 + 1)), some (.inl x3)] [] μ res := by
  refine (ev_iinc dX9_guestDeadlines_208 rfl (w := 1) (by decide) rfl).trans ?_
  refine (ev_goto dX9_guestDeadlines_211 (t := 60) (by decide)).trans ?_
  exact Iff.rfl
/-! X9_handsTake -/
theorem B110_0 {C : Nat → List AV → Mem → Res → Prop} {μ : Mem} {res : Res} {r0 o0 : Nat} : EvE C 110 0 [some (.inr (r0, 40, o0)), none, none] [] μ res ↔ EvE C 110 2 [some (.inr (r0, 40, o0)), some (.inl 0), none] [] μ res := by
  refine (ev_iconst dX9_handsTake_0 (w := 0) (by decide)).trans ?_
  refine (ev_istore_n dX9_handsTake_1 (Nat.le_of_ble_eq_true rfl) rfl).trans ?_
  exact Iff.rfl
theorem B110_2 {C : Nat → List AV → Mem → Res → Prop} {μ : Mem} {res : Res} {x1 : Int32} {r0 o0 : Nat} {u2 : Option AV} : EvE C 110 2 [some (.inr (r0, 40, o0)), some (.inl x1), u2] [] μ res ↔ (((μ r0 40 o0 2) ≤ x1 → res = (none, μ)) ∧ (¬ ((μ r0 40 o0 2) ≤ x1) → EvE C 110 10 [some (.inr (r0, 40, o0)), some (.inl x1), u2] [] μ res)) := by
  refine (ev_iload_n dX9_handsTake_2 rfl).trans ?_
  refine (ev_aload_n dX9_handsTake_3 rfl).trans ?_
  refine (ev_getI2 dX9_handsTake_4 f_9_61 rfl (v := (μ r0 40 o0 2)) (rfl)).trans ((and_iff_right (by decide)).trans ?_)
  refine (ev_icmp dX9_handsTake_7 (t := 69) (by decide)).trans (and_congr (imp_congr Iff.rfl ?_) (imp_congr Iff.rfl ?_))
  · exact ev_return dX9_handsTake_69 rfl
  · exact Iff.rfl
theorem B110_10 {C : Nat → List AV → Mem → Res → Prop} {μ : Mem} {res : Res} {x1 : Int32} {r0 o0 : Nat} {u2 : Option AV} : EvE C 110 10 [some (.inr (r0, 40, o0)), some (.inl x1), u2] [] μ res ↔ vp_in x1 6 ∧ (((μ (r0 + 1) 66 o0 x1.toNatClampNeg) ≤ 0 → EvE C 110 63 [some (.inr (r0, 40, o0)), some (.inl x1), u2] [] μ res) ∧ (¬ ((μ (r0 + 1) 66 o0 x1.toNatClampNeg) ≤ 0) → ∃ v1 μ1, C 88 [.inr (r0, 40, o0), .inl x1] μ (some v1, μ1) ∧ ∃ v2 μ2, C 77 [.inr (r0, 40, o0), .inl x1, .inl 7] μ1 (some v2, μ2) ∧ ((v2 ≤ v1 → EvE C 110 63 [some (.inr (r0, 40, o0)), some (.inl x1), u2] [] μ2 res) ∧ (¬ (v2 ≤ v1) → vp_in (20 * x1) 120 ∧ ∃ μ3, C 91 [.inr (r0, 40, o0), .inl x1] μ2 (none, μ3) ∧ ∃ μ4, C 90 [.inr (r0, 40, o0), .inl (μ2 (r0 + 1) 65 o0 (20 * x1).toNatClampNeg)] μ3 (none, μ4) ∧ EvE C 110 10 [some (.inr (r0, 40, o0)), some (.inl x1), some (.inl (μ2 (r0 + 1) 65 o0 (20 * x1).toNatClampNeg))] [] μ4 res)))) := by
  refine (ev_aload_n dX9_handsTake_10 rfl).trans ?_
  refine (ev_getR dX9_handsTake_11 f_9_38 rfl).trans ((and_iff_right (by decide)).trans ?_)
  refine (ev_getR dX9_handsTake_14 f_9_140 rfl).trans ((and_iff_right (by decide)).trans ?_)
  refine (ev_iload_n dX9_handsTake_17 rfl).trans ?_
  refine (ev_iald2 dX9_handsTake_18 (by decide) (v := (μ (r0 + 1) 66 o0 x1.toNatClampNeg)) (rfl)).trans (and_congr_right fun _ => ?_)
  refine (ev_ifc dX9_handsTake_19 (t := 63) (by decide)).trans (and_congr (imp_congr Iff.rfl ?_) (imp_congr Iff.rfl ?_))
  · exact Iff.rfl
  · refine (ev_aload_n dX9_handsTake_22 rfl).trans ?_
    refine (ev_iload_n dX9_handsTake_23 rfl).trans ?_
    refine (ev_virI dX9_handsTake_24 c_9_146 (by decide) (As := [.inl x1]) rfl rfl (by decide) rfl (Nat.le_of_ble_eq_true rfl)).trans ((and_iff_right (by decide)).trans (exists_congr fun v1 => exists_congr fun μ1 => and_congr_right fun _ => ?_))
    refine (ev_aload_n dX9_handsTake_27 rfl).trans ?_
    refine (ev_iload_n dX9_handsTake_28 rfl).trans ?_
    refine (ev_bipush dX9_handsTake_29 (w := 7) (by decide)).trans ?_
    refine (ev_virI dX9_handsTake_31 c_9_79 (by decide) (As := [.inl x1, .inl 7]) rfl rfl (by decide) rfl (Nat.le_of_ble_eq_true rfl)).trans ((and_iff_right (by decide)).trans (exists_congr fun v2 => exists_congr fun μ2 => and_congr_right fun _ => ?_))
    refine (ev_icmp dX9_handsTake_34 (t := 63) (by decide)).trans (and_congr (imp_congr Iff.rfl ?_) (imp_congr Iff.rfl ?_))
    · exact Iff.rfl
    · refine (ev_aload_n dX9_handsTake_37 rfl).trans ?_
      refine (ev_getR dX9_handsTake_38 f_9_38 rfl).trans ((and_iff_right (by decide)).trans ?_)
      refine (ev_getR dX9_handsTake_41 f_9_143 rfl).trans ((and_iff_right (by decide)).trans ?_)
      refine (ev_bipush dX9_handsTake_44 (w := 20) (by decide)).trans ?_
      refine (ev_iload_n dX9_handsTake_46 rfl).trans ?_
      refine (ev_imul dX9_handsTake_47).trans ?_
      refine (ev_iald2 dX9_handsTake_48 (by decide) (v := (μ2 (r0 + 1) 65 o0 (20 * x1).toNatClampNeg)) (rfl)).trans (and_congr_right fun _ => ?_)
      refine (ev_istore_n dX9_handsTake_49 (Nat.le_of_ble_eq_true rfl) rfl).trans ?_
      refine (ev_aload_n dX9_handsTake_50 rfl).trans ?_
      refine (ev_iload_n dX9_handsTake_51 rfl).trans ?_
      refine (ev_virV dX9_handsTake_52 c_9_156 (by decide) (As := [.inl x1]) rfl rfl rfl rfl (Nat.le_of_ble_eq_true rfl)).trans ((and_iff_right (by decide)).trans (exists_congr fun μ3 => and_congr_right fun _ => ?_))
      refine (ev_aload_n dX9_handsTake_55 rfl).trans ?_
      refine (ev_iload_n dX9_handsTake_56 rfl).trans ?_
      refine (ev_virV dX9_handsTake_57 c_9_152 (by decide) (As := [.inl (μ2 (r0 + 1) 65 o0 (20 * x1).toNatClampNeg)]) rfl rfl rfl rfl (Nat.le_of_ble_eq_true rfl)).trans ((and_iff_right (by decide)).trans (exists_congr fun μ4 => and_congr_right fun _ => ?_))
      refine (ev_goto dX9_handsTake_60 (t := 10) (by decide)).trans ?_
      exact Iff.rfl
theorem B110_63 {C : Nat → List AV → Mem → Res → Prop} {μ : Mem} {res : Res} {x1 : Int32} {r0 o0 : Nat} {u2 : Option AV} : EvE C 110 63 [some (.inr (r0, 40, o0)), some (.inl x1), u2] [] μ res ↔ EvE C 110 2 [some (.inr (r0, 40, o0)), some (.inl (x1 + 1)), u2] [] μ res := by
  refine (ev_iinc dX9_handsTake_63 rfl (w := 1) (by decide) rfl).trans ?_
  refine (ev_goto dX9_handsTake_66 (t := 2) (by decide)).trans ?_
  exact Iff.rfl
/-! X9_guestsCome -/
theorem B111_0 {C : Nat → List AV → Mem → Res → Prop} {μ : Mem} {res : Res} {r0 o0 : Nat} : EvE C 111 0 [some (.inr (r0, 40, o0)), none, none, none] [] μ res ↔ (((μ r0 40 o0 14) = 0 → EvE C 111 43 [some (.inr (r0, 40, o0)), some (.inl 0), some (.inl 0), none] [] μ res) ∧ (¬ ((μ r0 40 o0 14) = 0) → EvE C 111 9 [some (.inr (r0, 40, o0)), some (.inl 0), none, none] [] μ res)) := by
  refine (ev_aload_n dX9_guestsCome_0 rfl).trans ?_
  refine (ev_getI2 dX9_guestsCome_1 f_9_240 rfl (v := (μ r0 40 o0 14)) (rfl)).trans ((and_iff_right (by decide)).trans ?_)
  refine (ev_ifc dX9_guestsCome_4 (t := 39) (by decide)).trans (and_congr (imp_congr Iff.rfl ?_) (imp_congr Iff.rfl ?_))
  · refine (ev_iconst dX9_guestsCome_39 (w := 0) (by decide)).trans ?_
    refine (ev_istore_n dX9_guestsCome_40 (Nat.le_of_ble_eq_true rfl) rfl).trans ?_
    refine (ev_iconst dX9_guestsCome_41 (w := 0) (by decide)).trans ?_
    refine (ev_istore_n dX9_guestsCome_42 (Nat.le_of_ble_eq_true rfl) rfl).trans ?_
    exact Iff.rfl
  · refine (ev_iconst dX9_guestsCome_7 (w := 0) (by decide)).trans ?_
    refine (ev_istore_n dX9_guestsCome_8 (Nat.le_of_ble_eq_true rfl) rfl).trans ?_
    exact Iff.rfl
theorem B111_9 {C : Nat → List AV → Mem → Res → Prop} {μ : Mem} {res : Res} {x1 : Int32} {r0 o0 : Nat} {u2 u3 : Option AV} : EvE C 111 9 [some (.inr (r0, 40, o0)), some (.inl x1), u2, u3] [] μ res ↔ (((μ r0 40 o0 16) ≤ x1 → EvE C 111 148 [some (.inr (r0, 40, o0)), some (.inl x1), u2, u3] [] (mset μ r0 40 o0 16 0) res) ∧ (¬ ((μ r0 40 o0 16) ≤ x1) → ∃ μ1, C 103 [.inr (r0, 40, o0), .inl (μ r0 40 o0 15)] μ (none, μ1) ∧ EvE C 111 9 [some (.inr (r0, 40, o0)), some (.inl (x1 + 1)), u2, u3] [] μ1 res)) := by
  refine (ev_iload_n dX9_guestsCome_9 rfl).trans ?_
  refine (ev_aload_n dX9_guestsCome_10 rfl).trans ?_
  refine (ev_getI2 dX9_guestsCome_11 f_9_243 rfl (v := (μ r0 40 o0 16)) (rfl)).trans ((and_iff_right (by decide)).trans ?_)
  refine (ev_icmp dX9_guestsCome_14 (t := 31) (by decide)).trans (and_congr (imp_congr Iff.rfl ?_) (imp_congr Iff.rfl ?_))
  · refine (ev_aload_n dX9_guestsCome_31 rfl).trans ?_
    refine (ev_iconst dX9_guestsCome_32 (w := 0) (by decide)).trans ?_
    refine (ev_put dX9_guestsCome_33 f_9_243 rfl (by decide)).trans ((and_iff_right (by decide)).trans ?_)
    refine (ev_goto dX9_guestsCome_36 (t := 148) (by decide)).trans ?_
    exact Iff.rfl
  · refine (ev_aload_n dX9_guestsCome_17 rfl).trans ?_
    refine (ev_aload_n dX9_guestsCome_18 rfl).trans ?_
    refine (ev_getI2 dX9_guestsCome_19 f_9_246 rfl (v := (μ r0 40 o0 15)) (rfl)).trans ((and_iff_right (by decide)).trans ?_)
    refine (ev_virV dX9_guestsCome_22 c_9_249 (by decide) (As := [.inl (μ r0 40 o0 15)]) rfl rfl rfl rfl (Nat.le_of_ble_eq_true rfl)).trans ((and_iff_right (by decide)).trans (exists_congr fun μ1 => and_congr_right fun _ => ?_))
    refine (ev_iinc dX9_guestsCome_25 rfl (w := 1) (by decide) rfl).trans ?_
    refine (ev_goto dX9_guestsCome_28 (t := 9) (by decide)).trans ?_
    exact Iff.rfl
theorem B111_43 {C : Nat → List AV → Mem → Res → Prop} {μ : Mem} {res : Res} {x1 x2 : Int32} {r0 o0 : Nat} {u3 : Option AV} : EvE C 111 43 [some (.inr (r0, 40, o0)), some (.inl x1), some (.inl x2), u3] [] μ res ↔ (((μ r0 40 o0 8) ≤ x2 → EvE C 111 148 [some (.inr (r0, 40, o0)), some (.inl x1), some (.inl x2), u3] [] (mset μ r0 40 o0 8 x1) res) ∧ (¬ ((μ r0 40 o0 8) ≤ x2) → vp_in x2 40 ∧ ((¬ (μ r0 43 o0 x2.toNatClampNeg) = (μ (r0 + 1) 60 o0 0) → vp_in x2 40 ∧ vp_in x1 40 ∧ vp_in x2 40 ∧ vp_in x1 40 ∧ vp_in x2 40 ∧ vp_in x1 40 ∧ EvE C 111 137 [some (.inr (r0, 40, o0)), some (.inl (x1 + 1)), some (.inl x2), u3] [] (mset (mset (mset μ r0 43 o0 x1.toNatClampNeg (μ r0 43 o0 x2.toNatClampNeg)) r0 44 o0 x1.toNatClampNeg (μ r0 44 o0 x2.toNatClampNeg)) r0 45 o0 x1.toNatClampNeg (μ r0 45 o0 x2.toNatClampNeg)) res) ∧ (¬ (¬ (μ r0 43 o0 x2.toNatClampNeg) = (μ (r0 + 1) 60 o0 0)) → EvE C 111 69 [some (.inr (r0, 40, o0)), some (.inl x1), some (.inl x2), some (.inl 0)] [] μ res)))) := by
  refine (ev_iload_n dX9_guestsCome_43 rfl).trans ?_
  refine (ev_aload_n dX9_guestsCome_44 rfl).trans ?_
  refine (ev_getI2 dX9_guestsCome_45 f_9_90 rfl (v := (μ r0 40 o0 8)) (rfl)).trans ((and_iff_right (by decide)).trans ?_)
  refine (ev_icmp dX9_guestsCome_48 (t := 143) (by decide)).trans (and_congr (imp_congr Iff.rfl ?_) (imp_congr Iff.rfl ?_))
  · refine (ev_aload_n dX9_guestsCome_143 rfl).trans ?_
    refine (ev_iload_n dX9_guestsCome_144 rfl).trans ?_
    refine (ev_put dX9_guestsCome_145 f_9_90 rfl (by decide)).trans ((and_iff_right (by decide)).trans ?_)
    exact Iff.rfl
  · refine (ev_aload_n dX9_guestsCome_51 rfl).trans ?_
    refine (ev_getR dX9_guestsCome_52 f_9_20 rfl).trans ((and_iff_right (by decide)).trans ?_)
    refine (ev_iload_n dX9_guestsCome_55 rfl).trans ?_
    refine (ev_iald2 dX9_guestsCome_56 (by decide) (v := (μ r0 43 o0 x2.toNatClampNeg)) (rfl)).trans (and_congr_right fun _ => ?_)
    refine (ev_aload_n dX9_guestsCome_57 rfl).trans ?_
    refine (ev_getR dX9_guestsCome_58 f_9_38 rfl).trans ((and_iff_right (by decide)).trans ?_)
    refine (ev_getI2 dX9_guestsCome_61 f_9_68 rfl (v := (μ (r0 + 1) 60 o0 0)) (rfl)).trans ((and_iff_right (by decide)).trans ?_)
    refine (ev_icmp dX9_guestsCome_64 (t := 98) (by decide)).trans (and_congr (imp_congr Iff.rfl ?_) (imp_congr Iff.rfl ?_))
    · refine (ev_aload_n dX9_guestsCome_98 rfl).trans ?_
      refine (ev_getR dX9_guestsCome_99 f_9_20 rfl).trans ((and_iff_right (by decide)).trans ?_)
      refine (ev_iload_n dX9_guestsCome_102 rfl).trans ?_
      refine (ev_aload_n dX9_guestsCome_103 rfl).trans ?_
      refine (ev_getR dX9_guestsCome_104 f_9_20 rfl).trans ((and_iff_right (by decide)).trans ?_)
      refine (ev_iload_n dX9_guestsCome_107 rfl).trans ?_
      refine (ev_iald2 dX9_guestsCome_108 (by decide) (v := (μ r0 43 o0 x2.toNatClampNeg)) (rfl)).trans (and_congr_right fun _ => ?_)
      refine (ev_iast dX9_guestsCome_109 (by decide)).trans (and_congr_right fun _ => ?_)
      refine (ev_aload_n dX9_guestsCome_110 rfl).trans ?_
      refine (ev_getR dX9_guestsCome_111 f_9_23 rfl).trans ((and_iff_right (by decide)).trans ?_)
      refine (ev_iload_n dX9_guestsCome_114 rfl).trans ?_
      refine (ev_aload_n dX9_guestsCome_115 rfl).trans ?_
      refine (ev_getR dX9_guestsCome_116 f_9_23 rfl).trans ((and_iff_right (by decide)).trans ?_)
      refine (ev_iload_n dX9_guestsCome_119 rfl).trans ?_
      refine (ev_iald2 dX9_guestsCome_120 (by decide) (v := (μ r0 44 o0 x2.toNatClampNeg)) ((mget_a (by decide)).trans (rfl))).trans (and_congr_right fun _ => ?_)
      refine (ev_iast dX9_guestsCome_121 (by decide)).trans (and_congr_right fun _ => ?_)
      refine (ev_aload_n dX9_guestsCome_122 rfl).trans ?_
      refine (ev_getR dX9_guestsCome_123 f_9_26 rfl).trans ((and_iff_right (by decide)).trans ?_)
      refine (ev_iload_n dX9_guestsCome_126 rfl).trans ?_
      refine (ev_aload_n dX9_guestsCome_127 rfl).trans ?_
      refine (ev_getR dX9_guestsCome_128 f_9_26 rfl).trans ((and_iff_right (by decide)).trans ?_)
      refine (ev_iload_n dX9_guestsCome_131 rfl).trans ?_
      refine (ev_iald2 dX9_guestsCome_132 (by decide) (v := (μ r0 45 o0 x2.toNatClampNeg)) ((mget_a (by decide)).trans ((mget_a (by decide)).trans (rfl)))).trans (and_congr_right fun _ => ?_)
      refine (ev_iast dX9_guestsCome_133 (by decide)).trans (and_congr_right fun _ => ?_)
      refine (ev_iinc dX9_guestsCome_134 rfl (w := 1) (by decide) rfl).trans ?_
      exact Iff.rfl
    · refine (ev_iconst dX9_guestsCome_67 (w := 0) (by decide)).trans ?_
      refine (ev_istore_n dX9_guestsCome_68 (Nat.le_of_ble_eq_true rfl) rfl).trans ?_
      exact Iff.rfl
theorem B111_69 {C : Nat → List AV → Mem → Res → Prop} {μ : Mem} {res : Res} {x1 x2 x3 : Int32} {r0 o0 : Nat} : EvE C 111 69 [some (.inr (r0, 40, o0)), some (.inl x1), some (.inl x2), some (.inl x3)] [] μ res ↔ vp_in x2 40 ∧ (((μ r0 45 o0 x2.toNatClampNeg) ≤ x3 → EvE C 111 137 [some (.inr (r0, 40, o0)), some (.inl x1), some (.inl x2), some (.inl x3)] [] μ res) ∧ (¬ ((μ r0 45 o0 x2.toNatClampNeg) ≤ x3) → vp_in x2 40 ∧ ∃ μ1, C 103 [.inr (r0, 40, o0), .inl (μ r0 44 o0 x2.toNatClampNeg)] μ (none, μ1) ∧ EvE C 111 69 [some (.inr (r0, 40, o0)), some (.inl x1), some (.inl x2), some (.inl (x3 + 1))] [] μ1 res)) := by
  refine (ev_iload_n dX9_guestsCome_69 rfl).trans ?_
  refine (ev_aload_n dX9_guestsCome_70 rfl).trans ?_
  refine (ev_getR dX9_guestsCome_71 f_9_26 rfl).trans ((and_iff_right (by decide)).trans ?_)
  refine (ev_iload_n dX9_guestsCome_74 rfl).trans ?_
  refine (ev_iald2 dX9_guestsCome_75 (by decide) (v := (μ r0 45 o0 x2.toNatClampNeg)) (rfl)).trans (and_congr_right fun _ => ?_)
  refine (ev_icmp dX9_guestsCome_76 (t := 95) (by decide)).trans (and_congr (imp_congr Iff.rfl ?_) (imp_congr Iff.rfl ?_))
  · refine (ev_goto dX9_guestsCome_95 (t := 137) (by decide)).trans ?_
    exact Iff.rfl
  · refine (ev_aload_n dX9_guestsCome_79 rfl).trans ?_
    refine (ev_aload_n dX9_guestsCome_80 rfl).trans ?_
    refine (ev_getR dX9_guestsCome_81 f_9_23 rfl).trans ((and_iff_right (by decide)).trans ?_)
    refine (ev_iload_n dX9_guestsCome_84 rfl).trans ?_
    refine (ev_iald2 dX9_guestsCome_85 (by decide) (v := (μ r0 44 o0 x2.toNatClampNeg)) (rfl)).trans (and_congr_right fun _ => ?_)
    refine (ev_virV dX9_guestsCome_86 c_9_249 (by decide) (As := [.inl (μ r0 44 o0 x2.toNatClampNeg)]) rfl rfl rfl rfl (Nat.le_of_ble_eq_true rfl)).trans ((and_iff_right (by decide)).trans (exists_congr fun μ1 => and_congr_right fun _ => ?_))
    refine (ev_iinc dX9_guestsCome_89 rfl (w := 1) (by decide) rfl).trans ?_
    refine (ev_goto dX9_guestsCome_92 (t := 69) (by decide)).trans ?_
    exact Iff.rfl
theorem B111_137 {C : Nat → List AV → Mem → Res → Prop} {μ : Mem} {res : Res} {x1 x2 : Int32} {r0 o0 : Nat} {u3 : Option AV} : EvE C 111 137 [some (.inr (r0, 40, o0)), some (.inl x1), some (.inl x2), u3] [] μ res ↔ EvE C 111 43 [some (.inr (r0, 40, o0)), some (.inl x1), some (.inl (x2 + 1)), u3] [] μ res := by
  refine (ev_iinc dX9_guestsCome_137 rfl (w := 1) (by decide) rfl).trans ?_
  refine (ev_goto dX9_guestsCome_140 (t := 43) (by decide)).trans ?_
  exact Iff.rfl
theorem B111_148 {C : Nat → List AV → Mem → Res → Prop} {μ : Mem} {res : Res} {x1 : Int32} {r0 o0 : Nat} {u2 u3 : Option AV} : EvE C 111 148 [some (.inr (r0, 40, o0)), some (.inl x1), u2, u3] [] μ res ↔ EvE C 111 150 [some (.inr (r0, 40, o0)), some (.inl 0), u2, u3] [] μ res := by
  refine (ev_iconst dX9_guestsCome_148 (w := 0) (by decide)).trans ?_
  refine (ev_istore_n dX9_guestsCome_149 (Nat.le_of_ble_eq_true rfl) rfl).trans ?_
  exact Iff.rfl
theorem B111_150 {C : Nat → List AV → Mem → Res → Prop} {μ : Mem} {res : Res} {x1 : Int32} {r0 o0 : Nat} {u2 u3 : Option AV} : EvE C 111 150 [some (.inr (r0, 40, o0)), some (.inl x1), u2, u3] [] μ res ↔ (((μ r0 40 o0 9) ≤ 0 → EvE C 111 205 [some (.inr (r0, 40, o0)), some (.inl x1), u2, u3] [] μ res) ∧ (¬ ((μ r0 40 o0 9) ≤ 0) → ¬ (μ r0 40 o0 9) = 0 ∧ vp_in ((μ (r0 + 1) 60 o0 0) - (μ (r0 + 1) 60 o0 0) / (μ r0 40 o0 9) * (μ r0 40 o0 9)) 12 ∧ (((μ r0 47 o0 ((μ (r0 + 1) 60 o0 0) - (μ (r0 + 1) 60 o0 0) / (μ r0 40 o0 9) * (μ r0 40 o0 9)).toNatClampNeg) ≤ x1 → EvE C 111 205 [some (.inr (r0, 40, o0)), some (.inl x1), u2, u3] [] μ res) ∧ (¬ ((μ r0 47 o0 ((μ (r0 + 1) 60 o0 0) - (μ (r0 + 1) 60 o0 0) / (μ r0 40 o0 9) * (μ r0 40 o0 9)).toNatClampNeg) ≤ x1) → ¬ (μ r0 40 o0 9) = 0 ∧ vp_in ((μ (r0 + 1) 60 o0 0) - (μ (r0 + 1) 60 o0 0) / (μ r0 40 o0 9) * (μ r0 40 o0 9)) 12 ∧ ∃ μ1, C 103 [.inr (r0, 40, o0), .inl (μ r0 46 o0 ((μ (r0 + 1) 60 o0 0) - (μ (r0 + 1) 60 o0 0) / (μ r0 40 o0 9) * (μ r0 40 o0 9)).toNatClampNeg)] μ (none, μ1) ∧ EvE C 111 150 [some (.inr (r0, 40, o0)), some (.inl (x1 + 1)), u2, u3] [] μ1 res)))) := by
  refine (ev_aload_n dX9_guestsCome_150 rfl).trans ?_
  refine (ev_getI2 dX9_guestsCome_151 f_9_93 rfl (v := (μ r0 40 o0 9)) (rfl)).trans ((and_iff_right (by decide)).trans ?_)
  refine (ev_ifc dX9_guestsCome_154 (t := 205) (by decide)).trans (and_congr (imp_congr Iff.rfl ?_) (imp_congr Iff.rfl ?_))
  · exact Iff.rfl
  · refine (ev_iload_n dX9_guestsCome_157 rfl).trans ?_
    refine (ev_aload_n dX9_guestsCome_158 rfl).trans ?_
    refine (ev_getR dX9_guestsCome_159 f_9_32 rfl).trans ((and_iff_right (by decide)).trans ?_)
    refine (ev_aload_n dX9_guestsCome_162 rfl).trans ?_
    refine (ev_getR dX9_guestsCome_163 f_9_38 rfl).trans ((and_iff_right (by decide)).trans ?_)
    refine (ev_getI2 dX9_guestsCome_166 f_9_68 rfl (v := (μ (r0 + 1) 60 o0 0)) (rfl)).trans ((and_iff_right (by decide)).trans ?_)
    refine (ev_aload_n dX9_guestsCome_169 rfl).trans ?_
    refine (ev_getI2 dX9_guestsCome_170 f_9_93 rfl (v := (μ r0 40 o0 9)) (rfl)).trans ((and_iff_right (by decide)).trans ?_)
    refine (ev_irem dX9_guestsCome_173).trans (and_congr_right fun _ => ?_)
    refine (ev_iald2 dX9_guestsCome_174 (by decide) (v := (μ r0 47 o0 ((μ (r0 + 1) 60 o0 0) - (μ (r0 + 1) 60 o0 0) / (μ r0 40 o0 9) * (μ r0 40 o0 9)).toNatClampNeg)) (rfl)).trans (and_congr_right fun _ => ?_)
    refine (ev_icmp dX9_guestsCome_175 (t := 205) (by decide)).trans (and_congr (imp_congr Iff.rfl ?_) (imp_congr Iff.rfl ?_))
    · exact Iff.rfl
    · refine (ev_aload_n dX9_guestsCome_178 rfl).trans ?_
      refine (ev_aload_n dX9_guestsCome_179 rfl).trans ?_
      refine (ev_getR dX9_guestsCome_180 f_9_29 rfl).trans ((and_iff_right (by decide)).trans ?_)
      refine (ev_aload_n dX9_guestsCome_183 rfl).trans ?_
      refine (ev_getR dX9_guestsCome_184 f_9_38 rfl).trans ((and_iff_right (by decide)).trans ?_)
      refine (ev_getI2 dX9_guestsCome_187 f_9_68 rfl (v := (μ (r0 + 1) 60 o0 0)) (rfl)).trans ((and_iff_right (by decide)).trans ?_)
      refine (ev_aload_n dX9_guestsCome_190 rfl).trans ?_
      refine (ev_getI2 dX9_guestsCome_191 f_9_93 rfl (v := (μ r0 40 o0 9)) (rfl)).trans ((and_iff_right (by decide)).trans ?_)
      refine (ev_irem dX9_guestsCome_194).trans (and_congr_right fun _ => ?_)
      refine (ev_iald2 dX9_guestsCome_195 (by decide) (v := (μ r0 46 o0 ((μ (r0 + 1) 60 o0 0) - (μ (r0 + 1) 60 o0 0) / (μ r0 40 o0 9) * (μ r0 40 o0 9)).toNatClampNeg)) (rfl)).trans (and_congr_right fun _ => ?_)
      refine (ev_virV dX9_guestsCome_196 c_9_249 (by decide) (As := [.inl (μ r0 46 o0 ((μ (r0 + 1) 60 o0 0) - (μ (r0 + 1) 60 o0 0) / (μ r0 40 o0 9) * (μ r0 40 o0 9)).toNatClampNeg)]) rfl rfl rfl rfl (Nat.le_of_ble_eq_true rfl)).trans ((and_iff_right (by decide)).trans (exists_congr fun μ1 => and_congr_right fun _ => ?_))
      refine (ev_iinc dX9_guestsCome_199 rfl (w := 1) (by decide) rfl).trans ?_
      refine (ev_goto dX9_guestsCome_202 (t := 150) (by decide)).trans ?_
      exact Iff.rfl
theorem B111_205 {C : Nat → List AV → Mem → Res → Prop} {μ : Mem} {res : Res} {x1 : Int32} {r0 o0 : Nat} {u2 u3 : Option AV} : EvE C 111 205 [some (.inr (r0, 40, o0)), some (.inl x1), u2, u3] [] μ res ↔ res = (none, μ) := by
  exact ev_return dX9_guestsCome_205 rfl
/-! X9_oneTick -/
theorem B112_0 {C : Nat → List AV → Mem → Res → Prop} {μ : Mem} {res : Res} {r0 o0 : Nat} : EvE C 112 0 [some (.inr (r0, 40, o0))] [] μ res ↔ ∃ μ1, C 106 [.inr (r0, 40, o0)] (mset (mset μ (r0 + 1) 60 o0 0 ((μ (r0 + 1) 60 o0 0) + 1)) (r0 + 1) 60 o0 28 1) (none, μ1) ∧ ∃ μ2, C 107 [.inr (r0, 40, o0)] μ1 (none, μ2) ∧ ∃ μ3, C 108 [.inr (r0, 40, o0)] μ2 (none, μ3) ∧ ∃ μ4, C 109 [.inr (r0, 40, o0)] μ3 (none, μ4) ∧ ∃ μ5, C 110 [.inr (r0, 40, o0)] μ4 (none, μ5) ∧ ∃ μ6, C 111 [.inr (r0, 40, o0)] μ5 (none, μ6) ∧ res = (none, μ6) := by
  refine (ev_aload_n dX9_oneTick_0 rfl).trans ?_
  refine (ev_getR dX9_oneTick_1 f_9_38 rfl).trans ((and_iff_right (by decide)).trans ?_)
  refine (ev_dup dX9_oneTick_4).trans ?_
  refine (ev_getI2 dX9_oneTick_5 f_9_68 rfl (v := (μ (r0 + 1) 60 o0 0)) (rfl)).trans ((and_iff_right (by decide)).trans ?_)
  refine (ev_iconst dX9_oneTick_8 (w := 1) (by decide)).trans ?_
  refine (ev_iadd dX9_oneTick_9).trans ?_
  refine (ev_put dX9_oneTick_10 f_9_68 rfl (by decide)).trans ((and_iff_right (by decide)).trans ?_)
  refine (ev_aload_n dX9_oneTick_13 rfl).trans ?_
  refine (ev_getR dX9_oneTick_14 f_9_38 rfl).trans ((and_iff_right (by decide)).trans ?_)
  refine (ev_iconst dX9_oneTick_17 (w := 1) (by decide)).trans ?_
  refine (ev_putZ dX9_oneTick_18 f_9_51 rfl (by decide)).trans ((and_iff_right ⟨by decide, by decide⟩).trans ?_)
  refine (ev_aload_n dX9_oneTick_21 rfl).trans ?_
  refine (ev_virV dX9_oneTick_22 c_9_252 (by decide) (As := []) rfl rfl rfl rfl (Nat.le_of_ble_eq_true rfl)).trans ((and_iff_right (by decide)).trans (exists_congr fun μ1 => and_congr_right fun _ => ?_))
  refine (ev_aload_n dX9_oneTick_25 rfl).trans ?_
  refine (ev_virV dX9_oneTick_26 c_9_255 (by decide) (As := []) rfl rfl rfl rfl (Nat.le_of_ble_eq_true rfl)).trans ((and_iff_right (by decide)).trans (exists_congr fun μ2 => and_congr_right fun _ => ?_))
  refine (ev_aload_n dX9_oneTick_29 rfl).trans ?_
  refine (ev_virV dX9_oneTick_30 c_9_258 (by decide) (As := []) rfl rfl rfl rfl (Nat.le_of_ble_eq_true rfl)).trans ((and_iff_right (by decide)).trans (exists_congr fun μ3 => and_congr_right fun _ => ?_))
  refine (ev_aload_n dX9_oneTick_33 rfl).trans ?_
  refine (ev_virV dX9_oneTick_34 c_9_261 (by decide) (As := []) rfl rfl rfl rfl (Nat.le_of_ble_eq_true rfl)).trans ((and_iff_right (by decide)).trans (exists_congr fun μ4 => and_congr_right fun _ => ?_))
  refine (ev_aload_n dX9_oneTick_37 rfl).trans ?_
  refine (ev_virV dX9_oneTick_38 c_9_264 (by decide) (As := []) rfl rfl rfl rfl (Nat.le_of_ble_eq_true rfl)).trans ((and_iff_right (by decide)).trans (exists_congr fun μ5 => and_congr_right fun _ => ?_))
  refine (ev_aload_n dX9_oneTick_41 rfl).trans ?_
  refine (ev_virV dX9_oneTick_42 c_9_267 (by decide) (As := []) rfl rfl rfl rfl (Nat.le_of_ble_eq_true rfl)).trans ((and_iff_right (by decide)).trans (exists_congr fun μ6 => and_congr_right fun _ => ?_))
  exact ev_return dX9_oneTick_45 rfl
/-! X9_ticks -/
theorem B113_0 {C : Nat → List AV → Mem → Res → Prop} {μ : Mem} {res : Res} {x1 : Int32} {r0 o0 : Nat} : EvE C 113 0 [some (.inr (r0, 40, o0)), some (.inl x1), none] [] μ res ↔ ∃ v1 μ1, C 74 [.inl x1, .inl 1, .inl 500] μ (some v1, μ1) ∧ ((v1 = 0 → EvE C 113 25 [some (.inr (r0, 40, o0)), some (.inl x1), none] [] μ1 res) ∧ (¬ (v1 = 0) → ((((μ1 (r0 + 1) 60 o0 0) + x1) ≤ 100000 → ((¬ (μ1 r0 40 o0 2) = 0 → EvE C 113 39 [some (.inr (r0, 40, o0)), some (.inl x1), some (.inl 0)] [] μ1 res) ∧ (¬ (¬ (μ1 r0 40 o0 2) = 0) → res = (some (-3), μ1)))) ∧ (¬ (((μ1 (r0 + 1) 60 o0 0) + x1) ≤ 100000) → EvE C 113 25 [some (.inr (r0, 40, o0)), some (.inl x1), none] [] μ1 res)))) := by
  refine (ev_iload_n dX9_ticks_0 rfl).trans ?_
  refine (ev_iconst dX9_ticks_1 (w := 1) (by decide)).trans ?_
  refine (ev_sipush dX9_ticks_2 (w := 500) (by decide)).trans ?_
  refine (ev_staI dX9_ticks_5 c_9_64 (by decide) (As := [.inl x1, .inl 1, .inl 500]) rfl rfl (by decide) rfl (Nat.le_of_ble_eq_true rfl)).trans (exists_congr fun v1 => exists_congr fun μ1 => and_congr_right fun _ => ?_)
  refine (ev_ifc dX9_ticks_8 (t := 25) (by decide)).trans (and_congr (imp_congr Iff.rfl ?_) (imp_congr Iff.rfl ?_))
  · exact Iff.rfl
  · refine (ev_aload_n dX9_ticks_11 rfl).trans ?_
    refine (ev_getR dX9_ticks_12 f_9_38 rfl).trans ((and_iff_right (by decide)).trans ?_)
    refine (ev_getI2 dX9_ticks_15 f_9_68 rfl (v := (μ1 (r0 + 1) 60 o0 0)) (rfl)).trans ((and_iff_right (by decide)).trans ?_)
    refine (ev_iload_n dX9_ticks_18 rfl).trans ?_
    refine (ev_iadd dX9_ticks_19).trans ?_
    refine (ev_ldc dX9_ticks_20 (w := 100000) (by decide)).trans ?_
    refine (ev_icmp dX9_ticks_22 (t := 27) (by decide)).trans (and_congr (imp_congr Iff.rfl ?_) (imp_congr Iff.rfl ?_))
    · refine (ev_aload_n dX9_ticks_27 rfl).trans ?_
      refine (ev_getI2 dX9_ticks_28 f_9_61 rfl (v := (μ1 r0 40 o0 2)) (rfl)).trans ((and_iff_right (by decide)).trans ?_)
      refine (ev_ifc dX9_ticks_31 (t := 37) (by decide)).trans (and_congr (imp_congr Iff.rfl ?_) (imp_congr Iff.rfl ?_))
      · refine (ev_iconst dX9_ticks_37 (w := 0) (by decide)).trans ?_
        refine (ev_istore_n dX9_ticks_38 (Nat.le_of_ble_eq_true rfl) rfl).trans ?_
        exact Iff.rfl
      · refine (ev_bipush dX9_ticks_34 (w := (-3)) (by decide)).trans ?_
        exact ev_ireturn dX9_ticks_36 rfl
    · exact Iff.rfl
theorem B113_25 {C : Nat → List AV → Mem → Res → Prop} {μ : Mem} {res : Res} {x1 : Int32} {r0 o0 : Nat} {u2 : Option AV} : EvE C 113 25 [some (.inr (r0, 40, o0)), some (.inl x1), u2] [] μ res ↔ res = (some (-1), μ) := by
  refine (ev_iconst dX9_ticks_25 (w := (-1)) (by decide)).trans ?_
  exact ev_ireturn dX9_ticks_26 rfl
theorem B113_39 {C : Nat → List AV → Mem → Res → Prop} {μ : Mem} {res : Res} {x1 x2 : Int32} {r0 o0 : Nat} : EvE C 113 39 [some (.inr (r0, 40, o0)), some (.inl x1), some (.inl x2)] [] μ res ↔ ((x1 ≤ x2 → res = (some (μ (r0 + 1) 60 o0 0), μ)) ∧ (¬ (x1 ≤ x2) → ∃ μ1, C 112 [.inr (r0, 40, o0)] μ (none, μ1) ∧ EvE C 113 39 [some (.inr (r0, 40, o0)), some (.inl x1), some (.inl (x2 + 1))] [] μ1 res)) := by
  refine (ev_iload_n dX9_ticks_39 rfl).trans ?_
  refine (ev_iload_n dX9_ticks_40 rfl).trans ?_
  refine (ev_icmp dX9_ticks_41 (t := 54) (by decide)).trans (and_congr (imp_congr Iff.rfl ?_) (imp_congr Iff.rfl ?_))
  · refine (ev_aload_n dX9_ticks_54 rfl).trans ?_
    refine (ev_getR dX9_ticks_55 f_9_38 rfl).trans ((and_iff_right (by decide)).trans ?_)
    refine (ev_getI2 dX9_ticks_58 f_9_68 rfl (v := (μ (r0 + 1) 60 o0 0)) (rfl)).trans ((and_iff_right (by decide)).trans ?_)
    exact ev_ireturn dX9_ticks_61 rfl
  · refine (ev_aload_n dX9_ticks_44 rfl).trans ?_
    refine (ev_virV dX9_ticks_45 c_9_270 (by decide) (As := []) rfl rfl rfl rfl (Nat.le_of_ble_eq_true rfl)).trans ((and_iff_right (by decide)).trans (exists_congr fun μ1 => and_congr_right fun _ => ?_))
    refine (ev_iinc dX9_ticks_48 rfl (w := 1) (by decide) rfl).trans ?_
    refine (ev_goto dX9_ticks_51 (t := 39) (by decide)).trans ?_
    exact Iff.rfl
/-! X9_about -/
theorem B114_0 {C : Nat → List AV → Mem → Res → Prop} {μ : Mem} {res : Res} {x1 x2 : Int32} {r0 o0 : Nat} : EvE C 114 0 [some (.inr (r0, 40, o0)), some (.inl x1), some (.inl x2), none, none] [] μ res ↔ ∃ v1 μ1, C 75 [.inr (r0, 40, o0), .inl x1] μ (some v1, μ1) ∧ ((v1 = 0 → EvE C 114 18 [some (.inr (r0, 40, o0)), some (.inl x1), some (.inl x2), none, none] [] μ1 res) ∧ (¬ (v1 = 0) → ∃ v2 μ2, C 74 [.inl x2, .inl 0, .inl 12] μ1 (some v2, μ2) ∧ ((¬ v2 = 0 → ((4 ≤ x2 → ((¬ x2 = 4 → ((¬ x2 = 5 → vp_in ((13 * x1) + x2) 78 ∧ EvE C 114 146 [some (.inr (r0, 40, o0)), some (.inl x1), some (.inl x2), none, none] [.inl (μ2 (r0 + 1) 63 o0 ((13 * x1) + x2).toNatClampNeg)] μ2 res) ∧ (¬ (¬ x2 = 5) → vp_in x1 6 ∧ EvE C 114 146 [some (.inr (r0, 40, o0)), some (.inl x1), some (.inl x2), none, none] [.inl (μ2 (r0 + 1) 62 o0 x1.toNatClampNeg)] μ2 res))) ∧ (¬ (¬ x2 = 4) → ∃ v3 μ3, C 100 [.inr (r0, 40, o0), .inl x1] μ2 (some v3, μ3) ∧ ((v3 = 0 → EvE C 114 146 [some (.inr (r0, 40, o0)), some (.inl x1), some (.inl x2), none, none] [.inl (-1)] μ3 res) ∧ (¬ (v3 = 0) → vp_in x1 6 ∧ EvE C 114 146 [some (.inr (r0, 40, o0)), some (.inl x1), some (.inl x2), none, none] [.inl (μ3 (r0 + 1) 61 o0 x1.toNatClampNeg)] μ3 res))))) ∧ (¬ (4 ≤ x2) → EvE C 114 30 [some (.inr (r0, 40, o0)), some (.inl x1), some (.inl x2), some (.inl 0), some (.inl 0)] [] μ2 res))) ∧ (¬ (¬ v2 = 0) → EvE C 114 18 [some (.inr (r0, 40, o0)), some (.inl x1), some (.inl x2), none, none] [] μ2 res)))) := by
  refine (ev_aload_n dX9_about_0 rfl).trans ?_
  refine (ev_iload_n dX9_about_1 rfl).trans ?_
  refine (ev_virI dX9_about_2 c_9_71 (by decide) (As := [.inl x1]) rfl rfl (by decide) rfl (Nat.le_of_ble_eq_true rfl)).trans ((and_iff_right (by decide)).trans (exists_congr fun v1 => exists_congr fun μ1 => and_congr_right fun _ => ?_))
  refine (ev_ifc dX9_about_5 (t := 18) (by decide)).trans (and_congr (imp_congr Iff.rfl ?_) (imp_congr Iff.rfl ?_))
  · exact Iff.rfl
  · refine (ev_iload_n dX9_about_8 rfl).trans ?_
    refine (ev_iconst dX9_about_9 (w := 0) (by decide)).trans ?_
    refine (ev_bipush dX9_about_10 (w := 12) (by decide)).trans ?_
    refine (ev_staI dX9_about_12 c_9_64 (by decide) (As := [.inl x2, .inl 0, .inl 12]) rfl rfl (by decide) rfl (Nat.le_of_ble_eq_true rfl)).trans (exists_congr fun v2 => exists_congr fun μ2 => and_congr_right fun _ => ?_)
    refine (ev_ifc dX9_about_15 (t := 20) (by decide)).trans (and_congr (imp_congr Iff.rfl ?_) (imp_congr Iff.rfl ?_))
    · refine (ev_iload_n dX9_about_20 rfl).trans ?_
      refine (ev_iconst dX9_about_21 (w := 4) (by decide)).trans ?_
      refine (ev_icmp dX9_about_22 (t := 86) (by decide)).trans (and_congr (imp_congr Iff.rfl ?_) (imp_congr Iff.rfl ?_))
      · refine (ev_iload_n dX9_about_86 rfl).trans ?_
        refine (ev_iconst dX9_about_87 (w := 4) (by decide)).trans ?_
        refine (ev_icmp dX9_about_88 (t := 115) (by decide)).trans (and_congr (imp_congr Iff.rfl ?_) (imp_congr Iff.rfl ?_))
        · refine (ev_iload_n dX9_about_115 rfl).trans ?_
          refine (ev_iconst dX9_about_116 (w := 5) (by decide)).trans ?_
          refine (ev_icmp dX9_about_117 (t := 132) (by decide)).trans (and_congr (imp_congr Iff.rfl ?_) (imp_congr Iff.rfl ?_))
          · refine (ev_aload_n dX9_about_132 rfl).trans ?_
            refine (ev_getR dX9_about_133 f_9_38 rfl).trans ((and_iff_right (by decide)).trans ?_)
            refine (ev_getR dX9_about_136 f_9_108 rfl).trans ((and_iff_right (by decide)).trans ?_)
            refine (ev_bipush dX9_about_139 (w := 13) (by decide)).trans ?_
            refine (ev_iload_n dX9_about_141 rfl).trans ?_
            refine (ev_imul dX9_about_142).trans ?_
            refine (ev_iload_n dX9_about_143 rfl).trans ?_
            refine (ev_iadd dX9_about_144).trans ?_
            refine (ev_iald2 dX9_about_145 (by decide) (v := (μ2 (r0 + 1) 63 o0 ((13 * x1) + x2).toNatClampNeg)) (rfl)).trans (and_congr_right fun _ => ?_)
            exact Iff.rfl
          · refine (ev_aload_n dX9_about_120 rfl).trans ?_
            refine (ev_getR dX9_about_121 f_9_38 rfl).trans ((and_iff_right (by decide)).trans ?_)
            refine (ev_getR dX9_about_124 f_9_200 rfl).trans ((and_iff_right (by decide)).trans ?_)
            refine (ev_iload_n dX9_about_127 rfl).trans ?_
            refine (ev_iald2 dX9_about_128 (by decide) (v := (μ2 (r0 + 1) 62 o0 x1.toNatClampNeg)) (rfl)).trans (and_congr_right fun _ => ?_)
            refine (ev_goto dX9_about_129 (t := 146) (by decide)).trans ?_
            exact Iff.rfl
        · refine (ev_aload_n dX9_about_91 rfl).trans ?_
          refine (ev_iload_n dX9_about_92 rfl).trans ?_
          refine (ev_virI dX9_about_93 c_9_209 (by decide) (As := [.inl x1]) rfl rfl (by decide) rfl (Nat.le_of_ble_eq_true rfl)).trans ((and_iff_right (by decide)).trans (exists_congr fun v3 => exists_congr fun μ3 => and_congr_right fun _ => ?_))
          refine (ev_ifc dX9_about_96 (t := 111) (by decide)).trans (and_congr (imp_congr Iff.rfl ?_) (imp_congr Iff.rfl ?_))
          · refine (ev_iconst dX9_about_111 (w := (-1)) (by decide)).trans ?_
            refine (ev_goto dX9_about_112 (t := 146) (by decide)).trans ?_
            exact Iff.rfl
          · refine (ev_aload_n dX9_about_99 rfl).trans ?_
            refine (ev_getR dX9_about_100 f_9_38 rfl).trans ((and_iff_right (by decide)).trans ?_)
            refine (ev_getR dX9_about_103 f_9_58 rfl).trans ((and_iff_right (by decide)).trans ?_)
            refine (ev_iload_n dX9_about_106 rfl).trans ?_
            refine (ev_iald2 dX9_about_107 (by decide) (v := (μ3 (r0 + 1) 61 o0 x1.toNatClampNeg)) (rfl)).trans (and_congr_right fun _ => ?_)
            refine (ev_goto dX9_about_108 (t := 146) (by decide)).trans ?_
            exact Iff.rfl
      · refine (ev_iconst dX9_about_25 (w := 0) (by decide)).trans ?_
        refine (ev_istore_n dX9_about_26 (Nat.le_of_ble_eq_true rfl) rfl).trans ?_
        refine (ev_iconst dX9_about_27 (w := 0) (by decide)).trans ?_
        refine (ev_istore dX9_about_28 (Nat.le_of_ble_eq_true rfl) rfl).trans ?_
        exact Iff.rfl
    · exact Iff.rfl
theorem B114_18 {C : Nat → List AV → Mem → Res → Prop} {μ : Mem} {res : Res} {x1 x2 : Int32} {r0 o0 : Nat} {u3 u4 : Option AV} : EvE C 114 18 [some (.inr (r0, 40, o0)), some (.inl x1), some (.inl x2), u3, u4] [] μ res ↔ res = (some (-1), μ) := by
  refine (ev_iconst dX9_about_18 (w := (-1)) (by decide)).trans ?_
  exact ev_ireturn dX9_about_19 rfl
theorem B114_30 {C : Nat → List AV → Mem → Res → Prop} {μ : Mem} {res : Res} {x1 x2 x3 x4 : Int32} {r0 o0 : Nat} : EvE C 114 30 [some (.inr (r0, 40, o0)), some (.inl x1), some (.inl x2), some (.inl x3), some (.inl x4)] [] μ res ↔ (((μ (r0 + 1) 60 o0 15) ≤ x4 → res = (some x3, μ)) ∧ (¬ ((μ (r0 + 1) 60 o0 15) ≤ x4) → vp_in x4 120 ∧ ((¬ (μ (r0 + 1) 68 o0 x4.toNatClampNeg) = x1 → EvE C 114 75 [some (.inr (r0, 40, o0)), some (.inl x1), some (.inl x2), some (.inl x3), some (.inl x4)] [.inl x3] μ res) ∧ (¬ (¬ (μ (r0 + 1) 68 o0 x4.toNatClampNeg) = x1) → vp_in x4 120 ∧ ((¬ (μ (r0 + 1) 70 o0 x4.toNatClampNeg) = x2 → EvE C 114 75 [some (.inr (r0, 40, o0)), some (.inl x1), some (.inl x2), some (.inl x3), some (.inl x4)] [.inl x3] μ res) ∧ (¬ (¬ (μ (r0 + 1) 70 o0 x4.toNatClampNeg) = x2) → EvE C 114 76 [some (.inr (r0, 40, o0)), some (.inl x1), some (.inl x2), some (.inl x3), some (.inl x4)] [.inl 1, .inl x3] μ res)))))) := by
  refine (ev_iload dX9_about_30 rfl).trans ?_
  refine (ev_aload_n dX9_about_32 rfl).trans ?_
  refine (ev_getR dX9_about_33 f_9_38 rfl).trans ((and_iff_right (by decide)).trans ?_)
  refine (ev_getI2 dX9_about_36 f_9_96 rfl (v := (μ (r0 + 1) 60 o0 15)) (rfl)).trans ((and_iff_right (by decide)).trans ?_)
  refine (ev_icmp dX9_about_39 (t := 84) (by decide)).trans (and_congr (imp_congr Iff.rfl ?_) (imp_congr Iff.rfl ?_))
  · refine (ev_iload_n dX9_about_84 rfl).trans ?_
    exact ev_ireturn dX9_about_85 rfl
  · refine (ev_iload_n dX9_about_42 rfl).trans ?_
    refine (ev_aload_n dX9_about_43 rfl).trans ?_
    refine (ev_getR dX9_about_44 f_9_38 rfl).trans ((and_iff_right (by decide)).trans ?_)
    refine (ev_getR dX9_about_47 f_9_111 rfl).trans ((and_iff_right (by decide)).trans ?_)
    refine (ev_iload dX9_about_50 rfl).trans ?_
    refine (ev_iald2 dX9_about_52 (by decide) (v := (μ (r0 + 1) 68 o0 x4.toNatClampNeg)) (rfl)).trans (and_congr_right fun _ => ?_)
    refine (ev_iload_n dX9_about_53 rfl).trans ?_
    refine (ev_icmp dX9_about_54 (t := 75) (by decide)).trans (and_congr (imp_congr Iff.rfl ?_) (imp_congr Iff.rfl ?_))
    · exact Iff.rfl
    · refine (ev_aload_n dX9_about_57 rfl).trans ?_
      refine (ev_getR dX9_about_58 f_9_38 rfl).trans ((and_iff_right (by decide)).trans ?_)
      refine (ev_getR dX9_about_61 f_9_114 rfl).trans ((and_iff_right (by decide)).trans ?_)
      refine (ev_iload dX9_about_64 rfl).trans ?_
      refine (ev_iald2 dX9_about_66 (by decide) (v := (μ (r0 + 1) 70 o0 x4.toNatClampNeg)) (rfl)).trans (and_congr_right fun _ => ?_)
      refine (ev_iload_n dX9_about_67 rfl).trans ?_
      refine (ev_icmp dX9_about_68 (t := 75) (by decide)).trans (and_congr (imp_congr Iff.rfl ?_) (imp_congr Iff.rfl ?_))
      · exact Iff.rfl
      · refine (ev_iconst dX9_about_71 (w := 1) (by decide)).trans ?_
        refine (ev_goto dX9_about_72 (t := 76) (by decide)).trans ?_
        exact Iff.rfl
theorem B114_75 {C : Nat → List AV → Mem → Res → Prop} {μ : Mem} {res : Res} {x1 x2 x3 x4 w0 : Int32} {r0 o0 : Nat} : EvE C 114 75 [some (.inr (r0, 40, o0)), some (.inl x1), some (.inl x2), some (.inl x3), some (.inl x4)] [.inl w0] μ res ↔ EvE C 114 76 [some (.inr (r0, 40, o0)), some (.inl x1), some (.inl x2), some (.inl x3), some (.inl x4)] [.inl 0, .inl w0] μ res := by
  refine (ev_iconst dX9_about_75 (w := 0) (by decide)).trans ?_
  exact Iff.rfl
theorem B114_76 {C : Nat → List AV → Mem → Res → Prop} {μ : Mem} {res : Res} {x1 x2 x3 x4 w0 w1 : Int32} {r0 o0 : Nat} : EvE C 114 76 [some (.inr (r0, 40, o0)), some (.inl x1), some (.inl x2), some (.inl x3), some (.inl x4)] [.inl w1, .inl w0] μ res ↔ EvE C 114 30 [some (.inr (r0, 40, o0)), some (.inl x1), some (.inl x2), some (.inl (w0 + w1)), some (.inl (x4 + 1))] [] μ res := by
  refine (ev_iadd dX9_about_76).trans ?_
  refine (ev_istore_n dX9_about_77 (Nat.le_of_ble_eq_true rfl) rfl).trans ?_
  refine (ev_iinc dX9_about_78 rfl (w := 1) (by decide) rfl).trans ?_
  refine (ev_goto dX9_about_81 (t := 30) (by decide)).trans ?_
  exact Iff.rfl
theorem B114_146 {C : Nat → List AV → Mem → Res → Prop} {μ : Mem} {res : Res} {x1 x2 w0 : Int32} {r0 o0 : Nat} {u3 u4 : Option AV} : EvE C 114 146 [some (.inr (r0, 40, o0)), some (.inl x1), some (.inl x2), u3, u4] [.inl w0] μ res ↔ res = (some w0, μ) := by
  exact ev_ireturn dX9_about_146 rfl
/-! X9_ruleOf -/
theorem B115_0 {C : Nat → List AV → Mem → Res → Prop} {μ : Mem} {res : Res} {x1 x2 : Int32} {r0 o0 : Nat} : EvE C 115 0 [some (.inr (r0, 40, o0)), some (.inl x1), some (.inl x2)] [] μ res ↔ ∃ v1 μ1, C 75 [.inr (r0, 40, o0), .inl x1] μ (some v1, μ1) ∧ ((v1 = 0 → EvE C 115 18 [some (.inr (r0, 40, o0)), some (.inl x1), some (.inl x2)] [] μ1 res) ∧ (¬ (v1 = 0) → ∃ v2 μ2, C 74 [.inl x2, .inl 0, .inl 9] μ1 (some v2, μ2) ∧ ((¬ v2 = 0 → ((¬ x2 = 9 → ∃ v3 μ3, C 77 [.inr (r0, 40, o0), .inl x1, .inl x2] μ2 (some v3, μ3) ∧ EvE C 115 41 [some (.inr (r0, 40, o0)), some (.inl x1), some (.inl x2)] [.inl v3] μ3 res) ∧ (¬ (¬ x2 = 9) → vp_in x1 6 ∧ EvE C 115 41 [some (.inr (r0, 40, o0)), some (.inl x1), some (.inl x2)] [.inl (μ2 r0 42 o0 x1.toNatClampNeg)] μ2 res))) ∧ (¬ (¬ v2 = 0) → EvE C 115 18 [some (.inr (r0, 40, o0)), some (.inl x1), some (.inl x2)] [] μ2 res)))) := by
  refine (ev_aload_n dX9_ruleOf_0 rfl).trans ?_
  refine (ev_iload_n dX9_ruleOf_1 rfl).trans ?_
  refine (ev_virI dX9_ruleOf_2 c_9_71 (by decide) (As := [.inl x1]) rfl rfl (by decide) rfl (Nat.le_of_ble_eq_true rfl)).trans ((and_iff_right (by decide)).trans (exists_congr fun v1 => exists_congr fun μ1 => and_congr_right fun _ => ?_))
  refine (ev_ifc dX9_ruleOf_5 (t := 18) (by decide)).trans (and_congr (imp_congr Iff.rfl ?_) (imp_congr Iff.rfl ?_))
  · exact Iff.rfl
  · refine (ev_iload_n dX9_ruleOf_8 rfl).trans ?_
    refine (ev_iconst dX9_ruleOf_9 (w := 0) (by decide)).trans ?_
    refine (ev_bipush dX9_ruleOf_10 (w := 9) (by decide)).trans ?_
    refine (ev_staI dX9_ruleOf_12 c_9_64 (by decide) (As := [.inl x2, .inl 0, .inl 9]) rfl rfl (by decide) rfl (Nat.le_of_ble_eq_true rfl)).trans (exists_congr fun v2 => exists_congr fun μ2 => and_congr_right fun _ => ?_)
    refine (ev_ifc dX9_ruleOf_15 (t := 20) (by decide)).trans (and_congr (imp_congr Iff.rfl ?_) (imp_congr Iff.rfl ?_))
    · refine (ev_iload_n dX9_ruleOf_20 rfl).trans ?_
      refine (ev_bipush dX9_ruleOf_21 (w := 9) (by decide)).trans ?_
      refine (ev_icmp dX9_ruleOf_23 (t := 35) (by decide)).trans (and_congr (imp_congr Iff.rfl ?_) (imp_congr Iff.rfl ?_))
      · refine (ev_aload_n dX9_ruleOf_35 rfl).trans ?_
        refine (ev_iload_n dX9_ruleOf_36 rfl).trans ?_
        refine (ev_iload_n dX9_ruleOf_37 rfl).trans ?_
        refine (ev_virI dX9_ruleOf_38 c_9_79 (by decide) (As := [.inl x1, .inl x2]) rfl rfl (by decide) rfl (Nat.le_of_ble_eq_true rfl)).trans ((and_iff_right (by decide)).trans (exists_congr fun v3 => exists_congr fun μ3 => and_congr_right fun _ => ?_))
        exact Iff.rfl
      · refine (ev_aload_n dX9_ruleOf_26 rfl).trans ?_
        refine (ev_getR dX9_ruleOf_27 f_9_13 rfl).trans ((and_iff_right (by decide)).trans ?_)
        refine (ev_iload_n dX9_ruleOf_30 rfl).trans ?_
        refine (ev_iald2 dX9_ruleOf_31 (by decide) (v := (μ2 r0 42 o0 x1.toNatClampNeg)) (rfl)).trans (and_congr_right fun _ => ?_)
        refine (ev_goto dX9_ruleOf_32 (t := 41) (by decide)).trans ?_
        exact Iff.rfl
    · exact Iff.rfl
theorem B115_18 {C : Nat → List AV → Mem → Res → Prop} {μ : Mem} {res : Res} {x1 x2 : Int32} {r0 o0 : Nat} : EvE C 115 18 [some (.inr (r0, 40, o0)), some (.inl x1), some (.inl x2)] [] μ res ↔ res = (some (-1), μ) := by
  refine (ev_iconst dX9_ruleOf_18 (w := (-1)) (by decide)).trans ?_
  exact ev_ireturn dX9_ruleOf_19 rfl
theorem B115_41 {C : Nat → List AV → Mem → Res → Prop} {μ : Mem} {res : Res} {x1 x2 w0 : Int32} {r0 o0 : Nat} : EvE C 115 41 [some (.inr (r0, 40, o0)), some (.inl x1), some (.inl x2)] [.inl w0] μ res ↔ res = (some w0, μ) := by
  exact ev_ireturn dX9_ruleOf_41 rfl
/-! X9_kept -/
theorem B116_0 {C : Nat → List AV → Mem → Res → Prop} {μ : Mem} {res : Res} {x1 x2 : Int32} {r0 o0 : Nat} : EvE C 116 0 [some (.inr (r0, 40, o0)), some (.inl x1), some (.inl x2), none] [] μ res ↔ ∃ v1 μ1, C 75 [.inr (r0, 40, o0), .inl x1] μ (some v1, μ1) ∧ ((v1 = 0 → EvE C 116 15 [some (.inr (r0, 40, o0)), some (.inl x1), some (.inl x2), none] [] μ1 res) ∧ (¬ (v1 = 0) → ∃ v2 μ2, C 76 [.inl x2] μ1 (some v2, μ2) ∧ ((¬ v2 = 0 → vp_in ((8 * x1) + x2) 48 ∧ (((μ2 (r0 + 1) 64 o0 ((8 * x1) + x2).toNatClampNeg) < (μ2 (r0 + 1) 60 o0 0) → EvE C 116 49 [some (.inr (r0, 40, o0)), some (.inl x1), some (.inl x2), some (.inl (μ2 (r0 + 1) 64 o0 ((8 * x1) + x2).toNatClampNeg))] [.inl (-4)] μ2 res) ∧ (¬ ((μ2 (r0 + 1) 64 o0 ((8 * x1) + x2).toNatClampNeg) < (μ2 (r0 + 1) 60 o0 0)) → EvE C 116 49 [some (.inr (r0, 40, o0)), some (.inl x1), some (.inl x2), some (.inl (μ2 (r0 + 1) 64 o0 ((8 * x1) + x2).toNatClampNeg))] [.inl (μ2 (r0 + 1) 64 o0 ((8 * x1) + x2).toNatClampNeg)] μ2 res))) ∧ (¬ (¬ v2 = 0) → EvE C 116 15 [some (.inr (r0, 40, o0)), some (.inl x1), some (.inl x2), none] [] μ2 res)))) := by
  refine (ev_aload_n dX9_kept_0 rfl).trans ?_
  refine (ev_iload_n dX9_kept_1 rfl).trans ?_
  refine (ev_virI dX9_kept_2 c_9_71 (by decide) (As := [.inl x1]) rfl rfl (by decide) rfl (Nat.le_of_ble_eq_true rfl)).trans ((and_iff_right (by decide)).trans (exists_congr fun v1 => exists_congr fun μ1 => and_congr_right fun _ => ?_))
  refine (ev_ifc dX9_kept_5 (t := 15) (by decide)).trans (and_congr (imp_congr Iff.rfl ?_) (imp_congr Iff.rfl ?_))
  · exact Iff.rfl
  · refine (ev_iload_n dX9_kept_8 rfl).trans ?_
    refine (ev_staI dX9_kept_9 c_9_87 (by decide) (As := [.inl x2]) rfl rfl (by decide) rfl (Nat.le_of_ble_eq_true rfl)).trans (exists_congr fun v2 => exists_congr fun μ2 => and_congr_right fun _ => ?_)
    refine (ev_ifc dX9_kept_12 (t := 17) (by decide)).trans (and_congr (imp_congr Iff.rfl ?_) (imp_congr Iff.rfl ?_))
    · refine (ev_aload_n dX9_kept_17 rfl).trans ?_
      refine (ev_getR dX9_kept_18 f_9_38 rfl).trans ((and_iff_right (by decide)).trans ?_)
      refine (ev_getR dX9_kept_21 f_9_55 rfl).trans ((and_iff_right (by decide)).trans ?_)
      refine (ev_bipush dX9_kept_24 (w := 8) (by decide)).trans ?_
      refine (ev_iload_n dX9_kept_26 rfl).trans ?_
      refine (ev_imul dX9_kept_27).trans ?_
      refine (ev_iload_n dX9_kept_28 rfl).trans ?_
      refine (ev_iadd dX9_kept_29).trans ?_
      refine (ev_iald2 dX9_kept_30 (by decide) (v := (μ2 (r0 + 1) 64 o0 ((8 * x1) + x2).toNatClampNeg)) (rfl)).trans (and_congr_right fun _ => ?_)
      refine (ev_istore_n dX9_kept_31 (Nat.le_of_ble_eq_true rfl) rfl).trans ?_
      refine (ev_iload_n dX9_kept_32 rfl).trans ?_
      refine (ev_aload_n dX9_kept_33 rfl).trans ?_
      refine (ev_getR dX9_kept_34 f_9_38 rfl).trans ((and_iff_right (by decide)).trans ?_)
      refine (ev_getI2 dX9_kept_37 f_9_68 rfl (v := (μ2 (r0 + 1) 60 o0 0)) (rfl)).trans ((and_iff_right (by decide)).trans ?_)
      refine (ev_icmp dX9_kept_40 (t := 47) (by decide)).trans (and_congr (imp_congr Iff.rfl ?_) (imp_congr Iff.rfl ?_))
      · refine (ev_bipush dX9_kept_47 (w := (-4)) (by decide)).trans ?_
        exact Iff.rfl
      · refine (ev_iload_n dX9_kept_43 rfl).trans ?_
        refine (ev_goto dX9_kept_44 (t := 49) (by decide)).trans ?_
        exact Iff.rfl
    · exact Iff.rfl
theorem B116_15 {C : Nat → List AV → Mem → Res → Prop} {μ : Mem} {res : Res} {x1 x2 : Int32} {r0 o0 : Nat} {u3 : Option AV} : EvE C 116 15 [some (.inr (r0, 40, o0)), some (.inl x1), some (.inl x2), u3] [] μ res ↔ res = (some (-1), μ) := by
  refine (ev_iconst dX9_kept_15 (w := (-1)) (by decide)).trans ?_
  exact ev_ireturn dX9_kept_16 rfl
theorem B116_49 {C : Nat → List AV → Mem → Res → Prop} {μ : Mem} {res : Res} {x1 x2 x3 w0 : Int32} {r0 o0 : Nat} : EvE C 116 49 [some (.inr (r0, 40, o0)), some (.inl x1), some (.inl x2), some (.inl x3)] [.inl w0] μ res ↔ res = (some w0, μ) := by
  exact ev_ireturn dX9_kept_49 rfl
/-! X9_callerOf -/
theorem B117_0 {C : Nat → List AV → Mem → Res → Prop} {μ : Mem} {res : Res} {x1 : Int32} {r0 o0 : Nat} : EvE C 117 0 [some (.inr (r0, 40, o0)), some (.inl x1), none, none] [] μ res ↔ vp_in x1 120 ∧ vp_in x1 120 ∧ ((0 ≤ (μ (r0 + 1) 71 o0 x1.toNatClampNeg) → vp_in x1 120 ∧ ∃ v1 μ1, C 85 [.inr (r0, 40, o0), .inl (μ (r0 + 1) 71 o0 x1.toNatClampNeg)] μ (some v1, μ1) ∧ ((v1 < 0 → EvE C 117 94 [some (.inr (r0, 40, o0)), some (.inl x1), some (.inl (μ (r0 + 1) 67 o0 x1.toNatClampNeg)), some (.inl v1)] [] μ1 res) ∧ (¬ (v1 < 0) → vp_in v1 120 ∧ ((¬ (μ1 (r0 + 1) 70 o0 v1.toNatClampNeg) = 2 → EvE C 117 94 [some (.inr (r0, 40, o0)), some (.inl x1), some (.inl (μ (r0 + 1) 67 o0 x1.toNatClampNeg)), some (.inl v1)] [] μ1 res) ∧ (¬ (¬ (μ1 (r0 + 1) 70 o0 v1.toNatClampNeg) = 2) → vp_in v1 120 ∧ ((¬ (μ1 (r0 + 1) 74 o0 v1.toNatClampNeg) = (μ (r0 + 1) 67 o0 x1.toNatClampNeg) → EvE C 117 94 [some (.inr (r0, 40, o0)), some (.inl x1), some (.inl (μ (r0 + 1) 67 o0 x1.toNatClampNeg)), some (.inl v1)] [] μ1 res) ∧ (¬ (¬ (μ1 (r0 + 1) 74 o0 v1.toNatClampNeg) = (μ (r0 + 1) 67 o0 x1.toNatClampNeg)) → vp_in x1 120 ∧ EvE C 117 96 [some (.inr (r0, 40, o0)), some (.inl x1), some (.inl (μ (r0 + 1) 67 o0 x1.toNatClampNeg)), some (.inl v1)] [.inl (μ1 (r0 + 1) 71 o0 x1.toNatClampNeg)] μ1 res))))))) ∧ (¬ (0 ≤ (μ (r0 + 1) 71 o0 x1.toNatClampNeg)) → ∃ v2 μ2, C 86 [.inr (r0, 40, o0), .inl (μ (r0 + 1) 67 o0 x1.toNatClampNeg)] μ (some v2, μ2) ∧ ((v2 < 0 → EvE C 117 37 [some (.inr (r0, 40, o0)), some (.inl x1), some (.inl (μ (r0 + 1) 67 o0 x1.toNatClampNeg)), none] [.inl (-3)] μ2 res) ∧ (¬ (v2 < 0) → EvE C 117 37 [some (.inr (r0, 40, o0)), some (.inl x1), some (.inl (μ (r0 + 1) 67 o0 x1.toNatClampNeg)), none] [.inl (-4)] μ2 res)))) := by
  refine (ev_aload_n dX9_callerOf_0 rfl).trans ?_
  refine (ev_getR dX9_callerOf_1 f_9_38 rfl).trans ((and_iff_right (by decide)).trans ?_)
  refine (ev_getR dX9_callerOf_4 f_9_99 rfl).trans ((and_iff_right (by decide)).trans ?_)
  refine (ev_iload_n dX9_callerOf_7 rfl).trans ?_
  refine (ev_iald2 dX9_callerOf_8 (by decide) (v := (μ (r0 + 1) 67 o0 x1.toNatClampNeg)) (rfl)).trans (and_congr_right fun _ => ?_)
  refine (ev_istore_n dX9_callerOf_9 (Nat.le_of_ble_eq_true rfl) rfl).trans ?_
  refine (ev_aload_n dX9_callerOf_10 rfl).trans ?_
  refine (ev_getR dX9_callerOf_11 f_9_38 rfl).trans ((and_iff_right (by decide)).trans ?_)
  refine (ev_getR dX9_callerOf_14 f_9_124 rfl).trans ((and_iff_right (by decide)).trans ?_)
  refine (ev_iload_n dX9_callerOf_17 rfl).trans ?_
  refine (ev_iald2 dX9_callerOf_18 (by decide) (v := (μ (r0 + 1) 71 o0 x1.toNatClampNeg)) (rfl)).trans (and_congr_right fun _ => ?_)
  refine (ev_ifc dX9_callerOf_19 (t := 38) (by decide)).trans (and_congr (imp_congr Iff.rfl ?_) (imp_congr Iff.rfl ?_))
  · refine (ev_aload_n dX9_callerOf_38 rfl).trans ?_
    refine (ev_aload_n dX9_callerOf_39 rfl).trans ?_
    refine (ev_getR dX9_callerOf_40 f_9_38 rfl).trans ((and_iff_right (by decide)).trans ?_)
    refine (ev_getR dX9_callerOf_43 f_9_124 rfl).trans ((and_iff_right (by decide)).trans ?_)
    refine (ev_iload_n dX9_callerOf_46 rfl).trans ?_
    refine (ev_iald2 dX9_callerOf_47 (by decide) (v := (μ (r0 + 1) 71 o0 x1.toNatClampNeg)) (rfl)).trans (and_congr_right fun _ => ?_)
    refine (ev_virI dX9_callerOf_48 c_9_117 (by decide) (As := [.inl (μ (r0 + 1) 71 o0 x1.toNatClampNeg)]) rfl rfl (by decide) rfl (Nat.le_of_ble_eq_true rfl)).trans ((and_iff_right (by decide)).trans (exists_congr fun v1 => exists_congr fun μ1 => and_congr_right fun _ => ?_))
    refine (ev_istore_n dX9_callerOf_51 (Nat.le_of_ble_eq_true rfl) rfl).trans ?_
    refine (ev_iload_n dX9_callerOf_52 rfl).trans ?_
    refine (ev_ifc dX9_callerOf_53 (t := 94) (by decide)).trans (and_congr (imp_congr Iff.rfl ?_) (imp_congr Iff.rfl ?_))
    · exact Iff.rfl
    · refine (ev_aload_n dX9_callerOf_56 rfl).trans ?_
      refine (ev_getR dX9_callerOf_57 f_9_38 rfl).trans ((and_iff_right (by decide)).trans ?_)
      refine (ev_getR dX9_callerOf_60 f_9_114 rfl).trans ((and_iff_right (by decide)).trans ?_)
      refine (ev_iload_n dX9_callerOf_63 rfl).trans ?_
      refine (ev_iald2 dX9_callerOf_64 (by decide) (v := (μ1 (r0 + 1) 70 o0 v1.toNatClampNeg)) (rfl)).trans (and_congr_right fun _ => ?_)
      refine (ev_iconst dX9_callerOf_65 (w := 2) (by decide)).trans ?_
      refine (ev_icmp dX9_callerOf_66 (t := 94) (by decide)).trans (and_congr (imp_congr Iff.rfl ?_) (imp_congr Iff.rfl ?_))
      · exact Iff.rfl
      · refine (ev_aload_n dX9_callerOf_69 rfl).trans ?_
        refine (ev_getR dX9_callerOf_70 f_9_38 rfl).trans ((and_iff_right (by decide)).trans ?_)
        refine (ev_getR dX9_callerOf_73 f_9_133 rfl).trans ((and_iff_right (by decide)).trans ?_)
        refine (ev_iload_n dX9_callerOf_76 rfl).trans ?_
        refine (ev_iald2 dX9_callerOf_77 (by decide) (v := (μ1 (r0 + 1) 74 o0 v1.toNatClampNeg)) (rfl)).trans (and_congr_right fun _ => ?_)
        refine (ev_iload_n dX9_callerOf_78 rfl).trans ?_
        refine (ev_icmp dX9_callerOf_79 (t := 94) (by decide)).trans (and_congr (imp_congr Iff.rfl ?_) (imp_congr Iff.rfl ?_))
        · exact Iff.rfl
        · refine (ev_aload_n dX9_callerOf_82 rfl).trans ?_
          refine (ev_getR dX9_callerOf_83 f_9_38 rfl).trans ((and_iff_right (by decide)).trans ?_)
          refine (ev_getR dX9_callerOf_86 f_9_124 rfl).trans ((and_iff_right (by decide)).trans ?_)
          refine (ev_iload_n dX9_callerOf_89 rfl).trans ?_
          refine (ev_iald2 dX9_callerOf_90 (by decide) (v := (μ1 (r0 + 1) 71 o0 x1.toNatClampNeg)) (rfl)).trans (and_congr_right fun _ => ?_)
          refine (ev_goto dX9_callerOf_91 (t := 96) (by decide)).trans ?_
          exact Iff.rfl
  · refine (ev_aload_n dX9_callerOf_22 rfl).trans ?_
    refine (ev_iload_n dX9_callerOf_23 rfl).trans ?_
    refine (ev_virI dX9_callerOf_24 c_9_173 (by decide) (As := [.inl (μ (r0 + 1) 67 o0 x1.toNatClampNeg)]) rfl rfl (by decide) rfl (Nat.le_of_ble_eq_true rfl)).trans ((and_iff_right (by decide)).trans (exists_congr fun v2 => exists_congr fun μ2 => and_congr_right fun _ => ?_))
    refine (ev_ifc dX9_callerOf_27 (t := 35) (by decide)).trans (and_congr (imp_congr Iff.rfl ?_) (imp_congr Iff.rfl ?_))
    · refine (ev_bipush dX9_callerOf_35 (w := (-3)) (by decide)).trans ?_
      exact Iff.rfl
    · refine (ev_bipush dX9_callerOf_30 (w := (-4)) (by decide)).trans ?_
      refine (ev_goto dX9_callerOf_32 (t := 37) (by decide)).trans ?_
      exact Iff.rfl
theorem B117_37 {C : Nat → List AV → Mem → Res → Prop} {μ : Mem} {res : Res} {x1 x2 w0 : Int32} {r0 o0 : Nat} {u3 : Option AV} : EvE C 117 37 [some (.inr (r0, 40, o0)), some (.inl x1), some (.inl x2), u3] [.inl w0] μ res ↔ res = (some w0, μ) := by
  exact ev_ireturn dX9_callerOf_37 rfl
theorem B117_94 {C : Nat → List AV → Mem → Res → Prop} {μ : Mem} {res : Res} {x1 x2 x3 : Int32} {r0 o0 : Nat} : EvE C 117 94 [some (.inr (r0, 40, o0)), some (.inl x1), some (.inl x2), some (.inl x3)] [] μ res ↔ EvE C 117 96 [some (.inr (r0, 40, o0)), some (.inl x1), some (.inl x2), some (.inl x3)] [.inl (-3)] μ res := by
  refine (ev_bipush dX9_callerOf_94 (w := (-3)) (by decide)).trans ?_
  exact Iff.rfl
theorem B117_96 {C : Nat → List AV → Mem → Res → Prop} {μ : Mem} {res : Res} {x1 x2 x3 w0 : Int32} {r0 o0 : Nat} : EvE C 117 96 [some (.inr (r0, 40, o0)), some (.inl x1), some (.inl x2), some (.inl x3)] [.inl w0] μ res ↔ res = (some w0, μ) := by
  exact ev_ireturn dX9_callerOf_96 rfl
/-! X9_job -/
theorem B118_0 {C : Nat → List AV → Mem → Res → Prop} {μ : Mem} {res : Res} {x1 x2 : Int32} {r0 o0 : Nat} : EvE C 118 0 [some (.inr (r0, 40, o0)), some (.inl x1), some (.inl x2)] [] μ res ↔ ((x1 < 0 → EvE C 118 15 [some (.inr (r0, 40, o0)), some (.inl x1), some (.inl x2)] [] μ res) ∧ (¬ (x1 < 0) → ((x1 < (μ (r0 + 1) 60 o0 15) → ((∀ k t : Nat, ([60, 70, 80, 90, 100, 106, 133] : List Nat)[k]? = some t → x2 = nI k → EvE C 118 t [some (.inr (r0, 40, o0)), some (.inl x1), some (.inl x2)] [] μ res) ∧ ((∀ k : Nat, k < 7 → ¬ x2 = nI k) → EvE C 118 143 [some (.inr (r0, 40, o0)), some (.inl x1), some (.inl x2)] [] μ res))) ∧ (¬ (x1 < (μ (r0 + 1) 60 o0 15)) → EvE C 118 15 [some (.inr (r0, 40, o0)), some (.inl x1), some (.inl x2)] [] μ res)))) := by
  refine (ev_iload_n dX9_job_0 rfl).trans ?_
  refine (ev_ifc dX9_job_1 (t := 15) (by decide)).trans (and_congr (imp_congr Iff.rfl ?_) (imp_congr Iff.rfl ?_))
  · exact Iff.rfl
  · refine (ev_iload_n dX9_job_4 rfl).trans ?_
    refine (ev_aload_n dX9_job_5 rfl).trans ?_
    refine (ev_getR dX9_job_6 f_9_38 rfl).trans ((and_iff_right (by decide)).trans ?_)
    refine (ev_getI2 dX9_job_9 f_9_96 rfl (v := (μ (r0 + 1) 60 o0 15)) (rfl)).trans ((and_iff_right (by decide)).trans ?_)
    refine (ev_icmp dX9_job_12 (t := 17) (by decide)).trans (and_congr (imp_congr Iff.rfl ?_) (imp_congr Iff.rfl ?_))
    · refine (ev_iload_n dX9_job_17 rfl).trans ?_
      exact ev_tab dX9_job_18 (ts := [60, 70, 80, 90, 100, 106, 133]) (td := 143) (by decide) (by decide) (by decide) (by decide)
    · exact Iff.rfl
theorem B118_15 {C : Nat → List AV → Mem → Res → Prop} {μ : Mem} {res : Res} {x1 x2 : Int32} {r0 o0 : Nat} : EvE C 118 15 [some (.inr (r0, 40, o0)), some (.inl x1), some (.inl x2)] [] μ res ↔ res = (some (-1), μ) := by
  refine (ev_iconst dX9_job_15 (w := (-1)) (by decide)).trans ?_
  exact ev_ireturn dX9_job_16 rfl
theorem B118_60 {C : Nat → List AV → Mem → Res → Prop} {μ : Mem} {res : Res} {x1 x2 : Int32} {r0 o0 : Nat} : EvE C 118 60 [some (.inr (r0, 40, o0)), some (.inl x1), some (.inl x2)] [] μ res ↔ vp_in x1 120 ∧ res = (some (μ (r0 + 1) 67 o0 x1.toNatClampNeg), μ) := by
  refine (ev_aload_n dX9_job_60 rfl).trans ?_
  refine (ev_getR dX9_job_61 f_9_38 rfl).trans ((and_iff_right (by decide)).trans ?_)
  refine (ev_getR dX9_job_64 f_9_99 rfl).trans ((and_iff_right (by decide)).trans ?_)
  refine (ev_iload_n dX9_job_67 rfl).trans ?_
  refine (ev_iald2 dX9_job_68 (by decide) (v := (μ (r0 + 1) 67 o0 x1.toNatClampNeg)) (rfl)).trans (and_congr_right fun _ => ?_)
  exact ev_ireturn dX9_job_69 rfl
theorem B118_70 {C : Nat → List AV → Mem → Res → Prop} {μ : Mem} {res : Res} {x1 x2 : Int32} {r0 o0 : Nat} : EvE C 118 70 [some (.inr (r0, 40, o0)), some (.inl x1), some (.inl x2)] [] μ res ↔ vp_in x1 120 ∧ res = (some (μ (r0 + 1) 68 o0 x1.toNatClampNeg), μ) := by
  refine (ev_aload_n dX9_job_70 rfl).trans ?_
  refine (ev_getR dX9_job_71 f_9_38 rfl).trans ((and_iff_right (by decide)).trans ?_)
  refine (ev_getR dX9_job_74 f_9_111 rfl).trans ((and_iff_right (by decide)).trans ?_)
  refine (ev_iload_n dX9_job_77 rfl).trans ?_
  refine (ev_iald2 dX9_job_78 (by decide) (v := (μ (r0 + 1) 68 o0 x1.toNatClampNeg)) (rfl)).trans (and_congr_right fun _ => ?_)
  exact ev_ireturn dX9_job_79 rfl
theorem B118_80 {C : Nat → List AV → Mem → Res → Prop} {μ : Mem} {res : Res} {x1 x2 : Int32} {r0 o0 : Nat} : EvE C 118 80 [some (.inr (r0, 40, o0)), some (.inl x1), some (.inl x2)] [] μ res ↔ vp_in x1 120 ∧ res = (some (μ (r0 + 1) 69 o0 x1.toNatClampNeg), μ) := by
  refine (ev_aload_n dX9_job_80 rfl).trans ?_
  refine (ev_getR dX9_job_81 f_9_38 rfl).trans ((and_iff_right (by decide)).trans ?_)
  refine (ev_getR dX9_job_84 f_9_121 rfl).trans ((and_iff_right (by decide)).trans ?_)
  refine (ev_iload_n dX9_job_87 rfl).trans ?_
  refine (ev_iald2 dX9_job_88 (by decide) (v := (μ (r0 + 1) 69 o0 x1.toNatClampNeg)) (rfl)).trans (and_congr_right fun _ => ?_)
  exact ev_ireturn dX9_job_89 rfl
theorem B118_90 {C : Nat → List AV → Mem → Res → Prop} {μ : Mem} {res : Res} {x1 x2 : Int32} {r0 o0 : Nat} : EvE C 118 90 [some (.inr (r0, 40, o0)), some (.inl x1), some (.inl x2)] [] μ res ↔ vp_in x1 120 ∧ res = (some (μ (r0 + 1) 70 o0 x1.toNatClampNeg), μ) := by
  refine (ev_aload_n dX9_job_90 rfl).trans ?_
  refine (ev_getR dX9_job_91 f_9_38 rfl).trans ((and_iff_right (by decide)).trans ?_)
  refine (ev_getR dX9_job_94 f_9_114 rfl).trans ((and_iff_right (by decide)).trans ?_)
  refine (ev_iload_n dX9_job_97 rfl).trans ?_
  refine (ev_iald2 dX9_job_98 (by decide) (v := (μ (r0 + 1) 70 o0 x1.toNatClampNeg)) (rfl)).trans (and_congr_right fun _ => ?_)
  exact ev_ireturn dX9_job_99 rfl
theorem B118_100 {C : Nat → List AV → Mem → Res → Prop} {μ : Mem} {res : Res} {x1 x2 : Int32} {r0 o0 : Nat} : EvE C 118 100 [some (.inr (r0, 40, o0)), some (.inl x1), some (.inl x2)] [] μ res ↔ ∃ v1 μ1, C 117 [.inr (r0, 40, o0), .inl x1] μ (some v1, μ1) ∧ res = (some v1, μ1) := by
  refine (ev_aload_n dX9_job_100 rfl).trans ?_
  refine (ev_iload_n dX9_job_101 rfl).trans ?_
  refine (ev_virI dX9_job_102 c_9_273 (by decide) (As := [.inl x1]) rfl rfl (by decide) rfl (Nat.le_of_ble_eq_true rfl)).trans ((and_iff_right (by decide)).trans (exists_congr fun v1 => exists_congr fun μ1 => and_congr_right fun _ => ?_))
  exact ev_ireturn dX9_job_105 rfl
theorem B118_106 {C : Nat → List AV → Mem → Res → Prop} {μ : Mem} {res : Res} {x1 x2 : Int32} {r0 o0 : Nat} : EvE C 118 106 [some (.inr (r0, 40, o0)), some (.inl x1), some (.inl x2)] [] μ res ↔ vp_in x1 120 ∧ ((¬ (μ (r0 + 1) 70 o0 x1.toNatClampNeg) = 0 → vp_in x1 120 ∧ EvE C 118 132 [some (.inr (r0, 40, o0)), some (.inl x1), some (.inl x2)] [.inl (μ (r0 + 1) 72 o0 x1.toNatClampNeg)] μ res) ∧ (¬ (¬ (μ (r0 + 1) 70 o0 x1.toNatClampNeg) = 0) → EvE C 118 132 [some (.inr (r0, 40, o0)), some (.inl x1), some (.inl x2)] [.inl (-4)] μ res)) := by
  refine (ev_aload_n dX9_job_106 rfl).trans ?_
  refine (ev_getR dX9_job_107 f_9_38 rfl).trans ((and_iff_right (by decide)).trans ?_)
  refine (ev_getR dX9_job_110 f_9_114 rfl).trans ((and_iff_right (by decide)).trans ?_)
  refine (ev_iload_n dX9_job_113 rfl).trans ?_
  refine (ev_iald2 dX9_job_114 (by decide) (v := (μ (r0 + 1) 70 o0 x1.toNatClampNeg)) (rfl)).trans (and_congr_right fun _ => ?_)
  refine (ev_ifc dX9_job_115 (t := 123) (by decide)).trans (and_congr (imp_congr Iff.rfl ?_) (imp_congr Iff.rfl ?_))
  · refine (ev_aload_n dX9_job_123 rfl).trans ?_
    refine (ev_getR dX9_job_124 f_9_38 rfl).trans ((and_iff_right (by decide)).trans ?_)
    refine (ev_getR dX9_job_127 f_9_127 rfl).trans ((and_iff_right (by decide)).trans ?_)
    refine (ev_iload_n dX9_job_130 rfl).trans ?_
    refine (ev_iald2 dX9_job_131 (by decide) (v := (μ (r0 + 1) 72 o0 x1.toNatClampNeg)) (rfl)).trans (and_congr_right fun _ => ?_)
    exact Iff.rfl
  · refine (ev_bipush dX9_job_118 (w := (-4)) (by decide)).trans ?_
    refine (ev_goto dX9_job_120 (t := 132) (by decide)).trans ?_
    exact Iff.rfl
theorem B118_132 {C : Nat → List AV → Mem → Res → Prop} {μ : Mem} {res : Res} {x1 x2 w0 : Int32} {r0 o0 : Nat} : EvE C 118 132 [some (.inr (r0, 40, o0)), some (.inl x1), some (.inl x2)] [.inl w0] μ res ↔ res = (some w0, μ) := by
  exact ev_ireturn dX9_job_132 rfl
theorem B118_133 {C : Nat → List AV → Mem → Res → Prop} {μ : Mem} {res : Res} {x1 x2 : Int32} {r0 o0 : Nat} : EvE C 118 133 [some (.inr (r0, 40, o0)), some (.inl x1), some (.inl x2)] [] μ res ↔ vp_in x1 120 ∧ res = (some (μ (r0 + 1) 73 o0 x1.toNatClampNeg), μ) := by
  refine (ev_aload_n dX9_job_133 rfl).trans ?_
  refine (ev_getR dX9_job_134 f_9_38 rfl).trans ((and_iff_right (by decide)).trans ?_)
  refine (ev_getR dX9_job_137 f_9_130 rfl).trans ((and_iff_right (by decide)).trans ?_)
  refine (ev_iload_n dX9_job_140 rfl).trans ?_
  refine (ev_iald2 dX9_job_141 (by decide) (v := (μ (r0 + 1) 73 o0 x1.toNatClampNeg)) (rfl)).trans (and_congr_right fun _ => ?_)
  exact ev_ireturn dX9_job_142 rfl
theorem B118_143 {C : Nat → List AV → Mem → Res → Prop} {μ : Mem} {res : Res} {x1 x2 : Int32} {r0 o0 : Nat} : EvE C 118 143 [some (.inr (r0, 40, o0)), some (.inl x1), some (.inl x2)] [] μ res ↔ res = (some (-1), μ) := by
  refine (ev_iconst dX9_job_143 (w := (-1)) (by decide)).trans ?_
  exact ev_ireturn dX9_job_144 rfl
/-! X9_row -/
theorem B119_0 {C : Nat → List AV → Mem → Res → Prop} {μ : Mem} {res : Res} {x1 x2 : Int32} {r0 o0 : Nat} : EvE C 119 0 [some (.inr (r0, 40, o0)), some (.inl x1), some (.inl x2)] [] μ res ↔ ∃ v1 μ1, C 75 [.inr (r0, 40, o0), .inl x1] μ (some v1, μ1) ∧ ((v1 = 0 → EvE C 119 42 [some (.inr (r0, 40, o0)), some (.inl x1), some (.inl x2)] [] μ1 res) ∧ (¬ (v1 = 0) → ((x2 < 0 → EvE C 119 42 [some (.inr (r0, 40, o0)), some (.inl x1), some (.inl x2)] [] μ1 res) ∧ (¬ (x2 < 0) → vp_in x1 6 ∧ (((μ1 (r0 + 1) 66 o0 x1.toNatClampNeg) ≤ x2 → EvE C 119 42 [some (.inr (r0, 40, o0)), some (.inl x1), some (.inl x2)] [] μ1 res) ∧ (¬ ((μ1 (r0 + 1) 66 o0 x1.toNatClampNeg) ≤ x2) → vp_in ((20 * x1) + x2) 120 ∧ EvE C 119 43 [some (.inr (r0, 40, o0)), some (.inl x1), some (.inl x2)] [.inl (μ1 (r0 + 1) 65 o0 ((20 * x1) + x2).toNatClampNeg)] μ1 res)))))) := by
  refine (ev_aload_n dX9_row_0 rfl).trans ?_
  refine (ev_iload_n dX9_row_1 rfl).trans ?_
  refine (ev_virI dX9_row_2 c_9_71 (by decide) (As := [.inl x1]) rfl rfl (by decide) rfl (Nat.le_of_ble_eq_true rfl)).trans ((and_iff_right (by decide)).trans (exists_congr fun v1 => exists_congr fun μ1 => and_congr_right fun _ => ?_))
  refine (ev_ifc dX9_row_5 (t := 42) (by decide)).trans (and_congr (imp_congr Iff.rfl ?_) (imp_congr Iff.rfl ?_))
  · exact Iff.rfl
  · refine (ev_iload_n dX9_row_8 rfl).trans ?_
    refine (ev_ifc dX9_row_9 (t := 42) (by decide)).trans (and_congr (imp_congr Iff.rfl ?_) (imp_congr Iff.rfl ?_))
    · exact Iff.rfl
    · refine (ev_iload_n dX9_row_12 rfl).trans ?_
      refine (ev_aload_n dX9_row_13 rfl).trans ?_
      refine (ev_getR dX9_row_14 f_9_38 rfl).trans ((and_iff_right (by decide)).trans ?_)
      refine (ev_getR dX9_row_17 f_9_140 rfl).trans ((and_iff_right (by decide)).trans ?_)
      refine (ev_iload_n dX9_row_20 rfl).trans ?_
      refine (ev_iald2 dX9_row_21 (by decide) (v := (μ1 (r0 + 1) 66 o0 x1.toNatClampNeg)) (rfl)).trans (and_congr_right fun _ => ?_)
      refine (ev_icmp dX9_row_22 (t := 42) (by decide)).trans (and_congr (imp_congr Iff.rfl ?_) (imp_congr Iff.rfl ?_))
      · exact Iff.rfl
      · refine (ev_aload_n dX9_row_25 rfl).trans ?_
        refine (ev_getR dX9_row_26 f_9_38 rfl).trans ((and_iff_right (by decide)).trans ?_)
        refine (ev_getR dX9_row_29 f_9_143 rfl).trans ((and_iff_right (by decide)).trans ?_)
        refine (ev_bipush dX9_row_32 (w := 20) (by decide)).trans ?_
        refine (ev_iload_n dX9_row_34 rfl).trans ?_
        refine (ev_imul dX9_row_35).trans ?_
        refine (ev_iload_n dX9_row_36 rfl).trans ?_
        refine (ev_iadd dX9_row_37).trans ?_
        refine (ev_iald2 dX9_row_38 (by decide) (v := (μ1 (r0 + 1) 65 o0 ((20 * x1) + x2).toNatClampNeg)) (rfl)).trans (and_congr_right fun _ => ?_)
        refine (ev_goto dX9_row_39 (t := 43) (by decide)).trans ?_
        exact Iff.rfl
theorem B119_42 {C : Nat → List AV → Mem → Res → Prop} {μ : Mem} {res : Res} {x1 x2 : Int32} {r0 o0 : Nat} : EvE C 119 42 [some (.inr (r0, 40, o0)), some (.inl x1), some (.inl x2)] [] μ res ↔ EvE C 119 43 [some (.inr (r0, 40, o0)), some (.inl x1), some (.inl x2)] [.inl (-1)] μ res := by
  refine (ev_iconst dX9_row_42 (w := (-1)) (by decide)).trans ?_
  exact Iff.rfl
theorem B119_43 {C : Nat → List AV → Mem → Res → Prop} {μ : Mem} {res : Res} {x1 x2 w0 : Int32} {r0 o0 : Nat} : EvE C 119 43 [some (.inr (r0, 40, o0)), some (.inl x1), some (.inl x2)] [.inl w0] μ res ↔ res = (some w0, μ) := by
  exact ev_ireturn dX9_row_43 rfl
/-! X9_guest -/
theorem B120_0 {C : Nat → List AV → Mem → Res → Prop} {μ : Mem} {res : Res} {x1 x2 : Int32} {r0 o0 : Nat} : EvE C 120 0 [some (.inr (r0, 40, o0)), some (.inl x1), some (.inl x2)] [] μ res ↔ ((x1 < 0 → EvE C 120 24 [some (.inr (r0, 40, o0)), some (.inl x1), some (.inl x2)] [] μ res) ∧ (¬ (x1 < 0) → (((μ (r0 + 1) 60 o0 22) ≤ x1 → EvE C 120 24 [some (.inr (r0, 40, o0)), some (.inl x1), some (.inl x2)] [] μ res) ∧ (¬ ((μ (r0 + 1) 60 o0 22) ≤ x1) → ∃ v1 μ1, C 74 [.inl x2, .inl 0, .inl 3] μ (some v1, μ1) ∧ ((¬ v1 = 0 → ((¬ x2 = 0 → ((¬ x2 = 1 → ((¬ x2 = 2 → vp_in x1 100 ∧ EvE C 120 85 [some (.inr (r0, 40, o0)), some (.inl x1), some (.inl x2)] [.inl (μ1 (r0 + 1) 78 o0 x1.toNatClampNeg)] μ1 res) ∧ (¬ (¬ x2 = 2) → vp_in x1 100 ∧ EvE C 120 85 [some (.inr (r0, 40, o0)), some (.inl x1), some (.inl x2)] [.inl (μ1 (r0 + 1) 77 o0 x1.toNatClampNeg)] μ1 res))) ∧ (¬ (¬ x2 = 1) → vp_in x1 100 ∧ EvE C 120 85 [some (.inr (r0, 40, o0)), some (.inl x1), some (.inl x2)] [.inl (μ1 (r0 + 1) 76 o0 x1.toNatClampNeg)] μ1 res))) ∧ (¬ (¬ x2 = 0) → vp_in x1 100 ∧ EvE C 120 85 [some (.inr (r0, 40, o0)), some (.inl x1), some (.inl x2)] [.inl (μ1 (r0 + 1) 75 o0 x1.toNatClampNeg)] μ1 res))) ∧ (¬ (¬ v1 = 0) → EvE C 120 24 [some (.inr (r0, 40, o0)), some (.inl x1), some (.inl x2)] [] μ1 res)))))) := by
  refine (ev_iload_n dX9_guest_0 rfl).trans ?_
  refine (ev_ifc dX9_guest_1 (t := 24) (by decide)).trans (and_congr (imp_congr Iff.rfl ?_) (imp_congr Iff.rfl ?_))
  · exact Iff.rfl
  · refine (ev_iload_n dX9_guest_4 rfl).trans ?_
    refine (ev_aload_n dX9_guest_5 rfl).trans ?_
    refine (ev_getR dX9_guest_6 f_9_38 rfl).trans ((and_iff_right (by decide)).trans ?_)
    refine (ev_getI2 dX9_guest_9 f_9_102 rfl (v := (μ (r0 + 1) 60 o0 22)) (rfl)).trans ((and_iff_right (by decide)).trans ?_)
    refine (ev_icmp dX9_guest_12 (t := 24) (by decide)).trans (and_congr (imp_congr Iff.rfl ?_) (imp_congr Iff.rfl ?_))
    · exact Iff.rfl
    · refine (ev_iload_n dX9_guest_15 rfl).trans ?_
      refine (ev_iconst dX9_guest_16 (w := 0) (by decide)).trans ?_
      refine (ev_iconst dX9_guest_17 (w := 3) (by decide)).trans ?_
      refine (ev_staI dX9_guest_18 c_9_64 (by decide) (As := [.inl x2, .inl 0, .inl 3]) rfl rfl (by decide) rfl (Nat.le_of_ble_eq_true rfl)).trans (exists_congr fun v1 => exists_congr fun μ1 => and_congr_right fun _ => ?_)
      refine (ev_ifc dX9_guest_21 (t := 26) (by decide)).trans (and_congr (imp_congr Iff.rfl ?_) (imp_congr Iff.rfl ?_))
      · refine (ev_iload_n dX9_guest_26 rfl).trans ?_
        refine (ev_ifc dX9_guest_27 (t := 42) (by decide)).trans (and_congr (imp_congr Iff.rfl ?_) (imp_congr Iff.rfl ?_))
        · refine (ev_iload_n dX9_guest_42 rfl).trans ?_
          refine (ev_iconst dX9_guest_43 (w := 1) (by decide)).trans ?_
          refine (ev_icmp dX9_guest_44 (t := 59) (by decide)).trans (and_congr (imp_congr Iff.rfl ?_) (imp_congr Iff.rfl ?_))
          · refine (ev_iload_n dX9_guest_59 rfl).trans ?_
            refine (ev_iconst dX9_guest_60 (w := 2) (by decide)).trans ?_
            refine (ev_icmp dX9_guest_61 (t := 76) (by decide)).trans (and_congr (imp_congr Iff.rfl ?_) (imp_congr Iff.rfl ?_))
            · refine (ev_aload_n dX9_guest_76 rfl).trans ?_
              refine (ev_getR dX9_guest_77 f_9_38 rfl).trans ((and_iff_right (by decide)).trans ?_)
              refine (ev_getR dX9_guest_80 f_9_191 rfl).trans ((and_iff_right (by decide)).trans ?_)
              refine (ev_iload_n dX9_guest_83 rfl).trans ?_
              refine (ev_iald2 dX9_guest_84 (by decide) (v := (μ1 (r0 + 1) 78 o0 x1.toNatClampNeg)) (rfl)).trans (and_congr_right fun _ => ?_)
              exact Iff.rfl
            · refine (ev_aload_n dX9_guest_64 rfl).trans ?_
              refine (ev_getR dX9_guest_65 f_9_38 rfl).trans ((and_iff_right (by decide)).trans ?_)
              refine (ev_getR dX9_guest_68 f_9_185 rfl).trans ((and_iff_right (by decide)).trans ?_)
              refine (ev_iload_n dX9_guest_71 rfl).trans ?_
              refine (ev_iald2 dX9_guest_72 (by decide) (v := (μ1 (r0 + 1) 77 o0 x1.toNatClampNeg)) (rfl)).trans (and_congr_right fun _ => ?_)
              refine (ev_goto dX9_guest_73 (t := 85) (by decide)).trans ?_
              exact Iff.rfl
          · refine (ev_aload_n dX9_guest_47 rfl).trans ?_
            refine (ev_getR dX9_guest_48 f_9_38 rfl).trans ((and_iff_right (by decide)).trans ?_)
            refine (ev_getR dX9_guest_51 f_9_105 rfl).trans ((and_iff_right (by decide)).trans ?_)
            refine (ev_iload_n dX9_guest_54 rfl).trans ?_
            refine (ev_iald2 dX9_guest_55 (by decide) (v := (μ1 (r0 + 1) 76 o0 x1.toNatClampNeg)) (rfl)).trans (and_congr_right fun _ => ?_)
            refine (ev_goto dX9_guest_56 (t := 85) (by decide)).trans ?_
            exact Iff.rfl
        · refine (ev_aload_n dX9_guest_30 rfl).trans ?_
          refine (ev_getR dX9_guest_31 f_9_38 rfl).trans ((and_iff_right (by decide)).trans ?_)
          refine (ev_getR dX9_guest_34 f_9_188 rfl).trans ((and_iff_right (by decide)).trans ?_)
          refine (ev_iload_n dX9_guest_37 rfl).trans ?_
          refine (ev_iald2 dX9_guest_38 (by decide) (v := (μ1 (r0 + 1) 75 o0 x1.toNatClampNeg)) (rfl)).trans (and_congr_right fun _ => ?_)
          refine (ev_goto dX9_guest_39 (t := 85) (by decide)).trans ?_
          exact Iff.rfl
      · exact Iff.rfl
theorem B120_24 {C : Nat → List AV → Mem → Res → Prop} {μ : Mem} {res : Res} {x1 x2 : Int32} {r0 o0 : Nat} : EvE C 120 24 [some (.inr (r0, 40, o0)), some (.inl x1), some (.inl x2)] [] μ res ↔ res = (some (-1), μ) := by
  refine (ev_iconst dX9_guest_24 (w := (-1)) (by decide)).trans ?_
  exact ev_ireturn dX9_guest_25 rfl
theorem B120_85 {C : Nat → List AV → Mem → Res → Prop} {μ : Mem} {res : Res} {x1 x2 w0 : Int32} {r0 o0 : Nat} : EvE C 120 85 [some (.inr (r0, 40, o0)), some (.inl x1), some (.inl x2)] [.inl w0] μ res ↔ res = (some w0, μ) := by
  exact ev_ireturn dX9_guest_85 rfl
/-! X9_count -/
theorem B121_0 {C : Nat → List AV → Mem → Res → Prop} {μ : Mem} {res : Res} {x1 : Int32} {r0 o0 : Nat} : EvE C 121 0 [some (.inr (r0, 40, o0)), some (.inl x1)] [] μ res ↔ ((∀ k t : Nat, ([64, 69, 77, 85, 93, 101, 109, 117, 125, 133, 138, 146] : List Nat)[k]? = some t → x1 = nI k → EvE C 121 t [some (.inr (r0, 40, o0)), some (.inl x1)] [] μ res) ∧ ((∀ k : Nat, k < 12 → ¬ x1 = nI k) → EvE C 121 162 [some (.inr (r0, 40, o0)), some (.inl x1)] [] μ res)) := by
  refine (ev_iload_n dX9_count_0 rfl).trans ?_
  exact ev_tab dX9_count_1 (ts := [64, 69, 77, 85, 93, 101, 109, 117, 125, 133, 138, 146]) (td := 162) (by decide) (by decide) (by decide) (by decide)
theorem B121_64 {C : Nat → List AV → Mem → Res → Prop} {μ : Mem} {res : Res} {x1 : Int32} {r0 o0 : Nat} : EvE C 121 64 [some (.inr (r0, 40, o0)), some (.inl x1)] [] μ res ↔ res = (some (μ r0 40 o0 2), μ) := by
  refine (ev_aload_n dX9_count_64 rfl).trans ?_
  refine (ev_getI2 dX9_count_65 f_9_61 rfl (v := (μ r0 40 o0 2)) (rfl)).trans ((and_iff_right (by decide)).trans ?_)
  exact ev_ireturn dX9_count_68 rfl
theorem B121_69 {C : Nat → List AV → Mem → Res → Prop} {μ : Mem} {res : Res} {x1 : Int32} {r0 o0 : Nat} : EvE C 121 69 [some (.inr (r0, 40, o0)), some (.inl x1)] [] μ res ↔ res = (some (μ (r0 + 1) 60 o0 0), μ) := by
  refine (ev_aload_n dX9_count_69 rfl).trans ?_
  refine (ev_getR dX9_count_70 f_9_38 rfl).trans ((and_iff_right (by decide)).trans ?_)
  refine (ev_getI2 dX9_count_73 f_9_68 rfl (v := (μ (r0 + 1) 60 o0 0)) (rfl)).trans ((and_iff_right (by decide)).trans ?_)
  exact ev_ireturn dX9_count_76 rfl
theorem B121_77 {C : Nat → List AV → Mem → Res → Prop} {μ : Mem} {res : Res} {x1 : Int32} {r0 o0 : Nat} : EvE C 121 77 [some (.inr (r0, 40, o0)), some (.inl x1)] [] μ res ↔ res = (some (μ (r0 + 1) 60 o0 15), μ) := by
  refine (ev_aload_n dX9_count_77 rfl).trans ?_
  refine (ev_getR dX9_count_78 f_9_38 rfl).trans ((and_iff_right (by decide)).trans ?_)
  refine (ev_getI2 dX9_count_81 f_9_96 rfl (v := (μ (r0 + 1) 60 o0 15)) (rfl)).trans ((and_iff_right (by decide)).trans ?_)
  exact ev_ireturn dX9_count_84 rfl
theorem B121_85 {C : Nat → List AV → Mem → Res → Prop} {μ : Mem} {res : Res} {x1 : Int32} {r0 o0 : Nat} : EvE C 121 85 [some (.inr (r0, 40, o0)), some (.inl x1)] [] μ res ↔ res = (some (μ (r0 + 1) 60 o0 22), μ) := by
  refine (ev_aload_n dX9_count_85 rfl).trans ?_
  refine (ev_getR dX9_count_86 f_9_38 rfl).trans ((and_iff_right (by decide)).trans ?_)
  refine (ev_getI2 dX9_count_89 f_9_102 rfl (v := (μ (r0 + 1) 60 o0 22)) (rfl)).trans ((and_iff_right (by decide)).trans ?_)
  exact ev_ireturn dX9_count_92 rfl
theorem B121_93 {C : Nat → List AV → Mem → Res → Prop} {μ : Mem} {res : Res} {x1 : Int32} {r0 o0 : Nat} : EvE C 121 93 [some (.inr (r0, 40, o0)), some (.inl x1)] [] μ res ↔ res = (some (μ (r0 + 1) 60 o0 23), μ) := by
  refine (ev_aload_n dX9_count_93 rfl).trans ?_
  refine (ev_getR dX9_count_94 f_9_38 rfl).trans ((and_iff_right (by decide)).trans ?_)
  refine (ev_getI2 dX9_count_97 f_9_216 rfl (v := (μ (r0 + 1) 60 o0 23)) (rfl)).trans ((and_iff_right (by decide)).trans ?_)
  exact ev_ireturn dX9_count_100 rfl
theorem B121_101 {C : Nat → List AV → Mem → Res → Prop} {μ : Mem} {res : Res} {x1 : Int32} {r0 o0 : Nat} : EvE C 121 101 [some (.inr (r0, 40, o0)), some (.inl x1)] [] μ res ↔ res = (some (μ (r0 + 1) 60 o0 24), μ) := by
  refine (ev_aload_n dX9_count_101 rfl).trans ?_
  refine (ev_getR dX9_count_102 f_9_38 rfl).trans ((and_iff_right (by decide)).trans ?_)
  refine (ev_getI2 dX9_count_105 f_9_179 rfl (v := (μ (r0 + 1) 60 o0 24)) (rfl)).trans ((and_iff_right (by decide)).trans ?_)
  exact ev_ireturn dX9_count_108 rfl
theorem B121_109 {C : Nat → List AV → Mem → Res → Prop} {μ : Mem} {res : Res} {x1 : Int32} {r0 o0 : Nat} : EvE C 121 109 [some (.inr (r0, 40, o0)), some (.inl x1)] [] μ res ↔ res = (some (μ (r0 + 1) 60 o0 25), μ) := by
  refine (ev_aload_n dX9_count_109 rfl).trans ?_
  refine (ev_getR dX9_count_110 f_9_38 rfl).trans ((and_iff_right (by decide)).trans ?_)
  refine (ev_getI2 dX9_count_113 f_9_219 rfl (v := (μ (r0 + 1) 60 o0 25)) (rfl)).trans ((and_iff_right (by decide)).trans ?_)
  exact ev_ireturn dX9_count_116 rfl
theorem B121_117 {C : Nat → List AV → Mem → Res → Prop} {μ : Mem} {res : Res} {x1 : Int32} {r0 o0 : Nat} : EvE C 121 117 [some (.inr (r0, 40, o0)), some (.inl x1)] [] μ res ↔ res = (some (μ (r0 + 1) 60 o0 26), μ) := by
  refine (ev_aload_n dX9_count_117 rfl).trans ?_
  refine (ev_getR dX9_count_118 f_9_38 rfl).trans ((and_iff_right (by decide)).trans ?_)
  refine (ev_getI2 dX9_count_121 f_9_237 rfl (v := (μ (r0 + 1) 60 o0 26)) (rfl)).trans ((and_iff_right (by decide)).trans ?_)
  exact ev_ireturn dX9_count_124 rfl
theorem B121_125 {C : Nat → List AV → Mem → Res → Prop} {μ : Mem} {res : Res} {x1 : Int32} {r0 o0 : Nat} : EvE C 121 125 [some (.inr (r0, 40, o0)), some (.inl x1)] [] μ res ↔ res = (some (μ (r0 + 1) 60 o0 27), μ) := by
  refine (ev_aload_n dX9_count_125 rfl).trans ?_
  refine (ev_getR dX9_count_126 f_9_38 rfl).trans ((and_iff_right (by decide)).trans ?_)
  refine (ev_getI2 dX9_count_129 f_9_197 rfl (v := (μ (r0 + 1) 60 o0 27)) (rfl)).trans ((and_iff_right (by decide)).trans ?_)
  exact ev_ireturn dX9_count_132 rfl
theorem B121_133 {C : Nat → List AV → Mem → Res → Prop} {μ : Mem} {res : Res} {x1 : Int32} {r0 o0 : Nat} : EvE C 121 133 [some (.inr (r0, 40, o0)), some (.inl x1)] [] μ res ↔ res = (some (μ r0 40 o0 8), μ) := by
  refine (ev_aload_n dX9_count_133 rfl).trans ?_
  refine (ev_getI2 dX9_count_134 f_9_90 rfl (v := (μ r0 40 o0 8)) (rfl)).trans ((and_iff_right (by decide)).trans ?_)
  exact ev_ireturn dX9_count_137 rfl
theorem B121_138 {C : Nat → List AV → Mem → Res → Prop} {μ : Mem} {res : Res} {x1 : Int32} {r0 o0 : Nat} : EvE C 121 138 [some (.inr (r0, 40, o0)), some (.inl x1)] [] μ res ↔ res = (some (μ (r0 + 1) 60 o0 16), μ) := by
  refine (ev_aload_n dX9_count_138 rfl).trans ?_
  refine (ev_getR dX9_count_139 f_9_38 rfl).trans ((and_iff_right (by decide)).trans ?_)
  refine (ev_getI2 dX9_count_142 f_9_149 rfl (v := (μ (r0 + 1) 60 o0 16)) (rfl)).trans ((and_iff_right (by decide)).trans ?_)
  exact ev_ireturn dX9_count_145 rfl
theorem B121_146 {C : Nat → List AV → Mem → Res → Prop} {μ : Mem} {res : Res} {x1 : Int32} {r0 o0 : Nat} : EvE C 121 146 [some (.inr (r0, 40, o0)), some (.inl x1)] [] μ res ↔ (((μ (r0 + 1) 60 o0 28) = 0 → EvE C 121 161 [some (.inr (r0, 40, o0)), some (.inl x1)] [.inl 0] μ res) ∧ (¬ ((μ (r0 + 1) 60 o0 28) = 0) → EvE C 121 161 [some (.inr (r0, 40, o0)), some (.inl x1)] [.inl 1] μ res)) := by
  refine (ev_aload_n dX9_count_146 rfl).trans ?_
  refine (ev_getR dX9_count_147 f_9_38 rfl).trans ((and_iff_right (by decide)).trans ?_)
  refine (ev_getI2 dX9_count_150 f_9_51 rfl (v := (μ (r0 + 1) 60 o0 28)) (rfl)).trans ((and_iff_right (by decide)).trans ?_)
  refine (ev_ifc dX9_count_153 (t := 160) (by decide)).trans (and_congr (imp_congr Iff.rfl ?_) (imp_congr Iff.rfl ?_))
  · refine (ev_iconst dX9_count_160 (w := 0) (by decide)).trans ?_
    exact Iff.rfl
  · refine (ev_iconst dX9_count_156 (w := 1) (by decide)).trans ?_
    refine (ev_goto dX9_count_157 (t := 161) (by decide)).trans ?_
    exact Iff.rfl
theorem B121_161 {C : Nat → List AV → Mem → Res → Prop} {μ : Mem} {res : Res} {x1 w0 : Int32} {r0 o0 : Nat} : EvE C 121 161 [some (.inr (r0, 40, o0)), some (.inl x1)] [.inl w0] μ res ↔ res = (some w0, μ) := by
  exact ev_ireturn dX9_count_161 rfl
theorem B121_162 {C : Nat → List AV → Mem → Res → Prop} {μ : Mem} {res : Res} {x1 : Int32} {r0 o0 : Nat} : EvE C 121 162 [some (.inr (r0, 40, o0)), some (.inl x1)] [] μ res ↔ res = (some (-1), μ) := by
  refine (ev_iconst dX9_count_162 (w := (-1)) (by decide)).trans ?_
  exact ev_ireturn dX9_count_163 rfl
/-! X9_tried -/
theorem B122_0 {C : Nat → List AV → Mem → Res → Prop} {μ : Mem} {res : Res} {x1 x2 x3 x4 : Int32} {r0 o0 : Nat} : EvE C 122 0 [some (.inr (r0, 40, o0)), some (.inl x1), some (.inl x2), some (.inl x3), some (.inl x4), none, none, none] [] μ res ↔ ∃ μ1, C 73 [.inr ((r0 + 2), 60, o0), .inr ((r0 + 1), 60, o0)] μ (none, μ1) ∧ EvE C 122 36 [some (.inr (r0, 40, o0)), some (.inl x1), some (.inl x2), some (.inl x3), some (.inl x4), some (.inl 0), some (.inl (-4)), some (.inl 1)] [] (mset (mset (mset μ1 r0 40 o0 14 1) r0 40 o0 15 x1) r0 40 o0 16 x2) res := by
  refine (ev_aload_n dX9_tried_0 rfl).trans ?_
  refine (ev_getR dX9_tried_1 f_9_42 rfl).trans ((and_iff_right (by decide)).trans ?_)
  refine (ev_aload_n dX9_tried_4 rfl).trans ?_
  refine (ev_getR dX9_tried_5 f_9_38 rfl).trans ((and_iff_right (by decide)).trans ?_)
  refine (ev_virV dX9_tried_8 c_9_276 (by decide) (As := [.inr ((r0 + 1), 60, o0)]) rfl rfl rfl rfl (Nat.le_of_ble_eq_true rfl)).trans ((and_iff_right (by decide)).trans (exists_congr fun μ1 => and_congr_right fun _ => ?_))
  refine (ev_aload_n dX9_tried_11 rfl).trans ?_
  refine (ev_iconst dX9_tried_12 (w := 1) (by decide)).trans ?_
  refine (ev_putZ dX9_tried_13 f_9_240 rfl (by decide)).trans ((and_iff_right ⟨by decide, by decide⟩).trans ?_)
  refine (ev_aload_n dX9_tried_16 rfl).trans ?_
  refine (ev_iload_n dX9_tried_17 rfl).trans ?_
  refine (ev_put dX9_tried_18 f_9_246 rfl (by decide)).trans ((and_iff_right (by decide)).trans ?_)
  refine (ev_aload_n dX9_tried_21 rfl).trans ?_
  refine (ev_iload_n dX9_tried_22 rfl).trans ?_
  refine (ev_put dX9_tried_23 f_9_243 rfl (by decide)).trans ((and_iff_right (by decide)).trans ?_)
  refine (ev_iconst dX9_tried_26 (w := 0) (by decide)).trans ?_
  refine (ev_istore dX9_tried_27 (Nat.le_of_ble_eq_true rfl) rfl).trans ?_
  refine (ev_bipush dX9_tried_29 (w := (-4)) (by decide)).trans ?_
  refine (ev_istore dX9_tried_31 (Nat.le_of_ble_eq_true rfl) rfl).trans ?_
  refine (ev_iconst dX9_tried_33 (w := 1) (by decide)).trans ?_
  refine (ev_istore dX9_tried_34 (Nat.le_of_ble_eq_true rfl) rfl).trans ?_
  exact Iff.rfl
theorem B122_36 {C : Nat → List AV → Mem → Res → Prop} {μ : Mem} {res : Res} {x1 x2 x3 x4 x5 x6 x7 : Int32} {r0 o0 : Nat} : EvE C 122 36 [some (.inr (r0, 40, o0)), some (.inl x1), some (.inl x2), some (.inl x3), some (.inl x4), some (.inl x5), some (.inl x6), some (.inl x7)] [] μ res ↔ ((x3 < x7 → EvE C 122 108 [some (.inr (r0, 40, o0)), some (.inl x1), some (.inl x2), some (.inl x3), some (.inl x4), some (.inl x5), some (.inl x6), some (.inl x7)] [] μ res) ∧ (¬ (x3 < x7) → ((¬ x4 = 0 → EvE C 122 52 [some (.inr (r0, 40, o0)), some (.inl x1), some (.inl x2), some (.inl x3), some (.inl x4), some (.inl x5), some (.inl x6), some (.inl x7)] [] μ res) ∧ (¬ (¬ x4 = 0) → ((0 ≤ x6 → EvE C 122 108 [some (.inr (r0, 40, o0)), some (.inl x1), some (.inl x2), some (.inl x3), some (.inl x4), some (.inl x5), some (.inl x6), some (.inl x7)] [] μ res) ∧ (¬ (0 ≤ x6) → EvE C 122 52 [some (.inr (r0, 40, o0)), some (.inl x1), some (.inl x2), some (.inl x3), some (.inl x4), some (.inl x5), some (.inl x6), some (.inl x7)] [] μ res)))))) := by
  refine (ev_iload dX9_tried_36 rfl).trans ?_
  refine (ev_iload_n dX9_tried_38 rfl).trans ?_
  refine (ev_icmp dX9_tried_39 (t := 108) (by decide)).trans (and_congr (imp_congr Iff.rfl ?_) (imp_congr Iff.rfl ?_))
  · exact Iff.rfl
  · refine (ev_iload dX9_tried_42 rfl).trans ?_
    refine (ev_ifc dX9_tried_44 (t := 52) (by decide)).trans (and_congr (imp_congr Iff.rfl ?_) (imp_congr Iff.rfl ?_))
    · exact Iff.rfl
    · refine (ev_iload dX9_tried_47 rfl).trans ?_
      refine (ev_ifc dX9_tried_49 (t := 108) (by decide)).trans (and_congr (imp_congr Iff.rfl ?_) (imp_congr Iff.rfl ?_))
      · exact Iff.rfl
      · exact Iff.rfl
theorem B122_52 {C : Nat → List AV → Mem → Res → Prop} {μ : Mem} {res : Res} {x1 x2 x3 x4 x5 x6 x7 : Int32} {r0 o0 : Nat} : EvE C 122 52 [some (.inr (r0, 40, o0)), some (.inl x1), some (.inl x2), some (.inl x3), some (.inl x4), some (.inl x5), some (.inl x6), some (.inl x7)] [] μ res ↔ ∃ μ1, C 112 [.inr (r0, 40, o0)] μ (none, μ1) ∧ (((μ1 (r0 + 1) 60 o0 28) = 0 → EvE C 122 74 [some (.inr (r0, 40, o0)), some (.inl x1), some (.inl x2), some (.inl x3), some (.inl x4), some (.inl x5), some (.inl x6), some (.inl x7)] [.inl 0] μ1 res) ∧ (¬ ((μ1 (r0 + 1) 60 o0 28) = 0) → EvE C 122 74 [some (.inr (r0, 40, o0)), some (.inl x1), some (.inl x2), some (.inl x3), some (.inl x4), some (.inl x5), some (.inl x6), some (.inl x7)] [.inl (x5 + 1)] μ1 res)) := by
  refine (ev_aload_n dX9_tried_52 rfl).trans ?_
  refine (ev_virV dX9_tried_53 c_9_270 (by decide) (As := []) rfl rfl rfl rfl (Nat.le_of_ble_eq_true rfl)).trans ((and_iff_right (by decide)).trans (exists_congr fun μ1 => and_congr_right fun _ => ?_))
  refine (ev_aload_n dX9_tried_56 rfl).trans ?_
  refine (ev_getR dX9_tried_57 f_9_38 rfl).trans ((and_iff_right (by decide)).trans ?_)
  refine (ev_getI2 dX9_tried_60 f_9_51 rfl (v := (μ1 (r0 + 1) 60 o0 28)) (rfl)).trans ((and_iff_right (by decide)).trans ?_)
  refine (ev_ifc dX9_tried_63 (t := 73) (by decide)).trans (and_congr (imp_congr Iff.rfl ?_) (imp_congr Iff.rfl ?_))
  · refine (ev_iconst dX9_tried_73 (w := 0) (by decide)).trans ?_
    exact Iff.rfl
  · refine (ev_iload dX9_tried_66 rfl).trans ?_
    refine (ev_iconst dX9_tried_68 (w := 1) (by decide)).trans ?_
    refine (ev_iadd dX9_tried_69).trans ?_
    refine (ev_goto dX9_tried_70 (t := 74) (by decide)).trans ?_
    exact Iff.rfl
theorem B122_74 {C : Nat → List AV → Mem → Res → Prop} {μ : Mem} {res : Res} {x1 x2 x3 x4 x5 x6 x7 w0 : Int32} {r0 o0 : Nat} : EvE C 122 74 [some (.inr (r0, 40, o0)), some (.inl x1), some (.inl x2), some (.inl x3), some (.inl x4), some (.inl x5), some (.inl x6), some (.inl x7)] [.inl w0] μ res ↔ ((0 ≤ x6 → EvE C 122 98 [some (.inr (r0, 40, o0)), some (.inl x1), some (.inl x2), some (.inl x3), some (.inl x4), some (.inl w0), some (.inl x6), some (.inl x7)] [] μ res) ∧ (¬ (0 ≤ x6) → ((¬ w0 = 24 → EvE C 122 98 [some (.inr (r0, 40, o0)), some (.inl x1), some (.inl x2), some (.inl x3), some (.inl x4), some (.inl w0), some (.inl x6), some (.inl x7)] [] μ res) ∧ (¬ (¬ w0 = 24) → EvE C 122 100 [some (.inr (r0, 40, o0)), some (.inl x1), some (.inl x2), some (.inl x3), some (.inl x4), some (.inl w0), some (.inl x6), some (.inl x7)] [.inl ((x7 - 24) + 1)] μ res)))) := by
  refine (ev_istore dX9_tried_74 (Nat.le_of_ble_eq_true rfl) rfl).trans ?_
  refine (ev_iload dX9_tried_76 rfl).trans ?_
  refine (ev_ifc dX9_tried_78 (t := 98) (by decide)).trans (and_congr (imp_congr Iff.rfl ?_) (imp_congr Iff.rfl ?_))
  · exact Iff.rfl
  · refine (ev_iload dX9_tried_81 rfl).trans ?_
    refine (ev_bipush dX9_tried_83 (w := 24) (by decide)).trans ?_
    refine (ev_icmp dX9_tried_85 (t := 98) (by decide)).trans (and_congr (imp_congr Iff.rfl ?_) (imp_congr Iff.rfl ?_))
    · exact Iff.rfl
    · refine (ev_iload dX9_tried_88 rfl).trans ?_
      refine (ev_bipush dX9_tried_90 (w := 24) (by decide)).trans ?_
      refine (ev_isub dX9_tried_92).trans ?_
      refine (ev_iconst dX9_tried_93 (w := 1) (by decide)).trans ?_
      refine (ev_iadd dX9_tried_94).trans ?_
      refine (ev_goto dX9_tried_95 (t := 100) (by decide)).trans ?_
      exact Iff.rfl
theorem B122_98 {C : Nat → List AV → Mem → Res → Prop} {μ : Mem} {res : Res} {x1 x2 x3 x4 x5 x6 x7 : Int32} {r0 o0 : Nat} : EvE C 122 98 [some (.inr (r0, 40, o0)), some (.inl x1), some (.inl x2), some (.inl x3), some (.inl x4), some (.inl x5), some (.inl x6), some (.inl x7)] [] μ res ↔ EvE C 122 100 [some (.inr (r0, 40, o0)), some (.inl x1), some (.inl x2), some (.inl x3), some (.inl x4), some (.inl x5), some (.inl x6), some (.inl x7)] [.inl x6] μ res := by
  refine (ev_iload dX9_tried_98 rfl).trans ?_
  exact Iff.rfl
theorem B122_100 {C : Nat → List AV → Mem → Res → Prop} {μ : Mem} {res : Res} {x1 x2 x3 x4 x5 x6 x7 w0 : Int32} {r0 o0 : Nat} : EvE C 122 100 [some (.inr (r0, 40, o0)), some (.inl x1), some (.inl x2), some (.inl x3), some (.inl x4), some (.inl x5), some (.inl x6), some (.inl x7)] [.inl w0] μ res ↔ EvE C 122 36 [some (.inr (r0, 40, o0)), some (.inl x1), some (.inl x2), some (.inl x3), some (.inl x4), some (.inl x5), some (.inl w0), some (.inl (x7 + 1))] [] μ res := by
  refine (ev_istore dX9_tried_100 (Nat.le_of_ble_eq_true rfl) rfl).trans ?_
  refine (ev_iinc dX9_tried_102 rfl (w := 1) (by decide) rfl).trans ?_
  refine (ev_goto dX9_tried_105 (t := 36) (by decide)).trans ?_
  exact Iff.rfl
theorem B122_108 {C : Nat → List AV → Mem → Res → Prop} {μ : Mem} {res : Res} {x1 x2 x3 x4 x5 x6 x7 : Int32} {r0 o0 : Nat} : EvE C 122 108 [some (.inr (r0, 40, o0)), some (.inl x1), some (.inl x2), some (.inl x3), some (.inl x4), some (.inl x5), some (.inl x6), some (.inl x7)] [] μ res ↔ ∃ μ1, C 73 [.inr ((r0 + 1), 60, o0), .inr ((r0 + 2), 60, o0)] (mset (mset μ r0 40 o0 21 ((((μ (r0 + 1) 60 o0 25) - (μ (r0 + 2) 60 o0 25)) + (μ (r0 + 1) 60 o0 27)) - (μ (r0 + 2) 60 o0 27))) r0 40 o0 14 0) (none, μ1) ∧ res = (some x6, μ1) := by
  refine (ev_aload_n dX9_tried_108 rfl).trans ?_
  refine (ev_aload_n dX9_tried_109 rfl).trans ?_
  refine (ev_getR dX9_tried_110 f_9_38 rfl).trans ((and_iff_right (by decide)).trans ?_)
  refine (ev_getI2 dX9_tried_113 f_9_219 rfl (v := (μ (r0 + 1) 60 o0 25)) (rfl)).trans ((and_iff_right (by decide)).trans ?_)
  refine (ev_aload_n dX9_tried_116 rfl).trans ?_
  refine (ev_getR dX9_tried_117 f_9_42 rfl).trans ((and_iff_right (by decide)).trans ?_)
  refine (ev_getI2 dX9_tried_120 f_9_219 rfl (v := (μ (r0 + 2) 60 o0 25)) (rfl)).trans ((and_iff_right (by decide)).trans ?_)
  refine (ev_isub dX9_tried_123).trans ?_
  refine (ev_aload_n dX9_tried_124 rfl).trans ?_
  refine (ev_getR dX9_tried_125 f_9_38 rfl).trans ((and_iff_right (by decide)).trans ?_)
  refine (ev_getI2 dX9_tried_128 f_9_197 rfl (v := (μ (r0 + 1) 60 o0 27)) (rfl)).trans ((and_iff_right (by decide)).trans ?_)
  refine (ev_iadd dX9_tried_131).trans ?_
  refine (ev_aload_n dX9_tried_132 rfl).trans ?_
  refine (ev_getR dX9_tried_133 f_9_42 rfl).trans ((and_iff_right (by decide)).trans ?_)
  refine (ev_getI2 dX9_tried_136 f_9_197 rfl (v := (μ (r0 + 2) 60 o0 27)) (rfl)).trans ((and_iff_right (by decide)).trans ?_)
  refine (ev_isub dX9_tried_139).trans ?_
  refine (ev_put dX9_tried_140 f_9_280 rfl (by decide)).trans ((and_iff_right (by decide)).trans ?_)
  refine (ev_aload_n dX9_tried_143 rfl).trans ?_
  refine (ev_iconst dX9_tried_144 (w := 0) (by decide)).trans ?_
  refine (ev_putZ dX9_tried_145 f_9_240 rfl (by decide)).trans ((and_iff_right ⟨by decide, by decide⟩).trans ?_)
  refine (ev_aload_n dX9_tried_148 rfl).trans ?_
  refine (ev_getR dX9_tried_149 f_9_38 rfl).trans ((and_iff_right (by decide)).trans ?_)
  refine (ev_aload_n dX9_tried_152 rfl).trans ?_
  refine (ev_getR dX9_tried_153 f_9_42 rfl).trans ((and_iff_right (by decide)).trans ?_)
  refine (ev_virV dX9_tried_156 c_9_276 (by decide) (As := [.inr ((r0 + 2), 60, o0)]) rfl rfl rfl rfl (Nat.le_of_ble_eq_true rfl)).trans ((and_iff_right (by decide)).trans (exists_congr fun μ1 => and_congr_right fun _ => ?_))
  refine (ev_iload dX9_tried_159 rfl).trans ?_
  exact ev_ireturn dX9_tried_161 rfl
/-! X9_rest -/
theorem B123_0 {C : Nat → List AV → Mem → Res → Prop} {μ : Mem} {res : Res} {x1 : Int32} {r0 o0 : Nat} : EvE C 123 0 [some (.inr (r0, 40, o0)), some (.inl x1)] [] μ res ↔ ∃ v1 μ1, C 74 [.inl x1, .inl 24, .inl 400] μ (some v1, μ1) ∧ ((¬ v1 = 0 → ((¬ (μ1 r0 40 o0 2) = 0 → ∃ v2 μ2, C 122 [.inr (r0, 40, o0), .inl 0, .inl 0, .inl x1, .inl 0] μ1 (some v2, μ2) ∧ EvE C 123 34 [some (.inr (r0, 40, o0)), some (.inl x1)] [.inl v2] μ2 res) ∧ (¬ (¬ (μ1 r0 40 o0 2) = 0) → EvE C 123 34 [some (.inr (r0, 40, o0)), some (.inl x1)] [.inl (-3)] μ1 res))) ∧ (¬ (¬ v1 = 0) → res = (some (-1), μ1))) := by
  refine (ev_iload_n dX9_rest_0 rfl).trans ?_
  refine (ev_bipush dX9_rest_1 (w := 24) (by decide)).trans ?_
  refine (ev_sipush dX9_rest_3 (w := 400) (by decide)).trans ?_
  refine (ev_staI dX9_rest_6 c_9_64 (by decide) (As := [.inl x1, .inl 24, .inl 400]) rfl rfl (by decide) rfl (Nat.le_of_ble_eq_true rfl)).trans (exists_congr fun v1 => exists_congr fun μ1 => and_congr_right fun _ => ?_)
  refine (ev_ifc dX9_rest_9 (t := 14) (by decide)).trans (and_congr (imp_congr Iff.rfl ?_) (imp_congr Iff.rfl ?_))
  · refine (ev_aload_n dX9_rest_14 rfl).trans ?_
    refine (ev_getI2 dX9_rest_15 f_9_61 rfl (v := (μ1 r0 40 o0 2)) (rfl)).trans ((and_iff_right (by decide)).trans ?_)
    refine (ev_ifc dX9_rest_18 (t := 26) (by decide)).trans (and_congr (imp_congr Iff.rfl ?_) (imp_congr Iff.rfl ?_))
    · refine (ev_aload_n dX9_rest_26 rfl).trans ?_
      refine (ev_iconst dX9_rest_27 (w := 0) (by decide)).trans ?_
      refine (ev_iconst dX9_rest_28 (w := 0) (by decide)).trans ?_
      refine (ev_iload_n dX9_rest_29 rfl).trans ?_
      refine (ev_iconst dX9_rest_30 (w := 0) (by decide)).trans ?_
      refine (ev_virI dX9_rest_31 c_9_283 (by decide) (As := [.inl 0, .inl 0, .inl x1, .inl 0]) rfl rfl (by decide) rfl (Nat.le_of_ble_eq_true rfl)).trans ((and_iff_right (by decide)).trans (exists_congr fun v2 => exists_congr fun μ2 => and_congr_right fun _ => ?_))
      exact Iff.rfl
    · refine (ev_bipush dX9_rest_21 (w := (-3)) (by decide)).trans ?_
      refine (ev_goto dX9_rest_23 (t := 34) (by decide)).trans ?_
      exact Iff.rfl
  · refine (ev_iconst dX9_rest_12 (w := (-1)) (by decide)).trans ?_
    exact ev_ireturn dX9_rest_13 rfl
theorem B123_34 {C : Nat → List AV → Mem → Res → Prop} {μ : Mem} {res : Res} {x1 w0 : Int32} {r0 o0 : Nat} : EvE C 123 34 [some (.inr (r0, 40, o0)), some (.inl x1)] [.inl w0] μ res ↔ res = (some w0, μ) := by
  exact ev_ireturn dX9_rest_34 rfl
/-! X9_bears -/
theorem B124_0 {C : Nat → List AV → Mem → Res → Prop} {μ : Mem} {res : Res} {x1 x2 : Int32} {r0 o0 : Nat} : EvE C 124 0 [some (.inr (r0, 40, o0)), some (.inl x1), some (.inl x2), none] [] μ res ↔ ∃ v1 μ1, C 76 [.inl x1] μ (some v1, μ1) ∧ ((v1 = 0 → EvE C 124 19 [some (.inr (r0, 40, o0)), some (.inl x1), some (.inl x2), none] [] μ1 res) ∧ (¬ (v1 = 0) → ∃ v2 μ2, C 74 [.inl x2, .inl 24, .inl 400] μ1 (some v2, μ2) ∧ ((¬ v2 = 0 → ((¬ (μ2 r0 40 o0 2) = 0 → EvE C 124 33 [some (.inr (r0, 40, o0)), some (.inl x1), some (.inl x2), some (.inl 0)] [] μ2 res) ∧ (¬ (¬ (μ2 r0 40 o0 2) = 0) → res = (some (-3), μ2)))) ∧ (¬ (¬ v2 = 0) → EvE C 124 19 [some (.inr (r0, 40, o0)), some (.inl x1), some (.inl x2), none] [] μ2 res)))) := by
  refine (ev_iload_n dX9_bears_0 rfl).trans ?_
  refine (ev_staI dX9_bears_1 c_9_87 (by decide) (As := [.inl x1]) rfl rfl (by decide) rfl (Nat.le_of_ble_eq_true rfl)).trans (exists_congr fun v1 => exists_congr fun μ1 => and_congr_right fun _ => ?_)
  refine (ev_ifc dX9_bears_4 (t := 19) (by decide)).trans (and_congr (imp_congr Iff.rfl ?_) (imp_congr Iff.rfl ?_))
  · exact Iff.rfl
  · refine (ev_iload_n dX9_bears_7 rfl).trans ?_
    refine (ev_bipush dX9_bears_8 (w := 24) (by decide)).trans ?_
    refine (ev_sipush dX9_bears_10 (w := 400) (by decide)).trans ?_
    refine (ev_staI dX9_bears_13 c_9_64 (by decide) (As := [.inl x2, .inl 24, .inl 400]) rfl rfl (by decide) rfl (Nat.le_of_ble_eq_true rfl)).trans (exists_congr fun v2 => exists_congr fun μ2 => and_congr_right fun _ => ?_)
    refine (ev_ifc dX9_bears_16 (t := 21) (by decide)).trans (and_congr (imp_congr Iff.rfl ?_) (imp_congr Iff.rfl ?_))
    · refine (ev_aload_n dX9_bears_21 rfl).trans ?_
      refine (ev_getI2 dX9_bears_22 f_9_61 rfl (v := (μ2 r0 40 o0 2)) (rfl)).trans ((and_iff_right (by decide)).trans ?_)
      refine (ev_ifc dX9_bears_25 (t := 31) (by decide)).trans (and_congr (imp_congr Iff.rfl ?_) (imp_congr Iff.rfl ?_))
      · refine (ev_iconst dX9_bears_31 (w := 0) (by decide)).trans ?_
        refine (ev_istore_n dX9_bears_32 (Nat.le_of_ble_eq_true rfl) rfl).trans ?_
        exact Iff.rfl
      · refine (ev_bipush dX9_bears_28 (w := (-3)) (by decide)).trans ?_
        exact ev_ireturn dX9_bears_30 rfl
    · exact Iff.rfl
theorem B124_19 {C : Nat → List AV → Mem → Res → Prop} {μ : Mem} {res : Res} {x1 x2 : Int32} {r0 o0 : Nat} {u3 : Option AV} : EvE C 124 19 [some (.inr (r0, 40, o0)), some (.inl x1), some (.inl x2), u3] [] μ res ↔ res = (some (-1), μ) := by
  refine (ev_iconst dX9_bears_19 (w := (-1)) (by decide)).trans ?_
  exact ev_ireturn dX9_bears_20 rfl
theorem B124_33 {C : Nat → List AV → Mem → Res → Prop} {μ : Mem} {res : Res} {x1 x2 x3 : Int32} {r0 o0 : Nat} : EvE C 124 33 [some (.inr (r0, 40, o0)), some (.inl x1), some (.inl x2), some (.inl x3)] [] μ res ↔ ((30 < x3 → EvE C 124 56 [some (.inr (r0, 40, o0)), some (.inl x1), some (.inl x2), some (.inl x3)] [] μ res) ∧ (¬ (30 < x3) → ∃ v1 μ1, C 122 [.inr (r0, 40, o0), .inl x1, .inl x3, .inl x2, .inl 0] μ (some v1, μ1) ∧ ((v1 < 0 → EvE C 124 56 [some (.inr (r0, 40, o0)), some (.inl x1), some (.inl x2), some (.inl x3)] [] μ1 res) ∧ (¬ (v1 < 0) → EvE C 124 33 [some (.inr (r0, 40, o0)), some (.inl x1), some (.inl x2), some (.inl (x3 + 1))] [] μ1 res)))) := by
  refine (ev_iload_n dX9_bears_33 rfl).trans ?_
  refine (ev_bipush dX9_bears_34 (w := 30) (by decide)).trans ?_
  refine (ev_icmp dX9_bears_36 (t := 56) (by decide)).trans (and_congr (imp_congr Iff.rfl ?_) (imp_congr Iff.rfl ?_))
  · exact Iff.rfl
  · refine (ev_aload_n dX9_bears_39 rfl).trans ?_
    refine (ev_iload_n dX9_bears_40 rfl).trans ?_
    refine (ev_iload_n dX9_bears_41 rfl).trans ?_
    refine (ev_iload_n dX9_bears_42 rfl).trans ?_
    refine (ev_iconst dX9_bears_43 (w := 0) (by decide)).trans ?_
    refine (ev_virI dX9_bears_44 c_9_283 (by decide) (As := [.inl x1, .inl x3, .inl x2, .inl 0]) rfl rfl (by decide) rfl (Nat.le_of_ble_eq_true rfl)).trans ((and_iff_right (by decide)).trans (exists_congr fun v1 => exists_congr fun μ1 => and_congr_right fun _ => ?_))
    refine (ev_ifc dX9_bears_47 (t := 56) (by decide)).trans (and_congr (imp_congr Iff.rfl ?_) (imp_congr Iff.rfl ?_))
    · exact Iff.rfl
    · refine (ev_iinc dX9_bears_50 rfl (w := 1) (by decide) rfl).trans ?_
      refine (ev_goto dX9_bears_53 (t := 33) (by decide)).trans ?_
      exact Iff.rfl
theorem B124_56 {C : Nat → List AV → Mem → Res → Prop} {μ : Mem} {res : Res} {x1 x2 x3 : Int32} {r0 o0 : Nat} : EvE C 124 56 [some (.inr (r0, 40, o0)), some (.inl x1), some (.inl x2), some (.inl x3)] [] μ res ↔ ((¬ x3 = 0 → EvE C 124 68 [some (.inr (r0, 40, o0)), some (.inl x1), some (.inl x2), some (.inl x3)] [.inl (x3 - 1)] μ res) ∧ (¬ (¬ x3 = 0) → EvE C 124 68 [some (.inr (r0, 40, o0)), some (.inl x1), some (.inl x2), some (.inl x3)] [.inl (-4)] μ res)) := by
  refine (ev_iload_n dX9_bears_56 rfl).trans ?_
  refine (ev_ifc dX9_bears_57 (t := 65) (by decide)).trans (and_congr (imp_congr Iff.rfl ?_) (imp_congr Iff.rfl ?_))
  · refine (ev_iload_n dX9_bears_65 rfl).trans ?_
    refine (ev_iconst dX9_bears_66 (w := 1) (by decide)).trans ?_
    refine (ev_isub dX9_bears_67).trans ?_
    exact Iff.rfl
  · refine (ev_bipush dX9_bears_60 (w := (-4)) (by decide)).trans ?_
    refine (ev_goto dX9_bears_62 (t := 68) (by decide)).trans ?_
    exact Iff.rfl
theorem B124_68 {C : Nat → List AV → Mem → Res → Prop} {μ : Mem} {res : Res} {x1 x2 x3 w0 : Int32} {r0 o0 : Nat} : EvE C 124 68 [some (.inr (r0, 40, o0)), some (.inl x1), some (.inl x2), some (.inl x3)] [.inl w0] μ res ↔ res = (some w0, μ) := by
  exact ev_ireturn dX9_bears_68 rfl
/-! X9_best -/
theorem B125_0 {C : Nat → List AV → Mem → Res → Prop} {μ : Mem} {res : Res} {x1 x2 x3 x4 : Int32} {r0 o0 : Nat} : EvE C 125 0 [some (.inr (r0, 40, o0)), some (.inl x1), some (.inl x2), some (.inl x3), some (.inl x4), none, none, none, none, none, none, none] [] μ res ↔ ∃ v1 μ1, C 75 [.inr (r0, 40, o0), .inl x1] μ (some v1, μ1) ∧ ((v1 = 0 → EvE C 125 38 [some (.inr (r0, 40, o0)), some (.inl x1), some (.inl x2), some (.inl x3), some (.inl x4), none, none, none, none, none, none, none] [] μ1 res) ∧ (¬ (v1 = 0) → ∃ v2 μ2, C 76 [.inl x2] μ1 (some v2, μ2) ∧ ((v2 = 0 → EvE C 125 38 [some (.inr (r0, 40, o0)), some (.inl x1), some (.inl x2), some (.inl x3), some (.inl x4), none, none, none, none, none, none, none] [] μ2 res) ∧ (¬ (v2 = 0) → ∃ v3 μ3, C 74 [.inl x3, .inl 0, .inl 30] μ2 (some v3, μ3) ∧ ((v3 = 0 → EvE C 125 38 [some (.inr (r0, 40, o0)), some (.inl x1), some (.inl x2), some (.inl x3), some (.inl x4), none, none, none, none, none, none, none] [] μ3 res) ∧ (¬ (v3 = 0) → ∃ v4 μ4, C 74 [.inl x4, .inl 24, .inl 400] μ3 (some v4, μ4) ∧ ((¬ v4 = 0 → ∃ v5 μ5, C 77 [.inr (r0, 40, o0), .inl x1, .inl 1] μ4 (some v5, μ5) ∧ ∃ v6 μ6, C 77 [.inr (r0, 40, o0), .inl x1, .inl 2] μ5 (some v6, μ6) ∧ EvE C 125 66 [some (.inr (r0, 40, o0)), some (.inl x1), some (.inl x2), some (.inl x3), some (.inl x4), some (.inl v5), some (.inl v6), some (.inl (-4)), some (.inl 0), some (.inl 0), none, none] [] μ6 res) ∧ (¬ (¬ v4 = 0) → EvE C 125 38 [some (.inr (r0, 40, o0)), some (.inl x1), some (.inl x2), some (.inl x3), some (.inl x4), none, none, none, none, none, none, none] [] μ4 res)))))))) := by
  refine (ev_aload_n dX9_best_0 rfl).trans ?_
  refine (ev_iload_n dX9_best_1 rfl).trans ?_
  refine (ev_virI dX9_best_2 c_9_71 (by decide) (As := [.inl x1]) rfl rfl (by decide) rfl (Nat.le_of_ble_eq_true rfl)).trans ((and_iff_right (by decide)).trans (exists_congr fun v1 => exists_congr fun μ1 => and_congr_right fun _ => ?_))
  refine (ev_ifc dX9_best_5 (t := 38) (by decide)).trans (and_congr (imp_congr Iff.rfl ?_) (imp_congr Iff.rfl ?_))
  · exact Iff.rfl
  · refine (ev_iload_n dX9_best_8 rfl).trans ?_
    refine (ev_staI dX9_best_9 c_9_87 (by decide) (As := [.inl x2]) rfl rfl (by decide) rfl (Nat.le_of_ble_eq_true rfl)).trans (exists_congr fun v2 => exists_congr fun μ2 => and_congr_right fun _ => ?_)
    refine (ev_ifc dX9_best_12 (t := 38) (by decide)).trans (and_congr (imp_congr Iff.rfl ?_) (imp_congr Iff.rfl ?_))
    · exact Iff.rfl
    · refine (ev_iload_n dX9_best_15 rfl).trans ?_
      refine (ev_iconst dX9_best_16 (w := 0) (by decide)).trans ?_
      refine (ev_bipush dX9_best_17 (w := 30) (by decide)).trans ?_
      refine (ev_staI dX9_best_19 c_9_64 (by decide) (As := [.inl x3, .inl 0, .inl 30]) rfl rfl (by decide) rfl (Nat.le_of_ble_eq_true rfl)).trans (exists_congr fun v3 => exists_congr fun μ3 => and_congr_right fun _ => ?_)
      refine (ev_ifc dX9_best_22 (t := 38) (by decide)).trans (and_congr (imp_congr Iff.rfl ?_) (imp_congr Iff.rfl ?_))
      · exact Iff.rfl
      · refine (ev_iload dX9_best_25 rfl).trans ?_
        refine (ev_bipush dX9_best_27 (w := 24) (by decide)).trans ?_
        refine (ev_sipush dX9_best_29 (w := 400) (by decide)).trans ?_
        refine (ev_staI dX9_best_32 c_9_64 (by decide) (As := [.inl x4, .inl 24, .inl 400]) rfl rfl (by decide) rfl (Nat.le_of_ble_eq_true rfl)).trans (exists_congr fun v4 => exists_congr fun μ4 => and_congr_right fun _ => ?_)
        refine (ev_ifc dX9_best_35 (t := 40) (by decide)).trans (and_congr (imp_congr Iff.rfl ?_) (imp_congr Iff.rfl ?_))
        · refine (ev_aload_n dX9_best_40 rfl).trans ?_
          refine (ev_iload_n dX9_best_41 rfl).trans ?_
          refine (ev_iconst dX9_best_42 (w := 1) (by decide)).trans ?_
          refine (ev_virI dX9_best_43 c_9_79 (by decide) (As := [.inl x1, .inl 1]) rfl rfl (by decide) rfl (Nat.le_of_ble_eq_true rfl)).trans ((and_iff_right (by decide)).trans (exists_congr fun v5 => exists_congr fun μ5 => and_congr_right fun _ => ?_))
          refine (ev_istore dX9_best_46 (Nat.le_of_ble_eq_true rfl) rfl).trans ?_
          refine (ev_aload_n dX9_best_48 rfl).trans ?_
          refine (ev_iload_n dX9_best_49 rfl).trans ?_
          refine (ev_iconst dX9_best_50 (w := 2) (by decide)).trans ?_
          refine (ev_virI dX9_best_51 c_9_79 (by decide) (As := [.inl x1, .inl 2]) rfl rfl (by decide) rfl (Nat.le_of_ble_eq_true rfl)).trans ((and_iff_right (by decide)).trans (exists_congr fun v6 => exists_congr fun μ6 => and_congr_right fun _ => ?_))
          refine (ev_istore dX9_best_54 (Nat.le_of_ble_eq_true rfl) rfl).trans ?_
          refine (ev_bipush dX9_best_56 (w := (-4)) (by decide)).trans ?_
          refine (ev_istore dX9_best_58 (Nat.le_of_ble_eq_true rfl) rfl).trans ?_
          refine (ev_iconst dX9_best_60 (w := 0) (by decide)).trans ?_
          refine (ev_istore dX9_best_61 (Nat.le_of_ble_eq_true rfl) rfl).trans ?_
          refine (ev_iconst dX9_best_63 (w := 0) (by decide)).trans ?_
          refine (ev_istore dX9_best_64 (Nat.le_of_ble_eq_true rfl) rfl).trans ?_
          exact Iff.rfl
        · exact Iff.rfl
theorem B125_38 {C : Nat → List AV → Mem → Res → Prop} {μ : Mem} {res : Res} {x1 x2 x3 x4 : Int32} {r0 o0 : Nat} {u5 u6 u7 u8 u9 u10 u11 : Option AV} : EvE C 125 38 [some (.inr (r0, 40, o0)), some (.inl x1), some (.inl x2), some (.inl x3), some (.inl x4), u5, u6, u7, u8, u9, u10, u11] [] μ res ↔ res = (some (-1), μ) := by
  refine (ev_iconst dX9_best_38 (w := (-1)) (by decide)).trans ?_
  exact ev_ireturn dX9_best_39 rfl
theorem B125_66 {C : Nat → List AV → Mem → Res → Prop} {μ : Mem} {res : Res} {x1 x2 x3 x4 x5 x6 x7 x8 x9 : Int32} {r0 o0 : Nat} {u10 u11 : Option AV} : EvE C 125 66 [some (.inr (r0, 40, o0)), some (.inl x1), some (.inl x2), some (.inl x3), some (.inl x4), some (.inl x5), some (.inl x6), some (.inl x7), some (.inl x8), some (.inl x9), u10, u11] [] μ res ↔ ((4 ≤ x9 → vp_in ((9 * x1) + 1) 54 ∧ vp_in ((9 * x1) + 2) 54 ∧ ((0 ≤ x7 → EvE C 125 214 [some (.inr (r0, 40, o0)), some (.inl x1), some (.inl x2), some (.inl x3), some (.inl x4), some (.inl x5), some (.inl x6), some (.inl x7), some (.inl x8), some (.inl x9), u10, u11] [.inl x8, .inr (r0, 40, o0)] (mset (mset μ r0 41 o0 ((9 * x1) + 1).toNatClampNeg x5) r0 41 o0 ((9 * x1) + 2).toNatClampNeg x6) res) ∧ (¬ (0 ≤ x7) → EvE C 125 214 [some (.inr (r0, 40, o0)), some (.inl x1), some (.inl x2), some (.inl x3), some (.inl x4), some (.inl x5), some (.inl x6), some (.inl x7), some (.inl x8), some (.inl x9), u10, u11] [.inl (μ r0 40 o0 17), .inr (r0, 40, o0)] (mset (mset μ r0 41 o0 ((9 * x1) + 1).toNatClampNeg x5) r0 41 o0 ((9 * x1) + 2).toNatClampNeg x6) res))) ∧ (¬ (4 ≤ x9) → EvE C 125 75 [some (.inr (r0, 40, o0)), some (.inl x1), some (.inl x2), some (.inl x3), some (.inl x4), some (.inl x5), some (.inl x6), some (.inl x7), some (.inl x8), some (.inl x9), some (.inl 0), u11] [] μ res)) := by
  refine (ev_iload dX9_best_66 rfl).trans ?_
  refine (ev_iconst dX9_best_68 (w := 4) (by decide)).trans ?_
  refine (ev_icmp dX9_best_69 (t := 173) (by decide)).trans (and_congr (imp_congr Iff.rfl ?_) (imp_congr Iff.rfl ?_))
  · refine (ev_aload_n dX9_best_173 rfl).trans ?_
    refine (ev_getR dX9_best_174 f_9_9 rfl).trans ((and_iff_right (by decide)).trans ?_)
    refine (ev_bipush dX9_best_177 (w := 9) (by decide)).trans ?_
    refine (ev_iload_n dX9_best_179 rfl).trans ?_
    refine (ev_imul dX9_best_180).trans ?_
    refine (ev_iconst dX9_best_181 (w := 1) (by decide)).trans ?_
    refine (ev_iadd dX9_best_182).trans ?_
    refine (ev_iload dX9_best_183 rfl).trans ?_
    refine (ev_iast dX9_best_185 (by decide)).trans (and_congr_right fun _ => ?_)
    refine (ev_aload_n dX9_best_186 rfl).trans ?_
    refine (ev_getR dX9_best_187 f_9_9 rfl).trans ((and_iff_right (by decide)).trans ?_)
    refine (ev_bipush dX9_best_190 (w := 9) (by decide)).trans ?_
    refine (ev_iload_n dX9_best_192 rfl).trans ?_
    refine (ev_imul dX9_best_193).trans ?_
    refine (ev_iconst dX9_best_194 (w := 2) (by decide)).trans ?_
    refine (ev_iadd dX9_best_195).trans ?_
    refine (ev_iload dX9_best_196 rfl).trans ?_
    refine (ev_iast dX9_best_198 (by decide)).trans (and_congr_right fun _ => ?_)
    refine (ev_aload_n dX9_best_199 rfl).trans ?_
    refine (ev_iload dX9_best_200 rfl).trans ?_
    refine (ev_ifc dX9_best_202 (t := 212) (by decide)).trans (and_congr (imp_congr Iff.rfl ?_) (imp_congr Iff.rfl ?_))
    · refine (ev_iload dX9_best_212 rfl).trans ?_
      exact Iff.rfl
    · refine (ev_aload_n dX9_best_205 rfl).trans ?_
      refine (ev_getI2 dX9_best_206 f_9_287 rfl (v := (μ r0 40 o0 17)) ((mget_a (by decide)).trans ((mget_a (by decide)).trans (rfl)))).trans ((and_iff_right (by decide)).trans ?_)
      refine (ev_goto dX9_best_209 (t := 214) (by decide)).trans ?_
      exact Iff.rfl
  · refine (ev_iconst dX9_best_72 (w := 0) (by decide)).trans ?_
    refine (ev_istore dX9_best_73 (Nat.le_of_ble_eq_true rfl) rfl).trans ?_
    exact Iff.rfl
theorem B125_75 {C : Nat → List AV → Mem → Res → Prop} {μ : Mem} {res : Res} {x1 x2 x3 x4 x5 x6 x7 x8 x9 x10 : Int32} {r0 o0 : Nat} {u11 : Option AV} : EvE C 125 75 [some (.inr (r0, 40, o0)), some (.inl x1), some (.inl x2), some (.inl x3), some (.inl x4), some (.inl x5), some (.inl x6), some (.inl x7), some (.inl x8), some (.inl x9), some (.inl x10), u11] [] μ res ↔ ((4 ≤ x10 → EvE C 125 66 [some (.inr (r0, 40, o0)), some (.inl x1), some (.inl x2), some (.inl x3), some (.inl x4), some (.inl x5), some (.inl x6), some (.inl x7), some (.inl x8), some (.inl (x9 + 1)), some (.inl x10), u11] [] μ res) ∧ (¬ (4 ≤ x10) → vp_in ((9 * x1) + 1) 54 ∧ vp_in ((9 * x1) + 2) 54 ∧ ∃ v1 μ1, C 122 [.inr (r0, 40, o0), .inl x2, .inl x3, .inl x4, .inl 1] (mset (mset μ r0 41 o0 ((9 * x1) + 1).toNatClampNeg x9) r0 41 o0 ((9 * x1) + 2).toNatClampNeg x10) (some v1, μ1) ∧ ((v1 < 0 → EvE C 125 124 [some (.inr (r0, 40, o0)), some (.inl x1), some (.inl x2), some (.inl x3), some (.inl x4), some (.inl x5), some (.inl x6), some (.inl x7), some (.inl x8), some (.inl x9), some (.inl x10), u11] [.inl 0] μ1 res) ∧ (¬ (v1 < 0) → EvE C 125 124 [some (.inr (r0, 40, o0)), some (.inl x1), some (.inl x2), some (.inl x3), some (.inl x4), some (.inl x5), some (.inl x6), some (.inl x7), some (.inl x8), some (.inl x9), some (.inl x10), u11] [.inl 1] μ1 res)))) := by
  refine (ev_iload dX9_best_75 rfl).trans ?_
  refine (ev_iconst dX9_best_77 (w := 4) (by decide)).trans ?_
  refine (ev_icmp dX9_best_78 (t := 167) (by decide)).trans (and_congr (imp_congr Iff.rfl ?_) (imp_congr Iff.rfl ?_))
  · refine (ev_iinc dX9_best_167 rfl (w := 1) (by decide) rfl).trans ?_
    refine (ev_goto dX9_best_170 (t := 66) (by decide)).trans ?_
    exact Iff.rfl
  · refine (ev_aload_n dX9_best_81 rfl).trans ?_
    refine (ev_getR dX9_best_82 f_9_9 rfl).trans ((and_iff_right (by decide)).trans ?_)
    refine (ev_bipush dX9_best_85 (w := 9) (by decide)).trans ?_
    refine (ev_iload_n dX9_best_87 rfl).trans ?_
    refine (ev_imul dX9_best_88).trans ?_
    refine (ev_iconst dX9_best_89 (w := 1) (by decide)).trans ?_
    refine (ev_iadd dX9_best_90).trans ?_
    refine (ev_iload dX9_best_91 rfl).trans ?_
    refine (ev_iast dX9_best_93 (by decide)).trans (and_congr_right fun _ => ?_)
    refine (ev_aload_n dX9_best_94 rfl).trans ?_
    refine (ev_getR dX9_best_95 f_9_9 rfl).trans ((and_iff_right (by decide)).trans ?_)
    refine (ev_bipush dX9_best_98 (w := 9) (by decide)).trans ?_
    refine (ev_iload_n dX9_best_100 rfl).trans ?_
    refine (ev_imul dX9_best_101).trans ?_
    refine (ev_iconst dX9_best_102 (w := 2) (by decide)).trans ?_
    refine (ev_iadd dX9_best_103).trans ?_
    refine (ev_iload dX9_best_104 rfl).trans ?_
    refine (ev_iast dX9_best_106 (by decide)).trans (and_congr_right fun _ => ?_)
    refine (ev_aload_n dX9_best_107 rfl).trans ?_
    refine (ev_iload_n dX9_best_108 rfl).trans ?_
    refine (ev_iload_n dX9_best_109 rfl).trans ?_
    refine (ev_iload dX9_best_110 rfl).trans ?_
    refine (ev_iconst dX9_best_112 (w := 1) (by decide)).trans ?_
    refine (ev_virI dX9_best_113 c_9_283 (by decide) (As := [.inl x2, .inl x3, .inl x4, .inl 1]) rfl rfl (by decide) rfl (Nat.le_of_ble_eq_true rfl)).trans ((and_iff_right (by decide)).trans (exists_congr fun v1 => exists_congr fun μ1 => and_congr_right fun _ => ?_))
    refine (ev_ifc dX9_best_116 (t := 123) (by decide)).trans (and_congr (imp_congr Iff.rfl ?_) (imp_congr Iff.rfl ?_))
    · refine (ev_iconst dX9_best_123 (w := 0) (by decide)).trans ?_
      exact Iff.rfl
    · refine (ev_iconst dX9_best_119 (w := 1) (by decide)).trans ?_
      refine (ev_goto dX9_best_120 (t := 124) (by decide)).trans ?_
      exact Iff.rfl
theorem B125_124 {C : Nat → List AV → Mem → Res → Prop} {μ : Mem} {res : Res} {x1 x2 x3 x4 x5 x6 x7 x8 x9 x10 w0 : Int32} {r0 o0 : Nat} {u11 : Option AV} : EvE C 125 124 [some (.inr (r0, 40, o0)), some (.inl x1), some (.inl x2), some (.inl x3), some (.inl x4), some (.inl x5), some (.inl x6), some (.inl x7), some (.inl x8), some (.inl x9), some (.inl x10), u11] [.inl w0] μ res ↔ ((w0 = 0 → EvE C 125 161 [some (.inr (r0, 40, o0)), some (.inl x1), some (.inl x2), some (.inl x3), some (.inl x4), some (.inl x5), some (.inl x6), some (.inl x7), some (.inl x8), some (.inl x9), some (.inl x10), some (.inl w0)] [] μ res) ∧ (¬ (w0 = 0) → ((x7 < 0 → EvE C 125 145 [some (.inr (r0, 40, o0)), some (.inl x1), some (.inl x2), some (.inl x3), some (.inl x4), some (.inl x5), some (.inl x6), some (.inl x7), some (.inl x8), some (.inl x9), some (.inl x10), some (.inl w0)] [] μ res) ∧ (¬ (x7 < 0) → ((x8 ≤ (μ r0 40 o0 21) → EvE C 125 161 [some (.inr (r0, 40, o0)), some (.inl x1), some (.inl x2), some (.inl x3), some (.inl x4), some (.inl x5), some (.inl x6), some (.inl x7), some (.inl x8), some (.inl x9), some (.inl x10), some (.inl w0)] [] μ res) ∧ (¬ (x8 ≤ (μ r0 40 o0 21)) → EvE C 125 145 [some (.inr (r0, 40, o0)), some (.inl x1), some (.inl x2), some (.inl x3), some (.inl x4), some (.inl x5), some (.inl x6), some (.inl x7), some (.inl x8), some (.inl x9), some (.inl x10), some (.inl w0)] [] μ res)))))) := by
  refine (ev_istore dX9_best_124 (Nat.le_of_ble_eq_true rfl) rfl).trans ?_
  refine (ev_iload dX9_best_126 rfl).trans ?_
  refine (ev_ifc dX9_best_128 (t := 161) (by decide)).trans (and_congr (imp_congr Iff.rfl ?_) (imp_congr Iff.rfl ?_))
  · exact Iff.rfl
  · refine (ev_iload dX9_best_131 rfl).trans ?_
    refine (ev_ifc dX9_best_133 (t := 145) (by decide)).trans (and_congr (imp_congr Iff.rfl ?_) (imp_congr Iff.rfl ?_))
    · exact Iff.rfl
    · refine (ev_aload_n dX9_best_136 rfl).trans ?_
      refine (ev_getI2 dX9_best_137 f_9_280 rfl (v := (μ r0 40 o0 21)) (rfl)).trans ((and_iff_right (by decide)).trans ?_)
      refine (ev_iload dX9_best_140 rfl).trans ?_
      refine (ev_icmp dX9_best_142 (t := 161) (by decide)).trans (and_congr (imp_congr Iff.rfl ?_) (imp_congr Iff.rfl ?_))
      · exact Iff.rfl
      · exact Iff.rfl
theorem B125_145 {C : Nat → List AV → Mem → Res → Prop} {μ : Mem} {res : Res} {x1 x2 x3 x4 x5 x6 x7 x8 x9 x10 x11 : Int32} {r0 o0 : Nat} : EvE C 125 145 [some (.inr (r0, 40, o0)), some (.inl x1), some (.inl x2), some (.inl x3), some (.inl x4), some (.inl x5), some (.inl x6), some (.inl x7), some (.inl x8), some (.inl x9), some (.inl x10), some (.inl x11)] [] μ res ↔ EvE C 125 161 [some (.inr (r0, 40, o0)), some (.inl x1), some (.inl x2), some (.inl x3), some (.inl x4), some (.inl x5), some (.inl x6), some (.inl ((10 * x9) + x10)), some (.inl (μ r0 40 o0 21)), some (.inl x9), some (.inl x10), some (.inl x11)] [] μ res := by
  refine (ev_bipush dX9_best_145 (w := 10) (by decide)).trans ?_
  refine (ev_iload dX9_best_147 rfl).trans ?_
  refine (ev_imul dX9_best_149).trans ?_
  refine (ev_iload dX9_best_150 rfl).trans ?_
  refine (ev_iadd dX9_best_152).trans ?_
  refine (ev_istore dX9_best_153 (Nat.le_of_ble_eq_true rfl) rfl).trans ?_
  refine (ev_aload_n dX9_best_155 rfl).trans ?_
  refine (ev_getI2 dX9_best_156 f_9_280 rfl (v := (μ r0 40 o0 21)) (rfl)).trans ((and_iff_right (by decide)).trans ?_)
  refine (ev_istore dX9_best_159 (Nat.le_of_ble_eq_true rfl) rfl).trans ?_
  exact Iff.rfl
theorem B125_161 {C : Nat → List AV → Mem → Res → Prop} {μ : Mem} {res : Res} {x1 x2 x3 x4 x5 x6 x7 x8 x9 x10 x11 : Int32} {r0 o0 : Nat} : EvE C 125 161 [some (.inr (r0, 40, o0)), some (.inl x1), some (.inl x2), some (.inl x3), some (.inl x4), some (.inl x5), some (.inl x6), some (.inl x7), some (.inl x8), some (.inl x9), some (.inl x10), some (.inl x11)] [] μ res ↔ EvE C 125 75 [some (.inr (r0, 40, o0)), some (.inl x1), some (.inl x2), some (.inl x3), some (.inl x4), some (.inl x5), some (.inl x6), some (.inl x7), some (.inl x8), some (.inl x9), some (.inl (x10 + 1)), some (.inl x11)] [] μ res := by
  refine (ev_iinc dX9_best_161 rfl (w := 1) (by decide) rfl).trans ?_
  refine (ev_goto dX9_best_164 (t := 75) (by decide)).trans ?_
  exact Iff.rfl
theorem B125_214 {C : Nat → List AV → Mem → Res → Prop} {μ : Mem} {res : Res} {x1 x2 x3 x4 x5 x6 x7 x8 x9 w1 : Int32} {r0 o0 rs0 os0 : Nat} {u10 u11 : Option AV} : EvE C 125 214 [some (.inr (r0, 40, o0)), some (.inl x1), some (.inl x2), some (.inl x3), some (.inl x4), some (.inl x5), some (.inl x6), some (.inl x7), some (.inl x8), some (.inl x9), u10, u11] [.inl w1, .inr (rs0, 40, os0)] μ res ↔ res = (some x7, (mset μ rs0 40 os0 17 w1)) := by
  refine (ev_put dX9_best_214 f_9_287 rfl (by decide)).trans ((and_iff_right (by decide)).trans ?_)
  refine (ev_iload dX9_best_217 rfl).trans ?_
  exact ev_ireturn dX9_best_219 rfl
/-! X9_price -/
theorem B126_0 {C : Nat → List AV → Mem → Res → Prop} {μ : Mem} {res : Res} {r0 o0 : Nat} : EvE C 126 0 [some (.inr (r0, 40, o0))] [] μ res ↔ res = (some (μ r0 40 o0 17), μ) := by
  refine (ev_aload_n dX9_price_0 rfl).trans ?_
  refine (ev_getI2 dX9_price_1 f_9_287 rfl (v := (μ r0 40 o0 17)) (rfl)).trans ((and_iff_right (by decide)).trans ?_)
  exact ev_ireturn dX9_price_4 rfl
