/-! X0_add -/
theorem B0_0 {C : Nat → List AV → Mem → Res → Prop} {μ : Mem} {res : Res} {x1 : Int32} {r0 o0 : Nat} : EvE C 0 0 [some (.inr (r0, 20, o0)), some (.inl x1), none] [] μ res ↔ ∃ v1 μ1, C 30 [.inr (r0, 21, o0)] μ (some v1, μ1) ∧ ((¬ v1 = (-1) → vp_in v1 100 ∧ vp_in v1 100 ∧ vp_in v1 100 ∧ res = (some v1, (mset (mset (mset μ1 r0 24 o0 v1.toNatClampNeg x1) r0 25 o0 v1.toNatClampNeg (-1)) r0 27 o0 v1.toNatClampNeg 0))) ∧ (¬ (¬ v1 = (-1)) → res = (some (-1), μ1))) := by
  refine (ev_aload_n dX0_add_0 rfl).trans ?_
  refine (ev_getR dX0_add_1 f_0_14 rfl).trans ((and_iff_right (by decide)).trans ?_)
  refine (ev_virI dX0_add_4 c_0_52 (by decide) (As := []) rfl rfl (by decide) rfl (Nat.le_of_ble_eq_true rfl)).trans ((and_iff_right (by decide)).trans (exists_congr fun v1 => exists_congr fun μ1 => and_congr_right fun _ => ?_))
  refine (ev_istore_n dX0_add_7 (Nat.le_of_ble_eq_true rfl) rfl).trans ?_
  refine (ev_iload_n dX0_add_8 rfl).trans ?_
  refine (ev_iconst dX0_add_9 (w := (-1)) (by decide)).trans ?_
  refine (ev_icmp dX0_add_10 (t := 15) (by decide)).trans (and_congr (imp_congr Iff.rfl ?_) (imp_congr Iff.rfl ?_))
  · refine (ev_aload_n dX0_add_15 rfl).trans ?_
    refine (ev_getR dX0_add_16 f_0_20 rfl).trans ((and_iff_right (by decide)).trans ?_)
    refine (ev_iload_n dX0_add_19 rfl).trans ?_
    refine (ev_iload_n dX0_add_20 rfl).trans ?_
    refine (ev_iast dX0_add_21 (by decide)).trans (and_congr_right fun _ => ?_)
    refine (ev_aload_n dX0_add_22 rfl).trans ?_
    refine (ev_getR dX0_add_23 f_0_24 rfl).trans ((and_iff_right (by decide)).trans ?_)
    refine (ev_iload_n dX0_add_26 rfl).trans ?_
    refine (ev_iconst dX0_add_27 (w := (-1)) (by decide)).trans ?_
    refine (ev_iast dX0_add_28 (by decide)).trans (and_congr_right fun _ => ?_)
    refine (ev_aload_n dX0_add_29 rfl).trans ?_
    refine (ev_getR dX0_add_30 f_0_30 rfl).trans ((and_iff_right (by decide)).trans ?_)
    refine (ev_iload_n dX0_add_33 rfl).trans ?_
    refine (ev_iconst dX0_add_34 (w := 0) (by decide)).trans ?_
    refine (ev_iast dX0_add_35 (by decide)).trans (and_congr_right fun _ => ?_)
    refine (ev_iload_n dX0_add_36 rfl).trans ?_
    exact ev_ireturn dX0_add_37 rfl
  · refine (ev_iconst dX0_add_13 (w := (-1)) (by decide)).trans ?_
    exact ev_ireturn dX0_add_14 rfl
/-! X0_copyFrom -/
theorem B1_0 {C : Nat → List AV → Mem → Res → Prop} {μ : Mem} {res : Res} {r0 o0 r1 o1 : Nat} : EvE C 1 0 [some (.inr (r0, 20, o0)), some (.inr (r1, 20, o1))] [] μ res ↔ ∃ μ1, C 33 [.inr (r0, 21, o0), .inr (r1, 21, o1)] μ (none, μ1) ∧ res = (none, (mset (mset (mset (mset (mset (mset (mrow (mrow (mrow (mrow μ1 r0 24 o0 (va_cpy (μ1 r1 24 o1) (μ1 r0 24 o0) 0 0 100)) r0 25 o0 (va_cpy (μ1 r1 25 o1) (μ1 r0 25 o0) 0 0 100)) r0 26 o0 (va_cpy (μ1 r1 26 o1) (μ1 r0 26 o0) 0 0 100)) r0 27 o0 (va_cpy (μ1 r1 27 o1) (μ1 r0 27 o0) 0 0 100)) r0 20 o0 5 (μ1 r1 20 o1 5)) r0 20 o0 6 (μ1 r1 20 o1 6)) r0 20 o0 7 (μ1 r1 20 o1 7)) r0 20 o0 8 (μ1 r1 20 o1 8)) r0 20 o0 9 (μ1 r1 20 o1 9)) r0 20 o0 10 (μ1 r1 20 o1 10))) := by
  refine (ev_aload_n dX0_copyFrom_0 rfl).trans ?_
  refine (ev_getR dX0_copyFrom_1 f_0_14 rfl).trans ((and_iff_right (by decide)).trans ?_)
  refine (ev_aload_n dX0_copyFrom_4 rfl).trans ?_
  refine (ev_getR dX0_copyFrom_5 f_0_14 rfl).trans ((and_iff_right (by decide)).trans ?_)
  refine (ev_virV dX0_copyFrom_8 c_0_56 (by decide) (As := [.inr (r1, 21, o1)]) rfl rfl rfl rfl (Nat.le_of_ble_eq_true rfl)).trans ((and_iff_right (by decide)).trans (exists_congr fun μ1 => and_congr_right fun _ => ?_))
  refine (ev_aload_n dX0_copyFrom_11 rfl).trans ?_
  refine (ev_getR dX0_copyFrom_12 f_0_20 rfl).trans ((and_iff_right (by decide)).trans ?_)
  refine (ev_iconst dX0_copyFrom_15 (w := 0) (by decide)).trans ?_
  refine (ev_aload_n dX0_copyFrom_16 rfl).trans ?_
  refine (ev_getR dX0_copyFrom_17 f_0_20 rfl).trans ((and_iff_right (by decide)).trans ?_)
  refine (ev_iconst dX0_copyFrom_20 (w := 0) (by decide)).trans ?_
  refine (ev_bipush dX0_copyFrom_21 (w := 100) (by decide)).trans ?_
  refine (ev_acpy2 dX0_copyFrom_23 c_0_60 (by decide) (by decide) (Nat.le_of_ble_eq_true rfl) (f := (μ1 r1 24 o1)) (g := (μ1 r0 24 o0)) (rfl) (rfl)).trans ((and_iff_right (by decide)).trans ?_)
  refine (ev_aload_n dX0_copyFrom_26 rfl).trans ?_
  refine (ev_getR dX0_copyFrom_27 f_0_24 rfl).trans ((and_iff_right (by decide)).trans ?_)
  refine (ev_iconst dX0_copyFrom_30 (w := 0) (by decide)).trans ?_
  refine (ev_aload_n dX0_copyFrom_31 rfl).trans ?_
  refine (ev_getR dX0_copyFrom_32 f_0_24 rfl).trans ((and_iff_right (by decide)).trans ?_)
  refine (ev_iconst dX0_copyFrom_35 (w := 0) (by decide)).trans ?_
  refine (ev_bipush dX0_copyFrom_36 (w := 100) (by decide)).trans ?_
  refine (ev_acpy2 dX0_copyFrom_38 c_0_60 (by decide) (by decide) (Nat.le_of_ble_eq_true rfl) (f := (μ1 r1 25 o1)) (g := (μ1 r0 25 o0)) ((mrgetR_a (by decide)).trans (rfl)) ((mrgetR_a (by decide)).trans (rfl))).trans ((and_iff_right (by decide)).trans ?_)
  refine (ev_aload_n dX0_copyFrom_41 rfl).trans ?_
  refine (ev_getR dX0_copyFrom_42 f_0_27 rfl).trans ((and_iff_right (by decide)).trans ?_)
  refine (ev_iconst dX0_copyFrom_45 (w := 0) (by decide)).trans ?_
  refine (ev_aload_n dX0_copyFrom_46 rfl).trans ?_
  refine (ev_getR dX0_copyFrom_47 f_0_27 rfl).trans ((and_iff_right (by decide)).trans ?_)
  refine (ev_iconst dX0_copyFrom_50 (w := 0) (by decide)).trans ?_
  refine (ev_bipush dX0_copyFrom_51 (w := 100) (by decide)).trans ?_
  refine (ev_acpy2 dX0_copyFrom_53 c_0_60 (by decide) (by decide) (Nat.le_of_ble_eq_true rfl) (f := (μ1 r1 26 o1)) (g := (μ1 r0 26 o0)) ((mrgetR_a (by decide)).trans ((mrgetR_a (by decide)).trans (rfl))) ((mrgetR_a (by decide)).trans ((mrgetR_a (by decide)).trans (rfl)))).trans ((and_iff_right (by decide)).trans ?_)
  refine (ev_aload_n dX0_copyFrom_56 rfl).trans ?_
  refine (ev_getR dX0_copyFrom_57 f_0_30 rfl).trans ((and_iff_right (by decide)).trans ?_)
  refine (ev_iconst dX0_copyFrom_60 (w := 0) (by decide)).trans ?_
  refine (ev_aload_n dX0_copyFrom_61 rfl).trans ?_
  refine (ev_getR dX0_copyFrom_62 f_0_30 rfl).trans ((and_iff_right (by decide)).trans ?_)
  refine (ev_iconst dX0_copyFrom_65 (w := 0) (by decide)).trans ?_
  refine (ev_bipush dX0_copyFrom_66 (w := 100) (by decide)).trans ?_
  refine (ev_acpy2 dX0_copyFrom_68 c_0_60 (by decide) (by decide) (Nat.le_of_ble_eq_true rfl) (f := (μ1 r1 27 o1)) (g := (μ1 r0 27 o0)) ((mrgetR_a (by decide)).trans ((mrgetR_a (by decide)).trans ((mrgetR_a (by decide)).trans (rfl)))) ((mrgetR_a (by decide)).trans ((mrgetR_a (by decide)).trans ((mrgetR_a (by decide)).trans (rfl))))).trans ((and_iff_right (by decide)).trans ?_)
  refine (ev_aload_n dX0_copyFrom_71 rfl).trans ?_
  refine (ev_aload_n dX0_copyFrom_72 rfl).trans ?_
  refine (ev_getI2 dX0_copyFrom_73 f_0_33 rfl (v := (μ1 r1 20 o1 5)) ((mrget_a (by decide)).trans ((mrget_a (by decide)).trans ((mrget_a (by decide)).trans ((mrget_a (by decide)).trans (rfl)))))).trans ((and_iff_right (by decide)).trans ?_)
  refine (ev_put dX0_copyFrom_76 f_0_33 rfl (by decide)).trans ((and_iff_right (by decide)).trans ?_)
  refine (ev_aload_n dX0_copyFrom_79 rfl).trans ?_
  refine (ev_aload_n dX0_copyFrom_80 rfl).trans ?_
  refine (ev_getI2 dX0_copyFrom_81 f_0_37 rfl (v := (μ1 r1 20 o1 6)) ((mget_i (by decide)).trans ((mrget_a (by decide)).trans ((mrget_a (by decide)).trans ((mrget_a (by decide)).trans ((mrget_a (by decide)).trans (rfl))))))).trans ((and_iff_right (by decide)).trans ?_)
  refine (ev_put dX0_copyFrom_84 f_0_37 rfl (by decide)).trans ((and_iff_right (by decide)).trans ?_)
  refine (ev_aload_n dX0_copyFrom_87 rfl).trans ?_
  refine (ev_aload_n dX0_copyFrom_88 rfl).trans ?_
  refine (ev_getI2 dX0_copyFrom_89 f_0_40 rfl (v := (μ1 r1 20 o1 7)) ((mget_i (by decide)).trans ((mget_i (by decide)).trans ((mrget_a (by decide)).trans ((mrget_a (by decide)).trans ((mrget_a (by decide)).trans ((mrget_a (by decide)).trans (rfl)))))))).trans ((and_iff_right (by decide)).trans ?_)
  refine (ev_put dX0_copyFrom_92 f_0_40 rfl (by decide)).trans ((and_iff_right (by decide)).trans ?_)
  refine (ev_aload_n dX0_copyFrom_95 rfl).trans ?_
  refine (ev_aload_n dX0_copyFrom_96 rfl).trans ?_
  refine (ev_getI2 dX0_copyFrom_97 f_0_43 rfl (v := (μ1 r1 20 o1 8)) ((mget_i (by decide)).trans ((mget_i (by decide)).trans ((mget_i (by decide)).trans ((mrget_a (by decide)).trans ((mrget_a (by decide)).trans ((mrget_a (by decide)).trans ((mrget_a (by decide)).trans (rfl))))))))).trans ((and_iff_right (by decide)).trans ?_)
  refine (ev_put dX0_copyFrom_100 f_0_43 rfl (by decide)).trans ((and_iff_right (by decide)).trans ?_)
  refine (ev_aload_n dX0_copyFrom_103 rfl).trans ?_
  refine (ev_aload_n dX0_copyFrom_104 rfl).trans ?_
  refine (ev_getI2 dX0_copyFrom_105 f_0_46 rfl (v := (μ1 r1 20 o1 9)) ((mget_i (by decide)).trans ((mget_i (by decide)).trans ((mget_i (by decide)).trans ((mget_i (by decide)).trans ((mrget_a (by decide)).trans ((mrget_a (by decide)).trans ((mrget_a (by decide)).trans ((mrget_a (by decide)).trans (rfl)))))))))).trans ((and_iff_right (by decide)).trans ?_)
  refine (ev_put dX0_copyFrom_108 f_0_46 rfl (by decide)).trans ((and_iff_right (by decide)).trans ?_)
  refine (ev_aload_n dX0_copyFrom_111 rfl).trans ?_
  refine (ev_aload_n dX0_copyFrom_112 rfl).trans ?_
  refine (ev_getI2 dX0_copyFrom_113 f_0_49 rfl (v := (μ1 r1 20 o1 10)) ((mget_i (by decide)).trans ((mget_i (by decide)).trans ((mget_i (by decide)).trans ((mget_i (by decide)).trans ((mget_i (by decide)).trans ((mrget_a (by decide)).trans ((mrget_a (by decide)).trans ((mrget_a (by decide)).trans ((mrget_a (by decide)).trans (rfl))))))))))).trans ((and_iff_right (by decide)).trans ?_)
  refine (ev_put dX0_copyFrom_116 f_0_49 rfl (by decide)).trans ((and_iff_right (by decide)).trans ?_)
  exact ev_return dX0_copyFrom_119 rfl
/-! X1_addService -/
theorem B2_0 {C : Nat → List AV → Mem → Res → Prop} {μ : Mem} {res : Res} {x1 x2 x3 : Int32} {r0 o0 : Nat} : EvE C 2 0 [some (.inr (r0, 1, o0)), some (.inl x1), some (.inl x2), some (.inl x3), none] [] μ res ↔ (((μ r0 1 o0 1) < 6 → vp_in (μ r0 1 o0 1) 6 ∧ res = (some (((μ r0 1 o0 1) + 1) - 1), (mset (mset (mset (mset μ r0 4 (μ r0 1 o0 1).toNatClampNeg 7 x1) r0 4 (μ r0 1 o0 1).toNatClampNeg 9 x2) r0 4 (μ r0 1 o0 1).toNatClampNeg 8 x3) r0 1 o0 1 ((μ r0 1 o0 1) + 1)))) ∧ (¬ ((μ r0 1 o0 1) < 6) → res = (some (-2), μ))) := by
  refine (ev_aload_n dX1_addService_0 rfl).trans ?_
  refine (ev_getI2 dX1_addService_1 f_1_17 rfl (v := (μ r0 1 o0 1)) (rfl)).trans ((and_iff_right (by decide)).trans ?_)
  refine (ev_bipush dX1_addService_4 (w := 6) (by decide)).trans ?_
  refine (ev_icmp dX1_addService_6 (t := 12) (by decide)).trans (and_congr (imp_congr Iff.rfl ?_) (imp_congr Iff.rfl ?_))
  · refine (ev_aload_n dX1_addService_12 rfl).trans ?_
    refine (ev_getR dX1_addService_13 f_1_11 rfl).trans ((and_iff_right (by decide)).trans ?_)
    refine (ev_aload_n dX1_addService_16 rfl).trans ?_
    refine (ev_getI2 dX1_addService_17 f_1_17 rfl (v := (μ r0 1 o0 1)) (rfl)).trans ((and_iff_right (by decide)).trans ?_)
    refine (ev_aald dX1_addService_20 (by decide)).trans (and_congr_right fun _ => ?_)
    refine (ev_getR dX1_addService_21 f_1_73 rfl).trans ((and_iff_right (by decide)).trans ?_)
    refine (ev_astore dX1_addService_24 (Nat.le_of_ble_eq_true rfl) rfl).trans ?_
    refine (ev_aload dX1_addService_26 rfl).trans ?_
    refine (ev_bipush dX1_addService_28 (w := 7) (by decide)).trans ?_
    refine (ev_iload_n dX1_addService_30 rfl).trans ?_
    refine (ev_iast dX1_addService_31 (by decide)).trans ((and_iff_right (by unfold vp_in; decide)).trans ?_)
    refine (ev_aload dX1_addService_32 rfl).trans ?_
    refine (ev_bipush dX1_addService_34 (w := 9) (by decide)).trans ?_
    refine (ev_iload_n dX1_addService_36 rfl).trans ?_
    refine (ev_iast dX1_addService_37 (by decide)).trans ((and_iff_right (by unfold vp_in; decide)).trans ?_)
    refine (ev_aload dX1_addService_38 rfl).trans ?_
    refine (ev_bipush dX1_addService_40 (w := 8) (by decide)).trans ?_
    refine (ev_iload_n dX1_addService_42 rfl).trans ?_
    refine (ev_iast dX1_addService_43 (by decide)).trans ((and_iff_right (by unfold vp_in; decide)).trans ?_)
    refine (ev_aload_n dX1_addService_44 rfl).trans ?_
    refine (ev_dup dX1_addService_45).trans ?_
    refine (ev_getI2 dX1_addService_46 f_1_17 rfl (v := (μ r0 1 o0 1)) ((mget_a (by decide)).trans ((mget_a (by decide)).trans ((mget_a (by decide)).trans (rfl))))).trans ((and_iff_right (by decide)).trans ?_)
    refine (ev_iconst dX1_addService_49 (w := 1) (by decide)).trans ?_
    refine (ev_iadd dX1_addService_50).trans ?_
    refine (ev_put dX1_addService_51 f_1_17 rfl (by decide)).trans ((and_iff_right (by decide)).trans ?_)
    refine (ev_aload_n dX1_addService_54 rfl).trans ?_
    refine (ev_getI2 dX1_addService_55 f_1_17 rfl (v := ((μ r0 1 o0 1) + 1)) (mget_s)).trans ((and_iff_right (by decide)).trans ?_)
    refine (ev_iconst dX1_addService_58 (w := 1) (by decide)).trans ?_
    refine (ev_isub dX1_addService_59).trans ?_
    exact ev_ireturn dX1_addService_60 rfl
  · refine (ev_bipush dX1_addService_9 (w := (-2)) (by decide)).trans ?_
    exact ev_ireturn dX1_addService_11 rfl
/-! X1_step -/
theorem B3_0 {C : Nat → List AV → Mem → Res → Prop} {μ : Mem} {res : Res} {r0 o0 : Nat} : EvE C 3 0 [some (.inr (r0, 1, o0)), none] [] μ res ↔ ∃ μ1, C 4 [.inr (r0, 1, o0)] (mset (mset μ r0 1 o0 2 ((μ r0 1 o0 2) + 1)) r0 1 o0 3 1) (none, μ1) ∧ ∃ μ2, C 5 [.inr (r0, 1, o0)] μ1 (none, μ2) ∧ ∃ μ3, C 6 [.inr (r0, 1, o0)] μ2 (none, μ3) ∧ ∃ μ4, C 7 [.inr (r0, 1, o0)] μ3 (none, μ4) ∧ ∃ μ5, C 8 [.inr (r0, 1, o0)] μ4 (none, μ5) ∧ ∃ μ6, C 9 [.inr (r0, 1, o0)] μ5 (none, μ6) ∧ EvE C 3 41 [some (.inr (r0, 1, o0)), some (.inl 0)] [] μ6 res := by
  refine (ev_aload_n dX1_step_0 rfl).trans ?_
  refine (ev_dup dX1_step_1).trans ?_
  refine (ev_getI2 dX1_step_2 f_1_21 rfl (v := (μ r0 1 o0 2)) (rfl)).trans ((and_iff_right (by decide)).trans ?_)
  refine (ev_iconst dX1_step_5 (w := 1) (by decide)).trans ?_
  refine (ev_iadd dX1_step_6).trans ?_
  refine (ev_put dX1_step_7 f_1_21 rfl (by decide)).trans ((and_iff_right (by decide)).trans ?_)
  refine (ev_aload_n dX1_step_10 rfl).trans ?_
  refine (ev_iconst dX1_step_11 (w := 1) (by decide)).trans ?_
  refine (ev_putZ dX1_step_12 f_1_24 rfl (by decide)).trans ((and_iff_right ⟨by decide, by decide⟩).trans ?_)
  refine (ev_aload_n dX1_step_15 rfl).trans ?_
  refine (ev_virV dX1_step_16 c_1_76 (by decide) (As := []) rfl rfl rfl rfl (Nat.le_of_ble_eq_true rfl)).trans ((and_iff_right (by decide)).trans (exists_congr fun μ1 => and_congr_right fun _ => ?_))
  refine (ev_aload_n dX1_step_19 rfl).trans ?_
  refine (ev_virV dX1_step_20 c_1_79 (by decide) (As := []) rfl rfl rfl rfl (Nat.le_of_ble_eq_true rfl)).trans ((and_iff_right (by decide)).trans (exists_congr fun μ2 => and_congr_right fun _ => ?_))
  refine (ev_aload_n dX1_step_23 rfl).trans ?_
  refine (ev_virV dX1_step_24 c_1_82 (by decide) (As := []) rfl rfl rfl rfl (Nat.le_of_ble_eq_true rfl)).trans ((and_iff_right (by decide)).trans (exists_congr fun μ3 => and_congr_right fun _ => ?_))
  refine (ev_aload_n dX1_step_27 rfl).trans ?_
  refine (ev_virV dX1_step_28 c_1_85 (by decide) (As := []) rfl rfl rfl rfl (Nat.le_of_ble_eq_true rfl)).trans ((and_iff_right (by decide)).trans (exists_congr fun μ4 => and_congr_right fun _ => ?_))
  refine (ev_aload_n dX1_step_31 rfl).trans ?_
  refine (ev_virV dX1_step_32 c_1_88 (by decide) (As := []) rfl rfl rfl rfl (Nat.le_of_ble_eq_true rfl)).trans ((and_iff_right (by decide)).trans (exists_congr fun μ5 => and_congr_right fun _ => ?_))
  refine (ev_aload_n dX1_step_35 rfl).trans ?_
  refine (ev_virV dX1_step_36 c_1_91 (by decide) (As := []) rfl rfl rfl rfl (Nat.le_of_ble_eq_true rfl)).trans ((and_iff_right (by decide)).trans (exists_congr fun μ6 => and_congr_right fun _ => ?_))
  refine (ev_iconst dX1_step_39 (w := 0) (by decide)).trans ?_
  refine (ev_istore_n dX1_step_40 (Nat.le_of_ble_eq_true rfl) rfl).trans ?_
  exact Iff.rfl
theorem B3_41 {C : Nat → List AV → Mem → Res → Prop} {μ : Mem} {res : Res} {x1 : Int32} {r0 o0 : Nat} : EvE C 3 41 [some (.inr (r0, 1, o0)), some (.inl x1)] [] μ res ↔ (((μ r0 28 o0 3) ≤ x1 → ∃ μ1, C 45 [.inr (r0, 28, o0), .inl (μ r0 1 o0 2)] μ (none, μ1) ∧ ∃ v2 μ2, C 35 [.inr (r0, 32, o0), .inl (μ1 r0 1 o0 2)] μ1 (some v2, μ2) ∧ vp_in v2 12 ∧ vp_in v2 12 ∧ ∃ μ3, C 10 [.inr (r0, 1, o0), .inl (μ2 r0 33 o0 v2.toNatClampNeg), .inl (μ2 r0 34 o0 v2.toNatClampNeg)] μ2 (none, μ3) ∧ res = (none, μ3)) ∧ (¬ ((μ r0 28 o0 3) ≤ x1) → vp_in x1 40 ∧ ∃ v4 μ4, C 44 [.inr (r0, 28, o0), .inl (μ r0 1 o0 2), .inl x1] μ (some v4, μ4) ∧ ∃ μ5, C 10 [.inr (r0, 1, o0), .inl (μ r0 30 o0 x1.toNatClampNeg), .inl v4] μ4 (none, μ5) ∧ EvE C 3 41 [some (.inr (r0, 1, o0)), some (.inl (x1 + 1))] [] μ5 res)) := by
  refine (ev_iload_n dX1_step_41 rfl).trans ?_
  refine (ev_aload_n dX1_step_42 rfl).trans ?_
  refine (ev_getR dX1_step_43 f_1_48 rfl).trans ((and_iff_right (by decide)).trans ?_)
  refine (ev_getI2 dX1_step_46 f_1_94 rfl (v := (μ r0 28 o0 3)) (rfl)).trans ((and_iff_right (by decide)).trans ?_)
  refine (ev_icmp dX1_step_49 (t := 83) (by decide)).trans (and_congr (imp_congr Iff.rfl ?_) (imp_congr Iff.rfl ?_))
  · refine (ev_aload_n dX1_step_83 rfl).trans ?_
    refine (ev_getR dX1_step_84 f_1_48 rfl).trans ((and_iff_right (by decide)).trans ?_)
    refine (ev_aload_n dX1_step_87 rfl).trans ?_
    refine (ev_getI2 dX1_step_88 f_1_21 rfl (v := (μ r0 1 o0 2)) (rfl)).trans ((and_iff_right (by decide)).trans ?_)
    refine (ev_virV dX1_step_91 c_1_108 (by decide) (As := [.inl (μ r0 1 o0 2)]) rfl rfl rfl rfl (Nat.le_of_ble_eq_true rfl)).trans ((and_iff_right (by decide)).trans (exists_congr fun μ1 => and_congr_right fun _ => ?_))
    refine (ev_aload_n dX1_step_94 rfl).trans ?_
    refine (ev_getR dX1_step_95 f_1_55 rfl).trans ((and_iff_right (by decide)).trans ?_)
    refine (ev_aload_n dX1_step_98 rfl).trans ?_
    refine (ev_getI2 dX1_step_99 f_1_21 rfl (v := (μ1 r0 1 o0 2)) (rfl)).trans ((and_iff_right (by decide)).trans ?_)
    refine (ev_virI dX1_step_102 c_1_112 (by decide) (As := [.inl (μ1 r0 1 o0 2)]) rfl rfl (by decide) rfl (Nat.le_of_ble_eq_true rfl)).trans ((and_iff_right (by decide)).trans (exists_congr fun v2 => exists_congr fun μ2 => and_congr_right fun _ => ?_))
    refine (ev_istore_n dX1_step_105 (Nat.le_of_ble_eq_true rfl) rfl).trans ?_
    refine (ev_aload_n dX1_step_106 rfl).trans ?_
    refine (ev_aload_n dX1_step_107 rfl).trans ?_
    refine (ev_getR dX1_step_108 f_1_55 rfl).trans ((and_iff_right (by decide)).trans ?_)
    refine (ev_getR dX1_step_111 f_1_116 rfl).trans ((and_iff_right (by decide)).trans ?_)
    refine (ev_iload_n dX1_step_114 rfl).trans ?_
    refine (ev_iald2 dX1_step_115 (by decide) (v := (μ2 r0 33 o0 v2.toNatClampNeg)) (rfl)).trans (and_congr_right fun _ => ?_)
    refine (ev_aload_n dX1_step_116 rfl).trans ?_
    refine (ev_getR dX1_step_117 f_1_55 rfl).trans ((and_iff_right (by decide)).trans ?_)
    refine (ev_getR dX1_step_120 f_1_117 rfl).trans ((and_iff_right (by decide)).trans ?_)
    refine (ev_iload_n dX1_step_123 rfl).trans ?_
    refine (ev_iald2 dX1_step_124 (by decide) (v := (μ2 r0 34 o0 v2.toNatClampNeg)) (rfl)).trans (and_congr_right fun _ => ?_)
    refine (ev_virV dX1_step_125 c_1_104 (by decide) (As := [.inl (μ2 r0 33 o0 v2.toNatClampNeg), .inl (μ2 r0 34 o0 v2.toNatClampNeg)]) rfl rfl rfl rfl (Nat.le_of_ble_eq_true rfl)).trans ((and_iff_right (by decide)).trans (exists_congr fun μ3 => and_congr_right fun _ => ?_))
    exact ev_return dX1_step_128 rfl
  · refine (ev_aload_n dX1_step_52 rfl).trans ?_
    refine (ev_aload_n dX1_step_53 rfl).trans ?_
    refine (ev_getR dX1_step_54 f_1_48 rfl).trans ((and_iff_right (by decide)).trans ?_)
    refine (ev_getR dX1_step_57 f_1_97 rfl).trans ((and_iff_right (by decide)).trans ?_)
    refine (ev_iload_n dX1_step_60 rfl).trans ?_
    refine (ev_iald2 dX1_step_61 (by decide) (v := (μ r0 30 o0 x1.toNatClampNeg)) (rfl)).trans (and_congr_right fun _ => ?_)
    refine (ev_aload_n dX1_step_62 rfl).trans ?_
    refine (ev_getR dX1_step_63 f_1_48 rfl).trans ((and_iff_right (by decide)).trans ?_)
    refine (ev_aload_n dX1_step_66 rfl).trans ?_
    refine (ev_getI2 dX1_step_67 f_1_21 rfl (v := (μ r0 1 o0 2)) (rfl)).trans ((and_iff_right (by decide)).trans ?_)
    refine (ev_iload_n dX1_step_70 rfl).trans ?_
    refine (ev_virI dX1_step_71 c_1_100 (by decide) (As := [.inl (μ r0 1 o0 2), .inl x1]) rfl rfl (by decide) rfl (Nat.le_of_ble_eq_true rfl)).trans ((and_iff_right (by decide)).trans (exists_congr fun v4 => exists_congr fun μ4 => and_congr_right fun _ => ?_))
    refine (ev_virV dX1_step_74 c_1_104 (by decide) (As := [.inl (μ r0 30 o0 x1.toNatClampNeg), .inl v4]) rfl rfl rfl rfl (Nat.le_of_ble_eq_true rfl)).trans ((and_iff_right (by decide)).trans (exists_congr fun μ5 => and_congr_right fun _ => ?_))
    refine (ev_iinc dX1_step_77 rfl (w := 1) (by decide) rfl).trans ?_
    refine (ev_goto dX1_step_80 (t := 41) (by decide)).trans ?_
    exact Iff.rfl
/-! X1_findDueJobs -/
theorem B4_0 {C : Nat → List AV → Mem → Res → Prop} {μ : Mem} {res : Res} {r0 o0 : Nat} : EvE C 4 0 [some (.inr (r0, 1, o0)), none, none] [] μ res ↔ EvE C 4 18 [some (.inr (r0, 1, o0)), some (.inl (μ r0 9 o0 2)), some (.inl 0)] [] (mset μ r0 1 o0 10 0) res := by
  refine (ev_aload_n dX1_findDueJobs_0 rfl).trans ?_
  refine (ev_iconst dX1_findDueJobs_1 (w := 0) (by decide)).trans ?_
  refine (ev_put dX1_findDueJobs_2 f_1_63 rfl (by decide)).trans ((and_iff_right (by decide)).trans ?_)
  refine (ev_aload_n dX1_findDueJobs_5 rfl).trans ?_
  refine (ev_getR dX1_findDueJobs_6 f_1_34 rfl).trans ((and_iff_right (by decide)).trans ?_)
  refine (ev_getR dX1_findDueJobs_9 f_1_120 rfl).trans ((and_iff_right (by decide)).trans ?_)
  refine (ev_getI2 dX1_findDueJobs_12 f_1_124 rfl (v := (μ r0 9 o0 2)) ((mget_a (by decide)).trans (rfl))).trans ((and_iff_right (by decide)).trans ?_)
  refine (ev_istore_n dX1_findDueJobs_15 (Nat.le_of_ble_eq_true rfl) rfl).trans ?_
  refine (ev_iconst dX1_findDueJobs_16 (w := 0) (by decide)).trans ?_
  refine (ev_istore_n dX1_findDueJobs_17 (Nat.le_of_ble_eq_true rfl) rfl).trans ?_
  exact Iff.rfl
theorem B4_18 {C : Nat → List AV → Mem → Res → Prop} {μ : Mem} {res : Res} {x1 x2 : Int32} {r0 o0 : Nat} : EvE C 4 18 [some (.inr (r0, 1, o0)), some (.inl x1), some (.inl x2)] [] μ res ↔ ((120 ≤ x2 → EvE C 4 84 [some (.inr (r0, 1, o0)), some (.inl x1), some (.inl x2)] [] μ res) ∧ (¬ (120 ≤ x2) → ((x1 = (-1) → EvE C 4 84 [some (.inr (r0, 1, o0)), some (.inl x1), some (.inl x2)] [] μ res) ∧ (¬ (x1 = (-1)) → vp_in x1 120 ∧ ((¬ (μ r0 18 o0 x1.toNatClampNeg) = (μ r0 1 o0 2) → EvE C 4 65 [some (.inr (r0, 1, o0)), some (.inl x1), some (.inl x2)] [] μ res) ∧ (¬ (¬ (μ r0 18 o0 x1.toNatClampNeg) = (μ r0 1 o0 2)) → vp_in (μ r0 1 o0 10) 120 ∧ EvE C 4 65 [some (.inr (r0, 1, o0)), some (.inl x1), some (.inl x2)] [] (mset (mset μ r0 35 o0 (μ r0 1 o0 10).toNatClampNeg x1) r0 1 o0 10 ((μ r0 1 o0 10) + 1)) res)))))) := by
  refine (ev_iload_n dX1_findDueJobs_18 rfl).trans ?_
  refine (ev_bipush dX1_findDueJobs_19 (w := 120) (by decide)).trans ?_
  refine (ev_icmp dX1_findDueJobs_21 (t := 84) (by decide)).trans (and_congr (imp_congr Iff.rfl ?_) (imp_congr Iff.rfl ?_))
  · exact Iff.rfl
  · refine (ev_iload_n dX1_findDueJobs_24 rfl).trans ?_
    refine (ev_iconst dX1_findDueJobs_25 (w := (-1)) (by decide)).trans ?_
    refine (ev_icmp dX1_findDueJobs_26 (t := 84) (by decide)).trans (and_congr (imp_congr Iff.rfl ?_) (imp_congr Iff.rfl ?_))
    · exact Iff.rfl
    · refine (ev_aload_n dX1_findDueJobs_29 rfl).trans ?_
      refine (ev_getR dX1_findDueJobs_30 f_1_34 rfl).trans ((and_iff_right (by decide)).trans ?_)
      refine (ev_getR dX1_findDueJobs_33 f_1_129 rfl).trans ((and_iff_right (by decide)).trans ?_)
      refine (ev_iload_n dX1_findDueJobs_36 rfl).trans ?_
      refine (ev_iald2 dX1_findDueJobs_37 (by decide) (v := (μ r0 18 o0 x1.toNatClampNeg)) (rfl)).trans (and_congr_right fun _ => ?_)
      refine (ev_aload_n dX1_findDueJobs_38 rfl).trans ?_
      refine (ev_getI2 dX1_findDueJobs_39 f_1_21 rfl (v := (μ r0 1 o0 2)) (rfl)).trans ((and_iff_right (by decide)).trans ?_)
      refine (ev_icmp dX1_findDueJobs_42 (t := 65) (by decide)).trans (and_congr (imp_congr Iff.rfl ?_) (imp_congr Iff.rfl ?_))
      · exact Iff.rfl
      · refine (ev_aload_n dX1_findDueJobs_45 rfl).trans ?_
        refine (ev_getR dX1_findDueJobs_46 f_1_59 rfl).trans ((and_iff_right (by decide)).trans ?_)
        refine (ev_aload_n dX1_findDueJobs_49 rfl).trans ?_
        refine (ev_getI2 dX1_findDueJobs_50 f_1_63 rfl (v := (μ r0 1 o0 10)) (rfl)).trans ((and_iff_right (by decide)).trans ?_)
        refine (ev_iload_n dX1_findDueJobs_53 rfl).trans ?_
        refine (ev_iast dX1_findDueJobs_54 (by decide)).trans (and_congr_right fun _ => ?_)
        refine (ev_aload_n dX1_findDueJobs_55 rfl).trans ?_
        refine (ev_dup dX1_findDueJobs_56).trans ?_
        refine (ev_getI2 dX1_findDueJobs_57 f_1_63 rfl (v := (μ r0 1 o0 10)) ((mget_a (by decide)).trans (rfl))).trans ((and_iff_right (by decide)).trans ?_)
        refine (ev_iconst dX1_findDueJobs_60 (w := 1) (by decide)).trans ?_
        refine (ev_iadd dX1_findDueJobs_61).trans ?_
        refine (ev_put dX1_findDueJobs_62 f_1_63 rfl (by decide)).trans ((and_iff_right (by decide)).trans ?_)
        exact Iff.rfl
theorem B4_65 {C : Nat → List AV → Mem → Res → Prop} {μ : Mem} {res : Res} {x1 x2 : Int32} {r0 o0 : Nat} : EvE C 4 65 [some (.inr (r0, 1, o0)), some (.inl x1), some (.inl x2)] [] μ res ↔ vp_in x1 120 ∧ EvE C 4 18 [some (.inr (r0, 1, o0)), some (.inl (μ r0 11 o0 x1.toNatClampNeg)), some (.inl (x2 + 1))] [] μ res := by
  refine (ev_aload_n dX1_findDueJobs_65 rfl).trans ?_
  refine (ev_getR dX1_findDueJobs_66 f_1_34 rfl).trans ((and_iff_right (by decide)).trans ?_)
  refine (ev_getR dX1_findDueJobs_69 f_1_120 rfl).trans ((and_iff_right (by decide)).trans ?_)
  refine (ev_getR dX1_findDueJobs_72 f_1_132 rfl).trans ((and_iff_right (by decide)).trans ?_)
  refine (ev_iload_n dX1_findDueJobs_75 rfl).trans ?_
  refine (ev_iald2 dX1_findDueJobs_76 (by decide) (v := (μ r0 11 o0 x1.toNatClampNeg)) (rfl)).trans (and_congr_right fun _ => ?_)
  refine (ev_istore_n dX1_findDueJobs_77 (Nat.le_of_ble_eq_true rfl) rfl).trans ?_
  refine (ev_iinc dX1_findDueJobs_78 rfl (w := 1) (by decide) rfl).trans ?_
  refine (ev_goto dX1_findDueJobs_81 (t := 18) (by decide)).trans ?_
  exact Iff.rfl
theorem B4_84 {C : Nat → List AV → Mem → Res → Prop} {μ : Mem} {res : Res} {x1 x2 : Int32} {r0 o0 : Nat} : EvE C 4 84 [some (.inr (r0, 1, o0)), some (.inl x1), some (.inl x2)] [] μ res ↔ res = (none, μ) := by
  exact ev_return dX1_findDueJobs_84 rfl
/-! X1_endWork -/
theorem B5_0 {C : Nat → List AV → Mem → Res → Prop} {μ : Mem} {res : Res} {r0 o0 : Nat} : EvE C 5 0 [some (.inr (r0, 1, o0)), none, none] [] μ res ↔ EvE C 5 2 [some (.inr (r0, 1, o0)), some (.inl 0), none] [] μ res := by
  refine (ev_iconst dX1_endWork_0 (w := 0) (by decide)).trans ?_
  refine (ev_istore_n dX1_endWork_1 (Nat.le_of_ble_eq_true rfl) rfl).trans ?_
  exact Iff.rfl
theorem B5_2 {C : Nat → List AV → Mem → Res → Prop} {μ : Mem} {res : Res} {x1 : Int32} {r0 o0 : Nat} {u2 : Option AV} : EvE C 5 2 [some (.inr (r0, 1, o0)), some (.inl x1), u2] [] μ res ↔ (((μ r0 1 o0 10) ≤ x1 → res = (none, μ)) ∧ (¬ ((μ r0 1 o0 10) ≤ x1) → vp_in x1 120 ∧ ∃ v1 μ1, C 27 [.inr (r0, 8, o0), .inl (μ r0 35 o0 x1.toNatClampNeg), .inl 1, .inl (μ r0 1 o0 2)] μ (some v1, μ1) ∧ ((v1 = 0 → EvE C 5 69 [some (.inr (r0, 1, o0)), some (.inl x1), some (.inl (μ r0 35 o0 x1.toNatClampNeg))] [] μ1 res) ∧ (¬ (v1 = 0) → vp_in (μ r0 35 o0 x1.toNatClampNeg) 120 ∧ (((μ1 r0 1 o0 1) ≤ ((μ1 r0 13 o0 (μ r0 35 o0 x1.toNatClampNeg).toNatClampNeg) + 1) → ∃ μ2, C 18 [.inr (r0, 1, o0), .inl (μ r0 35 o0 x1.toNatClampNeg), .inl 1] μ1 (none, μ2) ∧ EvE C 5 65 [some (.inr (r0, 1, o0)), some (.inl x1), some (.inl (μ r0 35 o0 x1.toNatClampNeg))] [] μ2 res) ∧ (¬ ((μ1 r0 1 o0 1) ≤ ((μ1 r0 13 o0 (μ r0 35 o0 x1.toNatClampNeg).toNatClampNeg) + 1)) → ∃ μ3, C 12 [.inr (r0, 1, o0), .inl (μ r0 35 o0 x1.toNatClampNeg)] μ1 (none, μ3) ∧ EvE C 5 65 [some (.inr (r0, 1, o0)), some (.inl x1), some (.inl (μ r0 35 o0 x1.toNatClampNeg))] [] μ3 res)))))) := by
  refine (ev_iload_n dX1_endWork_2 rfl).trans ?_
  refine (ev_aload_n dX1_endWork_3 rfl).trans ?_
  refine (ev_getI2 dX1_endWork_4 f_1_63 rfl (v := (μ r0 1 o0 10)) (rfl)).trans ((and_iff_right (by decide)).trans ?_)
  refine (ev_icmp dX1_endWork_7 (t := 75) (by decide)).trans (and_congr (imp_congr Iff.rfl ?_) (imp_congr Iff.rfl ?_))
  · exact ev_return dX1_endWork_75 rfl
  · refine (ev_aload_n dX1_endWork_10 rfl).trans ?_
    refine (ev_getR dX1_endWork_11 f_1_59 rfl).trans ((and_iff_right (by decide)).trans ?_)
    refine (ev_iload_n dX1_endWork_14 rfl).trans ?_
    refine (ev_iald2 dX1_endWork_15 (by decide) (v := (μ r0 35 o0 x1.toNatClampNeg)) (rfl)).trans (and_congr_right fun _ => ?_)
    refine (ev_istore_n dX1_endWork_16 (Nat.le_of_ble_eq_true rfl) rfl).trans ?_
    refine (ev_aload_n dX1_endWork_17 rfl).trans ?_
    refine (ev_getR dX1_endWork_18 f_1_34 rfl).trans ((and_iff_right (by decide)).trans ?_)
    refine (ev_iload_n dX1_endWork_21 rfl).trans ?_
    refine (ev_iconst dX1_endWork_22 (w := 1) (by decide)).trans ?_
    refine (ev_aload_n dX1_endWork_23 rfl).trans ?_
    refine (ev_getI2 dX1_endWork_24 f_1_21 rfl (v := (μ r0 1 o0 2)) (rfl)).trans ((and_iff_right (by decide)).trans ?_)
    refine (ev_virI dX1_endWork_27 c_1_135 (by decide) (As := [.inl (μ r0 35 o0 x1.toNatClampNeg), .inl 1, .inl (μ r0 1 o0 2)]) rfl rfl (by decide) rfl (Nat.le_of_ble_eq_true rfl)).trans ((and_iff_right (by decide)).trans (exists_congr fun v1 => exists_congr fun μ1 => and_congr_right fun _ => ?_))
    refine (ev_ifc dX1_endWork_30 (t := 69) (by decide)).trans (and_congr (imp_congr Iff.rfl ?_) (imp_congr Iff.rfl ?_))
    · exact Iff.rfl
    · refine (ev_aload_n dX1_endWork_33 rfl).trans ?_
      refine (ev_getR dX1_endWork_34 f_1_34 rfl).trans ((and_iff_right (by decide)).trans ?_)
      refine (ev_getR dX1_endWork_37 f_1_139 rfl).trans ((and_iff_right (by decide)).trans ?_)
      refine (ev_iload_n dX1_endWork_40 rfl).trans ?_
      refine (ev_iald2 dX1_endWork_41 (by decide) (v := (μ1 r0 13 o0 (μ r0 35 o0 x1.toNatClampNeg).toNatClampNeg)) (rfl)).trans (and_congr_right fun _ => ?_)
      refine (ev_iconst dX1_endWork_42 (w := 1) (by decide)).trans ?_
      refine (ev_iadd dX1_endWork_43).trans ?_
      refine (ev_aload_n dX1_endWork_44 rfl).trans ?_
      refine (ev_getI2 dX1_endWork_45 f_1_17 rfl (v := (μ1 r0 1 o0 1)) (rfl)).trans ((and_iff_right (by decide)).trans ?_)
      refine (ev_icmp dX1_endWork_48 (t := 59) (by decide)).trans (and_congr (imp_congr Iff.rfl ?_) (imp_congr Iff.rfl ?_))
      · refine (ev_aload_n dX1_endWork_59 rfl).trans ?_
        refine (ev_iload_n dX1_endWork_60 rfl).trans ?_
        refine (ev_iconst dX1_endWork_61 (w := 1) (by decide)).trans ?_
        refine (ev_virV dX1_endWork_62 c_1_145 (by decide) (As := [.inl (μ r0 35 o0 x1.toNatClampNeg), .inl 1]) rfl rfl rfl rfl (Nat.le_of_ble_eq_true rfl)).trans ((and_iff_right (by decide)).trans (exists_congr fun μ2 => and_congr_right fun _ => ?_))
        exact Iff.rfl
      · refine (ev_aload_n dX1_endWork_51 rfl).trans ?_
        refine (ev_iload_n dX1_endWork_52 rfl).trans ?_
        refine (ev_virV dX1_endWork_53 c_1_142 (by decide) (As := [.inl (μ r0 35 o0 x1.toNatClampNeg)]) rfl rfl rfl rfl (Nat.le_of_ble_eq_true rfl)).trans ((and_iff_right (by decide)).trans (exists_congr fun μ3 => and_congr_right fun _ => ?_))
        refine (ev_goto dX1_endWork_56 (t := 65) (by decide)).trans ?_
        exact Iff.rfl
theorem B5_65 {C : Nat → List AV → Mem → Res → Prop} {μ : Mem} {res : Res} {x1 x2 : Int32} {r0 o0 : Nat} : EvE C 5 65 [some (.inr (r0, 1, o0)), some (.inl x1), some (.inl x2)] [] μ res ↔ ∃ μ1, C 20 [.inr (r0, 1, o0)] μ (none, μ1) ∧ EvE C 5 69 [some (.inr (r0, 1, o0)), some (.inl x1), some (.inl x2)] [] μ1 res := by
  refine (ev_aload_n dX1_endWork_65 rfl).trans ?_
  refine (ev_virV dX1_endWork_66 c_1_149 (by decide) (As := []) rfl rfl rfl rfl (Nat.le_of_ble_eq_true rfl)).trans ((and_iff_right (by decide)).trans (exists_congr fun μ1 => and_congr_right fun _ => ?_))
  exact Iff.rfl
theorem B5_69 {C : Nat → List AV → Mem → Res → Prop} {μ : Mem} {res : Res} {x1 x2 : Int32} {r0 o0 : Nat} : EvE C 5 69 [some (.inr (r0, 1, o0)), some (.inl x1), some (.inl x2)] [] μ res ↔ EvE C 5 2 [some (.inr (r0, 1, o0)), some (.inl (x1 + 1)), some (.inl x2)] [] μ res := by
  refine (ev_iinc dX1_endWork_69 rfl (w := 1) (by decide) rfl).trans ?_
  refine (ev_goto dX1_endWork_72 (t := 2) (by decide)).trans ?_
  exact Iff.rfl
/-! X1_endPauses -/
theorem B6_0 {C : Nat → List AV → Mem → Res → Prop} {μ : Mem} {res : Res} {r0 o0 : Nat} : EvE C 6 0 [some (.inr (r0, 1, o0)), none, none] [] μ res ↔ EvE C 6 2 [some (.inr (r0, 1, o0)), some (.inl 0), none] [] μ res := by
  refine (ev_iconst dX1_endPauses_0 (w := 0) (by decide)).trans ?_
  refine (ev_istore_n dX1_endPauses_1 (Nat.le_of_ble_eq_true rfl) rfl).trans ?_
  exact Iff.rfl
theorem B6_2 {C : Nat → List AV → Mem → Res → Prop} {μ : Mem} {res : Res} {x1 : Int32} {r0 o0 : Nat} {u2 : Option AV} : EvE C 6 2 [some (.inr (r0, 1, o0)), some (.inl x1), u2] [] μ res ↔ (((μ r0 1 o0 10) ≤ x1 → res = (none, μ)) ∧ (¬ ((μ r0 1 o0 10) ≤ x1) → vp_in x1 120 ∧ ∃ v1 μ1, C 27 [.inr (r0, 8, o0), .inl (μ r0 35 o0 x1.toNatClampNeg), .inl 3, .inl (μ r0 1 o0 2)] μ (some v1, μ1) ∧ ((v1 = 0 → EvE C 6 55 [some (.inr (r0, 1, o0)), some (.inl x1), some (.inl (μ r0 35 o0 x1.toNatClampNeg))] [] μ1 res) ∧ (¬ (v1 = 0) → vp_in (μ r0 35 o0 x1.toNatClampNeg) 120 ∧ vp_in (μ r0 35 o0 x1.toNatClampNeg) 120 ∧ ∃ μ2, C 12 [.inr (r0, 1, o0), .inl (μ r0 35 o0 x1.toNatClampNeg)] (mset μ1 r0 19 o0 (μ r0 35 o0 x1.toNatClampNeg).toNatClampNeg ((μ1 r0 19 o0 (μ r0 35 o0 x1.toNatClampNeg).toNatClampNeg) + 1)) (none, μ2) ∧ ∃ μ3, C 20 [.inr (r0, 1, o0)] μ2 (none, μ3) ∧ EvE C 6 55 [some (.inr (r0, 1, o0)), some (.inl x1), some (.inl (μ r0 35 o0 x1.toNatClampNeg))] [] μ3 res)))) := by
  refine (ev_iload_n dX1_endPauses_2 rfl).trans ?_
  refine (ev_aload_n dX1_endPauses_3 rfl).trans ?_
  refine (ev_getI2 dX1_endPauses_4 f_1_63 rfl (v := (μ r0 1 o0 10)) (rfl)).trans ((and_iff_right (by decide)).trans ?_)
  refine (ev_icmp dX1_endPauses_7 (t := 61) (by decide)).trans (and_congr (imp_congr Iff.rfl ?_) (imp_congr Iff.rfl ?_))
  · exact ev_return dX1_endPauses_61 rfl
  · refine (ev_aload_n dX1_endPauses_10 rfl).trans ?_
    refine (ev_getR dX1_endPauses_11 f_1_59 rfl).trans ((and_iff_right (by decide)).trans ?_)
    refine (ev_iload_n dX1_endPauses_14 rfl).trans ?_
    refine (ev_iald2 dX1_endPauses_15 (by decide) (v := (μ r0 35 o0 x1.toNatClampNeg)) (rfl)).trans (and_congr_right fun _ => ?_)
    refine (ev_istore_n dX1_endPauses_16 (Nat.le_of_ble_eq_true rfl) rfl).trans ?_
    refine (ev_aload_n dX1_endPauses_17 rfl).trans ?_
    refine (ev_getR dX1_endPauses_18 f_1_34 rfl).trans ((and_iff_right (by decide)).trans ?_)
    refine (ev_iload_n dX1_endPauses_21 rfl).trans ?_
    refine (ev_iconst dX1_endPauses_22 (w := 3) (by decide)).trans ?_
    refine (ev_aload_n dX1_endPauses_23 rfl).trans ?_
    refine (ev_getI2 dX1_endPauses_24 f_1_21 rfl (v := (μ r0 1 o0 2)) (rfl)).trans ((and_iff_right (by decide)).trans ?_)
    refine (ev_virI dX1_endPauses_27 c_1_135 (by decide) (As := [.inl (μ r0 35 o0 x1.toNatClampNeg), .inl 3, .inl (μ r0 1 o0 2)]) rfl rfl (by decide) rfl (Nat.le_of_ble_eq_true rfl)).trans ((and_iff_right (by decide)).trans (exists_congr fun v1 => exists_congr fun μ1 => and_congr_right fun _ => ?_))
    refine (ev_ifc dX1_endPauses_30 (t := 55) (by decide)).trans (and_congr (imp_congr Iff.rfl ?_) (imp_congr Iff.rfl ?_))
    · exact Iff.rfl
    · refine (ev_aload_n dX1_endPauses_33 rfl).trans ?_
      refine (ev_getR dX1_endPauses_34 f_1_34 rfl).trans ((and_iff_right (by decide)).trans ?_)
      refine (ev_getR dX1_endPauses_37 f_1_152 rfl).trans ((and_iff_right (by decide)).trans ?_)
      refine (ev_iload_n dX1_endPauses_40 rfl).trans ?_
      refine (ev_dup2 dX1_endPauses_41).trans ?_
      refine (ev_iald2 dX1_endPauses_42 (by decide) (v := (μ1 r0 19 o0 (μ r0 35 o0 x1.toNatClampNeg).toNatClampNeg)) (rfl)).trans (and_congr_right fun _ => ?_)
      refine (ev_iconst dX1_endPauses_43 (w := 1) (by decide)).trans ?_
      refine (ev_iadd dX1_endPauses_44).trans ?_
      refine (ev_iast dX1_endPauses_45 (by decide)).trans (and_congr_right fun _ => ?_)
      refine (ev_aload_n dX1_endPauses_46 rfl).trans ?_
      refine (ev_iload_n dX1_endPauses_47 rfl).trans ?_
      refine (ev_virV dX1_endPauses_48 c_1_142 (by decide) (As := [.inl (μ r0 35 o0 x1.toNatClampNeg)]) rfl rfl rfl rfl (Nat.le_of_ble_eq_true rfl)).trans ((and_iff_right (by decide)).trans (exists_congr fun μ2 => and_congr_right fun _ => ?_))
      refine (ev_aload_n dX1_endPauses_51 rfl).trans ?_
      refine (ev_virV dX1_endPauses_52 c_1_149 (by decide) (As := []) rfl rfl rfl rfl (Nat.le_of_ble_eq_true rfl)).trans ((and_iff_right (by decide)).trans (exists_congr fun μ3 => and_congr_right fun _ => ?_))
      exact Iff.rfl
theorem B6_55 {C : Nat → List AV → Mem → Res → Prop} {μ : Mem} {res : Res} {x1 x2 : Int32} {r0 o0 : Nat} : EvE C 6 55 [some (.inr (r0, 1, o0)), some (.inl x1), some (.inl x2)] [] μ res ↔ EvE C 6 2 [some (.inr (r0, 1, o0)), some (.inl (x1 + 1)), some (.inl x2)] [] μ res := by
  refine (ev_iinc dX1_endPauses_55 rfl (w := 1) (by decide) rfl).trans ?_
  refine (ev_goto dX1_endPauses_58 (t := 2) (by decide)).trans ?_
  exact Iff.rfl
/-! X1_endAsking -/
theorem B7_0 {C : Nat → List AV → Mem → Res → Prop} {μ : Mem} {res : Res} {r0 o0 : Nat} : EvE C 7 0 [some (.inr (r0, 1, o0)), none, none] [] μ res ↔ EvE C 7 2 [some (.inr (r0, 1, o0)), some (.inl 0), none] [] μ res := by
  refine (ev_iconst dX1_endAsking_0 (w := 0) (by decide)).trans ?_
  refine (ev_istore_n dX1_endAsking_1 (Nat.le_of_ble_eq_true rfl) rfl).trans ?_
  exact Iff.rfl
theorem B7_2 {C : Nat → List AV → Mem → Res → Prop} {μ : Mem} {res : Res} {x1 : Int32} {r0 o0 : Nat} {u2 : Option AV} : EvE C 7 2 [some (.inr (r0, 1, o0)), some (.inl x1), u2] [] μ res ↔ (((μ r0 1 o0 10) ≤ x1 → res = (none, μ)) ∧ (¬ ((μ r0 1 o0 10) ≤ x1) → vp_in x1 120 ∧ ∃ v1 μ1, C 27 [.inr (r0, 8, o0), .inl (μ r0 35 o0 x1.toNatClampNeg), .inl 2, .inl (μ r0 1 o0 2)] μ (some v1, μ1) ∧ ((v1 = 0 → EvE C 7 64 [some (.inr (r0, 1, o0)), some (.inl x1), some (.inl (μ r0 35 o0 x1.toNatClampNeg))] [] μ1 res) ∧ (¬ (v1 = 0) → vp_in (μ r0 35 o0 x1.toNatClampNeg) 120 ∧ ∃ μ2, C 17 [.inr (r0, 1, o0), .inl (μ1 r0 17 o0 (μ r0 35 o0 x1.toNatClampNeg).toNatClampNeg)] μ1 (none, μ2) ∧ ∃ v3 μ3, C 22 [.inr (r0, 1, o0), .inl (μ r0 35 o0 x1.toNatClampNeg)] μ2 (some v3, μ3) ∧ ((¬ v3 = 0 → EvE C 7 60 [some (.inr (r0, 1, o0)), some (.inl x1), some (.inl (μ r0 35 o0 x1.toNatClampNeg))] [] μ3 res) ∧ (¬ (¬ v3 = 0) → ∃ μ4, C 18 [.inr (r0, 1, o0), .inl (μ r0 35 o0 x1.toNatClampNeg), .inl 0] μ3 (none, μ4) ∧ EvE C 7 60 [some (.inr (r0, 1, o0)), some (.inl x1), some (.inl (μ r0 35 o0 x1.toNatClampNeg))] [] μ4 res)))))) := by
  refine (ev_iload_n dX1_endAsking_2 rfl).trans ?_
  refine (ev_aload_n dX1_endAsking_3 rfl).trans ?_
  refine (ev_getI2 dX1_endAsking_4 f_1_63 rfl (v := (μ r0 1 o0 10)) (rfl)).trans ((and_iff_right (by decide)).trans ?_)
  refine (ev_icmp dX1_endAsking_7 (t := 70) (by decide)).trans (and_congr (imp_congr Iff.rfl ?_) (imp_congr Iff.rfl ?_))
  · exact ev_return dX1_endAsking_70 rfl
  · refine (ev_aload_n dX1_endAsking_10 rfl).trans ?_
    refine (ev_getR dX1_endAsking_11 f_1_59 rfl).trans ((and_iff_right (by decide)).trans ?_)
    refine (ev_iload_n dX1_endAsking_14 rfl).trans ?_
    refine (ev_iald2 dX1_endAsking_15 (by decide) (v := (μ r0 35 o0 x1.toNatClampNeg)) (rfl)).trans (and_congr_right fun _ => ?_)
    refine (ev_istore_n dX1_endAsking_16 (Nat.le_of_ble_eq_true rfl) rfl).trans ?_
    refine (ev_aload_n dX1_endAsking_17 rfl).trans ?_
    refine (ev_getR dX1_endAsking_18 f_1_34 rfl).trans ((and_iff_right (by decide)).trans ?_)
    refine (ev_iload_n dX1_endAsking_21 rfl).trans ?_
    refine (ev_iconst dX1_endAsking_22 (w := 2) (by decide)).trans ?_
    refine (ev_aload_n dX1_endAsking_23 rfl).trans ?_
    refine (ev_getI2 dX1_endAsking_24 f_1_21 rfl (v := (μ r0 1 o0 2)) (rfl)).trans ((and_iff_right (by decide)).trans ?_)
    refine (ev_virI dX1_endAsking_27 c_1_135 (by decide) (As := [.inl (μ r0 35 o0 x1.toNatClampNeg), .inl 2, .inl (μ r0 1 o0 2)]) rfl rfl (by decide) rfl (Nat.le_of_ble_eq_true rfl)).trans ((and_iff_right (by decide)).trans (exists_congr fun v1 => exists_congr fun μ1 => and_congr_right fun _ => ?_))
    refine (ev_ifc dX1_endAsking_30 (t := 64) (by decide)).trans (and_congr (imp_congr Iff.rfl ?_) (imp_congr Iff.rfl ?_))
    · exact Iff.rfl
    · refine (ev_aload_n dX1_endAsking_33 rfl).trans ?_
      refine (ev_aload_n dX1_endAsking_34 rfl).trans ?_
      refine (ev_getR dX1_endAsking_35 f_1_34 rfl).trans ((and_iff_right (by decide)).trans ?_)
      refine (ev_getR dX1_endAsking_38 f_1_155 rfl).trans ((and_iff_right (by decide)).trans ?_)
      refine (ev_iload_n dX1_endAsking_41 rfl).trans ?_
      refine (ev_iald2 dX1_endAsking_42 (by decide) (v := (μ1 r0 17 o0 (μ r0 35 o0 x1.toNatClampNeg).toNatClampNeg)) (rfl)).trans (and_congr_right fun _ => ?_)
      refine (ev_virV dX1_endAsking_43 c_1_158 (by decide) (As := [.inl (μ1 r0 17 o0 (μ r0 35 o0 x1.toNatClampNeg).toNatClampNeg)]) rfl rfl rfl rfl (Nat.le_of_ble_eq_true rfl)).trans ((and_iff_right (by decide)).trans (exists_congr fun μ2 => and_congr_right fun _ => ?_))
      refine (ev_aload_n dX1_endAsking_46 rfl).trans ?_
      refine (ev_iload_n dX1_endAsking_47 rfl).trans ?_
      refine (ev_virI dX1_endAsking_48 c_1_161 (by decide) (As := [.inl (μ r0 35 o0 x1.toNatClampNeg)]) rfl rfl (by decide) rfl (Nat.le_of_ble_eq_true rfl)).trans ((and_iff_right (by decide)).trans (exists_congr fun v3 => exists_congr fun μ3 => and_congr_right fun _ => ?_))
      refine (ev_ifc dX1_endAsking_51 (t := 60) (by decide)).trans (and_congr (imp_congr Iff.rfl ?_) (imp_congr Iff.rfl ?_))
      · exact Iff.rfl
      · refine (ev_aload_n dX1_endAsking_54 rfl).trans ?_
        refine (ev_iload_n dX1_endAsking_55 rfl).trans ?_
        refine (ev_iconst dX1_endAsking_56 (w := 0) (by decide)).trans ?_
        refine (ev_virV dX1_endAsking_57 c_1_145 (by decide) (As := [.inl (μ r0 35 o0 x1.toNatClampNeg), .inl 0]) rfl rfl rfl rfl (Nat.le_of_ble_eq_true rfl)).trans ((and_iff_right (by decide)).trans (exists_congr fun μ4 => and_congr_right fun _ => ?_))
        exact Iff.rfl
theorem B7_60 {C : Nat → List AV → Mem → Res → Prop} {μ : Mem} {res : Res} {x1 x2 : Int32} {r0 o0 : Nat} : EvE C 7 60 [some (.inr (r0, 1, o0)), some (.inl x1), some (.inl x2)] [] μ res ↔ ∃ μ1, C 20 [.inr (r0, 1, o0)] μ (none, μ1) ∧ EvE C 7 64 [some (.inr (r0, 1, o0)), some (.inl x1), some (.inl x2)] [] μ1 res := by
  refine (ev_aload_n dX1_endAsking_60 rfl).trans ?_
  refine (ev_virV dX1_endAsking_61 c_1_149 (by decide) (As := []) rfl rfl rfl rfl (Nat.le_of_ble_eq_true rfl)).trans ((and_iff_right (by decide)).trans (exists_congr fun μ1 => and_congr_right fun _ => ?_))
  exact Iff.rfl
theorem B7_64 {C : Nat → List AV → Mem → Res → Prop} {μ : Mem} {res : Res} {x1 x2 : Int32} {r0 o0 : Nat} : EvE C 7 64 [some (.inr (r0, 1, o0)), some (.inl x1), some (.inl x2)] [] μ res ↔ EvE C 7 2 [some (.inr (r0, 1, o0)), some (.inl (x1 + 1)), some (.inl x2)] [] μ res := by
  refine (ev_iinc dX1_endAsking_64 rfl (w := 1) (by decide) rfl).trans ?_
  refine (ev_goto dX1_endAsking_67 (t := 2) (by decide)).trans ?_
  exact Iff.rfl
/-! X1_endPatience -/
theorem B8_0 {C : Nat → List AV → Mem → Res → Prop} {μ : Mem} {res : Res} {r0 o0 : Nat} : EvE C 8 0 [some (.inr (r0, 1, o0)), none, none, none] [] μ res ↔ EvE C 8 13 [some (.inr (r0, 1, o0)), some (.inl (μ r0 21 o0 2)), some (.inl 0), none] [] μ res := by
  refine (ev_aload_n dX1_endPatience_0 rfl).trans ?_
  refine (ev_getR dX1_endPatience_1 f_1_41 rfl).trans ((and_iff_right (by decide)).trans ?_)
  refine (ev_getR dX1_endPatience_4 f_1_165 rfl).trans ((and_iff_right (by decide)).trans ?_)
  refine (ev_getI2 dX1_endPatience_7 f_1_124 rfl (v := (μ r0 21 o0 2)) (rfl)).trans ((and_iff_right (by decide)).trans ?_)
  refine (ev_istore_n dX1_endPatience_10 (Nat.le_of_ble_eq_true rfl) rfl).trans ?_
  refine (ev_iconst dX1_endPatience_11 (w := 0) (by decide)).trans ?_
  refine (ev_istore_n dX1_endPatience_12 (Nat.le_of_ble_eq_true rfl) rfl).trans ?_
  exact Iff.rfl
theorem B8_13 {C : Nat → List AV → Mem → Res → Prop} {μ : Mem} {res : Res} {x1 x2 : Int32} {r0 o0 : Nat} {u3 : Option AV} : EvE C 8 13 [some (.inr (r0, 1, o0)), some (.inl x1), some (.inl x2), u3] [] μ res ↔ ((100 ≤ x2 → EvE C 8 170 [some (.inr (r0, 1, o0)), some (.inl x1), some (.inl x2), u3] [] μ res) ∧ (¬ (100 ≤ x2) → ((x1 = (-1) → EvE C 8 170 [some (.inr (r0, 1, o0)), some (.inl x1), some (.inl x2), u3] [] μ res) ∧ (¬ (x1 = (-1)) → vp_in x1 100 ∧ vp_in x1 100 ∧ ((¬ (μ r0 26 o0 x1.toNatClampNeg) = (μ r0 1 o0 2) → EvE C 8 162 [some (.inr (r0, 1, o0)), some (.inl x1), some (.inl x2), some (.inl (μ r0 23 o0 x1.toNatClampNeg))] [] μ res) ∧ (¬ (¬ (μ r0 26 o0 x1.toNatClampNeg) = (μ r0 1 o0 2)) → vp_in x1 100 ∧ ∃ μ1, C 17 [.inr (r0, 1, o0), .inl (μ r0 25 o0 x1.toNatClampNeg)] μ (none, μ1) ∧ vp_in x1 100 ∧ vp_in x1 100 ∧ (((μ1 r0 20 o0 6) ≤ (μ1 r0 27 o0 x1.toNatClampNeg) → ∃ μ2, C 31 [.inr (r0, 21, o0), .inl x1] (mset (mset (mset μ1 r0 25 o0 x1.toNatClampNeg (-1)) r0 1 o0 3 0) r0 20 o0 9 ((μ1 r0 20 o0 9) + 1)) (none, μ2) ∧ EvE C 8 162 [some (.inr (r0, 1, o0)), some (.inl x1), some (.inl x2), some (.inl (μ r0 23 o0 x1.toNatClampNeg))] [] μ2 res) ∧ (¬ ((μ1 r0 20 o0 6) ≤ (μ1 r0 27 o0 x1.toNatClampNeg)) → vp_in x1 100 ∧ vp_in x1 100 ∧ ∃ μ3, C 11 [.inr (r0, 1, o0), .inl x1] (mset (mset (mset (mset μ1 r0 25 o0 x1.toNatClampNeg (-1)) r0 1 o0 3 0) r0 27 o0 x1.toNatClampNeg ((μ1 r0 27 o0 x1.toNatClampNeg) + 1)) r0 20 o0 10 ((μ1 r0 20 o0 10) + 1)) (none, μ3) ∧ ∃ μ4, C 20 [.inr (r0, 1, o0)] μ3 (none, μ4) ∧ EvE C 8 162 [some (.inr (r0, 1, o0)), some (.inl x1), some (.inl x2), some (.inl (μ r0 23 o0 x1.toNatClampNeg))] [] μ4 res)))))))) := by
  refine (ev_iload_n dX1_endPatience_13 rfl).trans ?_
  refine (ev_bipush dX1_endPatience_14 (w := 100) (by decide)).trans ?_
  refine (ev_icmp dX1_endPatience_16 (t := 170) (by decide)).trans (and_congr (imp_congr Iff.rfl ?_) (imp_congr Iff.rfl ?_))
  · exact Iff.rfl
  · refine (ev_iload_n dX1_endPatience_19 rfl).trans ?_
    refine (ev_iconst dX1_endPatience_20 (w := (-1)) (by decide)).trans ?_
    refine (ev_icmp dX1_endPatience_21 (t := 170) (by decide)).trans (and_congr (imp_congr Iff.rfl ?_) (imp_congr Iff.rfl ?_))
    · exact Iff.rfl
    · refine (ev_aload_n dX1_endPatience_24 rfl).trans ?_
      refine (ev_getR dX1_endPatience_25 f_1_41 rfl).trans ((and_iff_right (by decide)).trans ?_)
      refine (ev_getR dX1_endPatience_28 f_1_165 rfl).trans ((and_iff_right (by decide)).trans ?_)
      refine (ev_getR dX1_endPatience_31 f_1_132 rfl).trans ((and_iff_right (by decide)).trans ?_)
      refine (ev_iload_n dX1_endPatience_34 rfl).trans ?_
      refine (ev_iald2 dX1_endPatience_35 (by decide) (v := (μ r0 23 o0 x1.toNatClampNeg)) (rfl)).trans (and_congr_right fun _ => ?_)
      refine (ev_istore_n dX1_endPatience_36 (Nat.le_of_ble_eq_true rfl) rfl).trans ?_
      refine (ev_aload_n dX1_endPatience_37 rfl).trans ?_
      refine (ev_getR dX1_endPatience_38 f_1_41 rfl).trans ((and_iff_right (by decide)).trans ?_)
      refine (ev_getR dX1_endPatience_41 f_1_166 rfl).trans ((and_iff_right (by decide)).trans ?_)
      refine (ev_iload_n dX1_endPatience_44 rfl).trans ?_
      refine (ev_iald2 dX1_endPatience_45 (by decide) (v := (μ r0 26 o0 x1.toNatClampNeg)) (rfl)).trans (and_congr_right fun _ => ?_)
      refine (ev_aload_n dX1_endPatience_46 rfl).trans ?_
      refine (ev_getI2 dX1_endPatience_47 f_1_21 rfl (v := (μ r0 1 o0 2)) (rfl)).trans ((and_iff_right (by decide)).trans ?_)
      refine (ev_icmp dX1_endPatience_50 (t := 162) (by decide)).trans (and_congr (imp_congr Iff.rfl ?_) (imp_congr Iff.rfl ?_))
      · exact Iff.rfl
      · refine (ev_aload_n dX1_endPatience_53 rfl).trans ?_
        refine (ev_aload_n dX1_endPatience_54 rfl).trans ?_
        refine (ev_getR dX1_endPatience_55 f_1_41 rfl).trans ((and_iff_right (by decide)).trans ?_)
        refine (ev_getR dX1_endPatience_58 f_1_169 rfl).trans ((and_iff_right (by decide)).trans ?_)
        refine (ev_iload_n dX1_endPatience_61 rfl).trans ?_
        refine (ev_iald2 dX1_endPatience_62 (by decide) (v := (μ r0 25 o0 x1.toNatClampNeg)) (rfl)).trans (and_congr_right fun _ => ?_)
        refine (ev_virV dX1_endPatience_63 c_1_158 (by decide) (As := [.inl (μ r0 25 o0 x1.toNatClampNeg)]) rfl rfl rfl rfl (Nat.le_of_ble_eq_true rfl)).trans ((and_iff_right (by decide)).trans (exists_congr fun μ1 => and_congr_right fun _ => ?_))
        refine (ev_aload_n dX1_endPatience_66 rfl).trans ?_
        refine (ev_getR dX1_endPatience_67 f_1_41 rfl).trans ((and_iff_right (by decide)).trans ?_)
        refine (ev_getR dX1_endPatience_70 f_1_169 rfl).trans ((and_iff_right (by decide)).trans ?_)
        refine (ev_iload_n dX1_endPatience_73 rfl).trans ?_
        refine (ev_iconst dX1_endPatience_74 (w := (-1)) (by decide)).trans ?_
        refine (ev_iast dX1_endPatience_75 (by decide)).trans (and_congr_right fun _ => ?_)
        refine (ev_aload_n dX1_endPatience_76 rfl).trans ?_
        refine (ev_iconst dX1_endPatience_77 (w := 0) (by decide)).trans ?_
        refine (ev_putZ dX1_endPatience_78 f_1_24 rfl (by decide)).trans ((and_iff_right ⟨by decide, by decide⟩).trans ?_)
        refine (ev_aload_n dX1_endPatience_81 rfl).trans ?_
        refine (ev_getR dX1_endPatience_82 f_1_41 rfl).trans ((and_iff_right (by decide)).trans ?_)
        refine (ev_getR dX1_endPatience_85 f_1_172 rfl).trans ((and_iff_right (by decide)).trans ?_)
        refine (ev_iload_n dX1_endPatience_88 rfl).trans ?_
        refine (ev_iald2 dX1_endPatience_89 (by decide) (v := (μ1 r0 27 o0 x1.toNatClampNeg)) ((mget_a (by decide)).trans ((mget_a (by decide)).trans (rfl)))).trans (and_congr_right fun _ => ?_)
        refine (ev_aload_n dX1_endPatience_90 rfl).trans ?_
        refine (ev_getR dX1_endPatience_91 f_1_41 rfl).trans ((and_iff_right (by decide)).trans ?_)
        refine (ev_getI2 dX1_endPatience_94 f_1_173 rfl (v := (μ1 r0 20 o0 6)) ((mget_a (by decide)).trans ((mget_a (by decide)).trans (rfl)))).trans ((and_iff_right (by decide)).trans ?_)
        refine (ev_icmp dX1_endPatience_97 (t := 138) (by decide)).trans (and_congr (imp_congr Iff.rfl ?_) (imp_congr Iff.rfl ?_))
        · refine (ev_aload_n dX1_endPatience_138 rfl).trans ?_
          refine (ev_getR dX1_endPatience_139 f_1_41 rfl).trans ((and_iff_right (by decide)).trans ?_)
          refine (ev_dup dX1_endPatience_142).trans ?_
          refine (ev_getI2 dX1_endPatience_143 f_1_182 rfl (v := (μ1 r0 20 o0 9)) ((mget_a (by decide)).trans ((mget_a (by decide)).trans (rfl)))).trans ((and_iff_right (by decide)).trans ?_)
          refine (ev_iconst dX1_endPatience_146 (w := 1) (by decide)).trans ?_
          refine (ev_iadd dX1_endPatience_147).trans ?_
          refine (ev_put dX1_endPatience_148 f_1_182 rfl (by decide)).trans ((and_iff_right (by decide)).trans ?_)
          refine (ev_aload_n dX1_endPatience_151 rfl).trans ?_
          refine (ev_getR dX1_endPatience_152 f_1_41 rfl).trans ((and_iff_right (by decide)).trans ?_)
          refine (ev_getR dX1_endPatience_155 f_1_165 rfl).trans ((and_iff_right (by decide)).trans ?_)
          refine (ev_iload_n dX1_endPatience_158 rfl).trans ?_
          refine (ev_virV dX1_endPatience_159 c_1_185 (by decide) (As := [.inl x1]) rfl rfl rfl rfl (Nat.le_of_ble_eq_true rfl)).trans ((and_iff_right (by decide)).trans (exists_congr fun μ2 => and_congr_right fun _ => ?_))
          exact Iff.rfl
        · refine (ev_aload_n dX1_endPatience_100 rfl).trans ?_
          refine (ev_getR dX1_endPatience_101 f_1_41 rfl).trans ((and_iff_right (by decide)).trans ?_)
          refine (ev_getR dX1_endPatience_104 f_1_172 rfl).trans ((and_iff_right (by decide)).trans ?_)
          refine (ev_iload_n dX1_endPatience_107 rfl).trans ?_
          refine (ev_dup2 dX1_endPatience_108).trans ?_
          refine (ev_iald2 dX1_endPatience_109 (by decide) (v := (μ1 r0 27 o0 x1.toNatClampNeg)) ((mget_a (by decide)).trans ((mget_a (by decide)).trans (rfl)))).trans (and_congr_right fun _ => ?_)
          refine (ev_iconst dX1_endPatience_110 (w := 1) (by decide)).trans ?_
          refine (ev_iadd dX1_endPatience_111).trans ?_
          refine (ev_iast dX1_endPatience_112 (by decide)).trans (and_congr_right fun _ => ?_)
          refine (ev_aload_n dX1_endPatience_113 rfl).trans ?_
          refine (ev_getR dX1_endPatience_114 f_1_41 rfl).trans ((and_iff_right (by decide)).trans ?_)
          refine (ev_dup dX1_endPatience_117).trans ?_
          refine (ev_getI2 dX1_endPatience_118 f_1_176 rfl (v := (μ1 r0 20 o0 10)) ((mget_a (by decide)).trans ((mget_a (by decide)).trans ((mget_a (by decide)).trans (rfl))))).trans ((and_iff_right (by decide)).trans ?_)
          refine (ev_iconst dX1_endPatience_121 (w := 1) (by decide)).trans ?_
          refine (ev_iadd dX1_endPatience_122).trans ?_
          refine (ev_put dX1_endPatience_123 f_1_176 rfl (by decide)).trans ((and_iff_right (by decide)).trans ?_)
          refine (ev_aload_n dX1_endPatience_126 rfl).trans ?_
          refine (ev_iload_n dX1_endPatience_127 rfl).trans ?_
          refine (ev_virV dX1_endPatience_128 c_1_179 (by decide) (As := [.inl x1]) rfl rfl rfl rfl (Nat.le_of_ble_eq_true rfl)).trans ((and_iff_right (by decide)).trans (exists_congr fun μ3 => and_congr_right fun _ => ?_))
          refine (ev_aload_n dX1_endPatience_131 rfl).trans ?_
          refine (ev_virV dX1_endPatience_132 c_1_149 (by decide) (As := []) rfl rfl rfl rfl (Nat.le_of_ble_eq_true rfl)).trans ((and_iff_right (by decide)).trans (exists_congr fun μ4 => and_congr_right fun _ => ?_))
          refine (ev_goto dX1_endPatience_135 (t := 162) (by decide)).trans ?_
          exact Iff.rfl
theorem B8_162 {C : Nat → List AV → Mem → Res → Prop} {μ : Mem} {res : Res} {x1 x2 x3 : Int32} {r0 o0 : Nat} : EvE C 8 162 [some (.inr (r0, 1, o0)), some (.inl x1), some (.inl x2), some (.inl x3)] [] μ res ↔ EvE C 8 13 [some (.inr (r0, 1, o0)), some (.inl x3), some (.inl (x2 + 1)), some (.inl x3)] [] μ res := by
  refine (ev_iload_n dX1_endPatience_162 rfl).trans ?_
  refine (ev_istore_n dX1_endPatience_163 (Nat.le_of_ble_eq_true rfl) rfl).trans ?_
  refine (ev_iinc dX1_endPatience_164 rfl (w := 1) (by decide) rfl).trans ?_
  refine (ev_goto dX1_endPatience_167 (t := 13) (by decide)).trans ?_
  exact Iff.rfl
theorem B8_170 {C : Nat → List AV → Mem → Res → Prop} {μ : Mem} {res : Res} {x1 x2 : Int32} {r0 o0 : Nat} {u3 : Option AV} : EvE C 8 170 [some (.inr (r0, 1, o0)), some (.inl x1), some (.inl x2), u3] [] μ res ↔ res = (none, μ) := by
  exact ev_return dX1_endPatience_170 rfl
/-! X1_fillHands -/
theorem B9_0 {C : Nat → List AV → Mem → Res → Prop} {μ : Mem} {res : Res} {r0 o0 : Nat} : EvE C 9 0 [some (.inr (r0, 1, o0)), none, none] [] μ res ↔ EvE C 9 2 [some (.inr (r0, 1, o0)), some (.inl 0), none] [] μ res := by
  refine (ev_iconst dX1_fillHands_0 (w := 0) (by decide)).trans ?_
  refine (ev_istore_n dX1_fillHands_1 (Nat.le_of_ble_eq_true rfl) rfl).trans ?_
  exact Iff.rfl
theorem B9_2 {C : Nat → List AV → Mem → Res → Prop} {μ : Mem} {res : Res} {x1 : Int32} {r0 o0 : Nat} {u2 : Option AV} : EvE C 9 2 [some (.inr (r0, 1, o0)), some (.inl x1), u2] [] μ res ↔ (((μ r0 1 o0 1) ≤ x1 → res = (none, μ)) ∧ (¬ ((μ r0 1 o0 1) ≤ x1) → EvE C 9 12 [some (.inr (r0, 1, o0)), some (.inl x1), some (.inl 0)] [] μ res)) := by
  refine (ev_iload_n dX1_fillHands_2 rfl).trans ?_
  refine (ev_aload_n dX1_fillHands_3 rfl).trans ?_
  refine (ev_getI2 dX1_fillHands_4 f_1_17 rfl (v := (μ r0 1 o0 1)) (rfl)).trans ((and_iff_right (by decide)).trans ?_)
  refine (ev_icmp dX1_fillHands_7 (t := 67) (by decide)).trans (and_congr (imp_congr Iff.rfl ?_) (imp_congr Iff.rfl ?_))
  · exact ev_return dX1_fillHands_67 rfl
  · refine (ev_iconst dX1_fillHands_10 (w := 0) (by decide)).trans ?_
    refine (ev_istore_n dX1_fillHands_11 (Nat.le_of_ble_eq_true rfl) rfl).trans ?_
    exact Iff.rfl
theorem B9_12 {C : Nat → List AV → Mem → Res → Prop} {μ : Mem} {res : Res} {x1 x2 : Int32} {r0 o0 : Nat} : EvE C 9 12 [some (.inr (r0, 1, o0)), some (.inl x1), some (.inl x2)] [] μ res ↔ ((20 ≤ x2 → EvE C 9 61 [some (.inr (r0, 1, o0)), some (.inl x1), some (.inl x2)] [] μ res) ∧ (¬ (20 ≤ x2) → vp_in x1 6 ∧ (((μ r0 3 x1.toNatClampNeg 4) ≤ 0 → EvE C 9 61 [some (.inr (r0, 1, o0)), some (.inl x1), some (.inl x2)] [] μ res) ∧ (¬ ((μ r0 3 x1.toNatClampNeg 4) ≤ 0) → vp_in x1 6 ∧ ∃ v1 μ1, C 39 [.inr (r0, 3, x1.toNatClampNeg)] μ (some v1, μ1) ∧ ((v1 = 0 → EvE C 9 61 [some (.inr (r0, 1, o0)), some (.inl x1), some (.inl x2)] [] μ1 res) ∧ (¬ (v1 = 0) → vp_in x1 6 ∧ ∃ v2 μ2, C 41 [.inr (r0, 3, x1.toNatClampNeg)] μ1 (some v2, μ2) ∧ ∃ μ3, C 16 [.inr (r0, 1, o0), .inl v2] μ2 (none, μ3) ∧ EvE C 9 12 [some (.inr (r0, 1, o0)), some (.inl x1), some (.inl (x2 + 1))] [] μ3 res)))))) := by
  refine (ev_iload_n dX1_fillHands_12 rfl).trans ?_
  refine (ev_bipush dX1_fillHands_13 (w := 20) (by decide)).trans ?_
  refine (ev_icmp dX1_fillHands_15 (t := 61) (by decide)).trans (and_congr (imp_congr Iff.rfl ?_) (imp_congr Iff.rfl ?_))
  · exact Iff.rfl
  · refine (ev_aload_n dX1_fillHands_18 rfl).trans ?_
    refine (ev_getR dX1_fillHands_19 f_1_11 rfl).trans ((and_iff_right (by decide)).trans ?_)
    refine (ev_iload_n dX1_fillHands_22 rfl).trans ?_
    refine (ev_aald dX1_fillHands_23 (by decide)).trans (and_congr_right fun _ => ?_)
    refine (ev_getI2 dX1_fillHands_24 f_1_188 rfl (v := (μ r0 3 x1.toNatClampNeg 4)) (rfl)).trans ((and_iff_right (by decide)).trans ?_)
    refine (ev_ifc dX1_fillHands_27 (t := 61) (by decide)).trans (and_congr (imp_congr Iff.rfl ?_) (imp_congr Iff.rfl ?_))
    · exact Iff.rfl
    · refine (ev_aload_n dX1_fillHands_30 rfl).trans ?_
      refine (ev_getR dX1_fillHands_31 f_1_11 rfl).trans ((and_iff_right (by decide)).trans ?_)
      refine (ev_iload_n dX1_fillHands_34 rfl).trans ?_
      refine (ev_aald dX1_fillHands_35 (by decide)).trans (and_congr_right fun _ => ?_)
      refine (ev_virI dX1_fillHands_36 c_1_191 (by decide) (As := []) rfl rfl (by decide) rfl (Nat.le_of_ble_eq_true rfl)).trans ((and_iff_right (by decide)).trans (exists_congr fun v1 => exists_congr fun μ1 => and_congr_right fun _ => ?_))
      refine (ev_ifc dX1_fillHands_39 (t := 61) (by decide)).trans (and_congr (imp_congr Iff.rfl ?_) (imp_congr Iff.rfl ?_))
      · exact Iff.rfl
      · refine (ev_aload_n dX1_fillHands_42 rfl).trans ?_
        refine (ev_aload_n dX1_fillHands_43 rfl).trans ?_
        refine (ev_getR dX1_fillHands_44 f_1_11 rfl).trans ((and_iff_right (by decide)).trans ?_)
        refine (ev_iload_n dX1_fillHands_47 rfl).trans ?_
        refine (ev_aald dX1_fillHands_48 (by decide)).trans (and_congr_right fun _ => ?_)
        refine (ev_virI dX1_fillHands_49 c_1_195 (by decide) (As := []) rfl rfl (by decide) rfl (Nat.le_of_ble_eq_true rfl)).trans ((and_iff_right (by decide)).trans (exists_congr fun v2 => exists_congr fun μ2 => and_congr_right fun _ => ?_))
        refine (ev_virV dX1_fillHands_52 c_1_199 (by decide) (As := [.inl v2]) rfl rfl rfl rfl (Nat.le_of_ble_eq_true rfl)).trans ((and_iff_right (by decide)).trans (exists_congr fun μ3 => and_congr_right fun _ => ?_))
        refine (ev_iinc dX1_fillHands_55 rfl (w := 1) (by decide) rfl).trans ?_
        refine (ev_goto dX1_fillHands_58 (t := 12) (by decide)).trans ?_
        exact Iff.rfl
theorem B9_61 {C : Nat → List AV → Mem → Res → Prop} {μ : Mem} {res : Res} {x1 x2 : Int32} {r0 o0 : Nat} : EvE C 9 61 [some (.inr (r0, 1, o0)), some (.inl x1), some (.inl x2)] [] μ res ↔ EvE C 9 2 [some (.inr (r0, 1, o0)), some (.inl (x1 + 1)), some (.inl x2)] [] μ res := by
  refine (ev_iinc dX1_fillHands_61 rfl (w := 1) (by decide) rfl).trans ?_
  refine (ev_goto dX1_fillHands_64 (t := 2) (by decide)).trans ?_
  exact Iff.rfl
/-! X1_guestsCome -/
theorem B10_0 {C : Nat → List AV → Mem → Res → Prop} {μ : Mem} {res : Res} {x1 x2 : Int32} {r0 o0 : Nat} : EvE C 10 0 [some (.inr (r0, 1, o0)), some (.inl x1), some (.inl x2), none, none] [] μ res ↔ EvE C 10 2 [some (.inr (r0, 1, o0)), some (.inl x1), some (.inl x2), some (.inl 0), none] [] μ res := by
  refine (ev_iconst dX1_guestsCome_0 (w := 0) (by decide)).trans ?_
  refine (ev_istore_n dX1_guestsCome_1 (Nat.le_of_ble_eq_true rfl) rfl).trans ?_
  exact Iff.rfl
theorem B10_2 {C : Nat → List AV → Mem → Res → Prop} {μ : Mem} {res : Res} {x1 x2 x3 : Int32} {r0 o0 : Nat} {u4 : Option AV} : EvE C 10 2 [some (.inr (r0, 1, o0)), some (.inl x1), some (.inl x2), some (.inl x3), u4] [] μ res ↔ ((x2 ≤ x3 → res = (none, μ)) ∧ (¬ (x2 ≤ x3) → ∃ v1 μ1, C 0 [.inr (r0, 20, o0), .inl x1] (mset μ r0 20 o0 7 ((μ r0 20 o0 7) + 1)) (some v1, μ1) ∧ ((¬ v1 = (-1) → ∃ μ2, C 11 [.inr (r0, 1, o0), .inl v1] μ1 (none, μ2) ∧ ∃ μ3, C 20 [.inr (r0, 1, o0)] μ2 (none, μ3) ∧ EvE C 10 67 [some (.inr (r0, 1, o0)), some (.inl x1), some (.inl x2), some (.inl x3), some (.inl v1)] [] μ3 res) ∧ (¬ (¬ v1 = (-1)) → EvE C 10 67 [some (.inr (r0, 1, o0)), some (.inl x1), some (.inl x2), some (.inl x3), some (.inl v1)] [] (mset (mset μ1 r0 20 o0 9 ((μ1 r0 20 o0 9) + 1)) r0 1 o0 3 0) res)))) := by
  refine (ev_iload_n dX1_guestsCome_2 rfl).trans ?_
  refine (ev_iload_n dX1_guestsCome_3 rfl).trans ?_
  refine (ev_icmp dX1_guestsCome_4 (t := 73) (by decide)).trans (and_congr (imp_congr Iff.rfl ?_) (imp_congr Iff.rfl ?_))
  · exact ev_return dX1_guestsCome_73 rfl
  · refine (ev_aload_n dX1_guestsCome_7 rfl).trans ?_
    refine (ev_getR dX1_guestsCome_8 f_1_41 rfl).trans ((and_iff_right (by decide)).trans ?_)
    refine (ev_dup dX1_guestsCome_11).trans ?_
    refine (ev_getI2 dX1_guestsCome_12 f_1_202 rfl (v := (μ r0 20 o0 7)) (rfl)).trans ((and_iff_right (by decide)).trans ?_)
    refine (ev_iconst dX1_guestsCome_15 (w := 1) (by decide)).trans ?_
    refine (ev_iadd dX1_guestsCome_16).trans ?_
    refine (ev_put dX1_guestsCome_17 f_1_202 rfl (by decide)).trans ((and_iff_right (by decide)).trans ?_)
    refine (ev_aload_n dX1_guestsCome_20 rfl).trans ?_
    refine (ev_getR dX1_guestsCome_21 f_1_41 rfl).trans ((and_iff_right (by decide)).trans ?_)
    refine (ev_iload_n dX1_guestsCome_24 rfl).trans ?_
    refine (ev_virI dX1_guestsCome_25 c_1_205 (by decide) (As := [.inl x1]) rfl rfl (by decide) rfl (Nat.le_of_ble_eq_true rfl)).trans ((and_iff_right (by decide)).trans (exists_congr fun v1 => exists_congr fun μ1 => and_congr_right fun _ => ?_))
    refine (ev_istore dX1_guestsCome_28 (Nat.le_of_ble_eq_true rfl) rfl).trans ?_
    refine (ev_iload dX1_guestsCome_30 rfl).trans ?_
    refine (ev_iconst dX1_guestsCome_32 (w := (-1)) (by decide)).trans ?_
    refine (ev_icmp dX1_guestsCome_33 (t := 57) (by decide)).trans (and_congr (imp_congr Iff.rfl ?_) (imp_congr Iff.rfl ?_))
    · refine (ev_aload_n dX1_guestsCome_57 rfl).trans ?_
      refine (ev_iload dX1_guestsCome_58 rfl).trans ?_
      refine (ev_virV dX1_guestsCome_60 c_1_179 (by decide) (As := [.inl v1]) rfl rfl rfl rfl (Nat.le_of_ble_eq_true rfl)).trans ((and_iff_right (by decide)).trans (exists_congr fun μ2 => and_congr_right fun _ => ?_))
      refine (ev_aload_n dX1_guestsCome_63 rfl).trans ?_
      refine (ev_virV dX1_guestsCome_64 c_1_149 (by decide) (As := []) rfl rfl rfl rfl (Nat.le_of_ble_eq_true rfl)).trans ((and_iff_right (by decide)).trans (exists_congr fun μ3 => and_congr_right fun _ => ?_))
      exact Iff.rfl
    · refine (ev_aload_n dX1_guestsCome_36 rfl).trans ?_
      refine (ev_getR dX1_guestsCome_37 f_1_41 rfl).trans ((and_iff_right (by decide)).trans ?_)
      refine (ev_dup dX1_guestsCome_40).trans ?_
      refine (ev_getI2 dX1_guestsCome_41 f_1_182 rfl (v := (μ1 r0 20 o0 9)) (rfl)).trans ((and_iff_right (by decide)).trans ?_)
      refine (ev_iconst dX1_guestsCome_44 (w := 1) (by decide)).trans ?_
      refine (ev_iadd dX1_guestsCome_45).trans ?_
      refine (ev_put dX1_guestsCome_46 f_1_182 rfl (by decide)).trans ((and_iff_right (by decide)).trans ?_)
      refine (ev_aload_n dX1_guestsCome_49 rfl).trans ?_
      refine (ev_iconst dX1_guestsCome_50 (w := 0) (by decide)).trans ?_
      refine (ev_putZ dX1_guestsCome_51 f_1_24 rfl (by decide)).trans ((and_iff_right ⟨by decide, by decide⟩).trans ?_)
      refine (ev_goto dX1_guestsCome_54 (t := 67) (by decide)).trans ?_
      exact Iff.rfl
theorem B10_67 {C : Nat → List AV → Mem → Res → Prop} {μ : Mem} {res : Res} {x1 x2 x3 x4 : Int32} {r0 o0 : Nat} : EvE C 10 67 [some (.inr (r0, 1, o0)), some (.inl x1), some (.inl x2), some (.inl x3), some (.inl x4)] [] μ res ↔ EvE C 10 2 [some (.inr (r0, 1, o0)), some (.inl x1), some (.inl x2), some (.inl (x3 + 1)), some (.inl x4)] [] μ res := by
  refine (ev_iinc dX1_guestsCome_67 rfl (w := 1) (by decide) rfl).trans ?_
  refine (ev_goto dX1_guestsCome_70 (t := 2) (by decide)).trans ?_
  exact Iff.rfl
/-! X1_guestAsks -/
theorem B11_0 {C : Nat → List AV → Mem → Res → Prop} {μ : Mem} {res : Res} {x1 : Int32} {r0 o0 : Nat} : EvE C 11 0 [some (.inr (r0, 1, o0)), some (.inl x1)] [] μ res ↔ vp_in x1 100 ∧ vp_in x1 100 ∧ ∃ μ1, C 13 [.inr (r0, 1, o0), .inl 0, .inl (μ r0 24 o0 x1.toNatClampNeg), .inl (1000 + x1)] (mset μ r0 26 o0 x1.toNatClampNeg ((μ r0 1 o0 2) + (μ r0 20 o0 5))) (none, μ1) ∧ res = (none, μ1) := by
  refine (ev_aload_n dX1_guestAsks_0 rfl).trans ?_
  refine (ev_getR dX1_guestAsks_1 f_1_41 rfl).trans ((and_iff_right (by decide)).trans ?_)
  refine (ev_getR dX1_guestAsks_4 f_1_166 rfl).trans ((and_iff_right (by decide)).trans ?_)
  refine (ev_iload_n dX1_guestAsks_7 rfl).trans ?_
  refine (ev_aload_n dX1_guestAsks_8 rfl).trans ?_
  refine (ev_getI2 dX1_guestAsks_9 f_1_21 rfl (v := (μ r0 1 o0 2)) (rfl)).trans ((and_iff_right (by decide)).trans ?_)
  refine (ev_aload_n dX1_guestAsks_12 rfl).trans ?_
  refine (ev_getR dX1_guestAsks_13 f_1_41 rfl).trans ((and_iff_right (by decide)).trans ?_)
  refine (ev_getI2 dX1_guestAsks_16 f_1_208 rfl (v := (μ r0 20 o0 5)) (rfl)).trans ((and_iff_right (by decide)).trans ?_)
  refine (ev_iadd dX1_guestAsks_19).trans ?_
  refine (ev_iast dX1_guestAsks_20 (by decide)).trans (and_congr_right fun _ => ?_)
  refine (ev_aload_n dX1_guestAsks_21 rfl).trans ?_
  refine (ev_iconst dX1_guestAsks_22 (w := 0) (by decide)).trans ?_
  refine (ev_aload_n dX1_guestAsks_23 rfl).trans ?_
  refine (ev_getR dX1_guestAsks_24 f_1_41 rfl).trans ((and_iff_right (by decide)).trans ?_)
  refine (ev_getR dX1_guestAsks_27 f_1_211 rfl).trans ((and_iff_right (by decide)).trans ?_)
  refine (ev_iload_n dX1_guestAsks_30 rfl).trans ?_
  refine (ev_iald2 dX1_guestAsks_31 (by decide) (v := (μ r0 24 o0 x1.toNatClampNeg)) ((mget_a (by decide)).trans (rfl))).trans (and_congr_right fun _ => ?_)
  refine (ev_sipush dX1_guestAsks_32 (w := 1000) (by decide)).trans ?_
  refine (ev_iload_n dX1_guestAsks_35 rfl).trans ?_
  refine (ev_iadd dX1_guestAsks_36).trans ?_
  refine (ev_virV dX1_guestAsks_37 c_1_214 (by decide) (As := [.inl 0, .inl (μ r0 24 o0 x1.toNatClampNeg), .inl (1000 + x1)]) rfl rfl rfl rfl (Nat.le_of_ble_eq_true rfl)).trans ((and_iff_right (by decide)).trans (exists_congr fun μ1 => and_congr_right fun _ => ?_))
  exact ev_return dX1_guestAsks_40 rfl
/-! X1_toAsk -/
theorem B12_0 {C : Nat → List AV → Mem → Res → Prop} {μ : Mem} {res : Res} {x1 : Int32} {r0 o0 : Nat} : EvE C 12 0 [some (.inr (r0, 1, o0)), some (.inl x1), none] [] μ res ↔ vp_in x1 120 ∧ vp_in (μ r0 13 o0 x1.toNatClampNeg) 6 ∧ ∃ v1 μ1, C 38 [.inr (r0, 3, (μ r0 13 o0 x1.toNatClampNeg).toNatClampNeg), .inl (μ r0 1 o0 2)] μ (some v1, μ1) ∧ ((v1 = 0 → ∃ μ2, C 26 [.inr (r0, 8, o0), .inl x1, .inl 2, .inl ((μ1 r0 1 o0 2) + (μ1 r0 4 (μ r0 13 o0 x1.toNatClampNeg).toNatClampNeg 0))] μ1 (none, μ2) ∧ vp_in x1 120 ∧ vp_in x1 120 ∧ ∃ μ3, C 13 [.inr (r0, 1, o0), .inl ((μ2 r0 13 o0 x1.toNatClampNeg) + 1), .inl (μ2 r0 14 o0 x1.toNatClampNeg), .inl x1] μ2 (none, μ3) ∧ EvE C 12 80 [some (.inr (r0, 1, o0)), some (.inl x1), some (.inr (r0, 3, (μ r0 13 o0 x1.toNatClampNeg).toNatClampNeg))] [] μ3 res) ∧ (¬ (v1 = 0) → ∃ μ4, C 18 [.inr (r0, 1, o0), .inl x1, .inl 0] μ1 (none, μ4) ∧ EvE C 12 80 [some (.inr (r0, 1, o0)), some (.inl x1), some (.inr (r0, 3, (μ r0 13 o0 x1.toNatClampNeg).toNatClampNeg))] [] μ4 res)) := by
  refine (ev_aload_n dX1_toAsk_0 rfl).trans ?_
  refine (ev_getR dX1_toAsk_1 f_1_11 rfl).trans ((and_iff_right (by decide)).trans ?_)
  refine (ev_aload_n dX1_toAsk_4 rfl).trans ?_
  refine (ev_getR dX1_toAsk_5 f_1_34 rfl).trans ((and_iff_right (by decide)).trans ?_)
  refine (ev_getR dX1_toAsk_8 f_1_139 rfl).trans ((and_iff_right (by decide)).trans ?_)
  refine (ev_iload_n dX1_toAsk_11 rfl).trans ?_
  refine (ev_iald2 dX1_toAsk_12 (by decide) (v := (μ r0 13 o0 x1.toNatClampNeg)) (rfl)).trans (and_congr_right fun _ => ?_)
  refine (ev_aald dX1_toAsk_13 (by decide)).trans (and_congr_right fun _ => ?_)
  refine (ev_astore_n dX1_toAsk_14 (Nat.le_of_ble_eq_true rfl) rfl).trans ?_
  refine (ev_aload_n dX1_toAsk_15 rfl).trans ?_
  refine (ev_aload_n dX1_toAsk_16 rfl).trans ?_
  refine (ev_getI2 dX1_toAsk_17 f_1_21 rfl (v := (μ r0 1 o0 2)) (rfl)).trans ((and_iff_right (by decide)).trans ?_)
  refine (ev_virI dX1_toAsk_20 c_1_218 (by decide) (As := [.inl (μ r0 1 o0 2)]) rfl rfl (by decide) rfl (Nat.le_of_ble_eq_true rfl)).trans ((and_iff_right (by decide)).trans (exists_congr fun v1 => exists_congr fun μ1 => and_congr_right fun _ => ?_))
  refine (ev_ifc dX1_toAsk_23 (t := 35) (by decide)).trans (and_congr (imp_congr Iff.rfl ?_) (imp_congr Iff.rfl ?_))
  · refine (ev_aload_n dX1_toAsk_35 rfl).trans ?_
    refine (ev_getR dX1_toAsk_36 f_1_34 rfl).trans ((and_iff_right (by decide)).trans ?_)
    refine (ev_iload_n dX1_toAsk_39 rfl).trans ?_
    refine (ev_iconst dX1_toAsk_40 (w := 2) (by decide)).trans ?_
    refine (ev_aload_n dX1_toAsk_41 rfl).trans ?_
    refine (ev_getI2 dX1_toAsk_42 f_1_21 rfl (v := (μ1 r0 1 o0 2)) (rfl)).trans ((and_iff_right (by decide)).trans ?_)
    refine (ev_aload_n dX1_toAsk_45 rfl).trans ?_
    refine (ev_getR dX1_toAsk_46 f_1_73 rfl).trans ((and_iff_right (by decide)).trans ?_)
    refine (ev_iconst dX1_toAsk_49 (w := 0) (by decide)).trans ?_
    refine (ev_iald2 dX1_toAsk_50 (by decide) (v := (μ1 r0 4 (μ r0 13 o0 x1.toNatClampNeg).toNatClampNeg 0)) (rfl)).trans ((and_iff_right (by unfold vp_in; decide)).trans ?_)
    refine (ev_iadd dX1_toAsk_51).trans ?_
    refine (ev_virV dX1_toAsk_52 c_1_221 (by decide) (As := [.inl x1, .inl 2, .inl ((μ1 r0 1 o0 2) + (μ1 r0 4 (μ r0 13 o0 x1.toNatClampNeg).toNatClampNeg 0))]) rfl rfl rfl rfl (Nat.le_of_ble_eq_true rfl)).trans ((and_iff_right (by decide)).trans (exists_congr fun μ2 => and_congr_right fun _ => ?_))
    refine (ev_aload_n dX1_toAsk_55 rfl).trans ?_
    refine (ev_aload_n dX1_toAsk_56 rfl).trans ?_
    refine (ev_getR dX1_toAsk_57 f_1_34 rfl).trans ((and_iff_right (by decide)).trans ?_)
    refine (ev_getR dX1_toAsk_60 f_1_139 rfl).trans ((and_iff_right (by decide)).trans ?_)
    refine (ev_iload_n dX1_toAsk_63 rfl).trans ?_
    refine (ev_iald2 dX1_toAsk_64 (by decide) (v := (μ2 r0 13 o0 x1.toNatClampNeg)) (rfl)).trans (and_congr_right fun _ => ?_)
    refine (ev_iconst dX1_toAsk_65 (w := 1) (by decide)).trans ?_
    refine (ev_iadd dX1_toAsk_66).trans ?_
    refine (ev_aload_n dX1_toAsk_67 rfl).trans ?_
    refine (ev_getR dX1_toAsk_68 f_1_34 rfl).trans ((and_iff_right (by decide)).trans ?_)
    refine (ev_getR dX1_toAsk_71 f_1_224 rfl).trans ((and_iff_right (by decide)).trans ?_)
    refine (ev_iload_n dX1_toAsk_74 rfl).trans ?_
    refine (ev_iald2 dX1_toAsk_75 (by decide) (v := (μ2 r0 14 o0 x1.toNatClampNeg)) (rfl)).trans (and_congr_right fun _ => ?_)
    refine (ev_iload_n dX1_toAsk_76 rfl).trans ?_
    refine (ev_virV dX1_toAsk_77 c_1_214 (by decide) (As := [.inl ((μ2 r0 13 o0 x1.toNatClampNeg) + 1), .inl (μ2 r0 14 o0 x1.toNatClampNeg), .inl x1]) rfl rfl rfl rfl (Nat.le_of_ble_eq_true rfl)).trans ((and_iff_right (by decide)).trans (exists_congr fun μ3 => and_congr_right fun _ => ?_))
    exact Iff.rfl
  · refine (ev_aload_n dX1_toAsk_26 rfl).trans ?_
    refine (ev_iload_n dX1_toAsk_27 rfl).trans ?_
    refine (ev_iconst dX1_toAsk_28 (w := 0) (by decide)).trans ?_
    refine (ev_virV dX1_toAsk_29 c_1_145 (by decide) (As := [.inl x1, .inl 0]) rfl rfl rfl rfl (Nat.le_of_ble_eq_true rfl)).trans ((and_iff_right (by decide)).trans (exists_congr fun μ4 => and_congr_right fun _ => ?_))
    refine (ev_goto dX1_toAsk_32 (t := 80) (by decide)).trans ?_
    exact Iff.rfl
theorem B12_80 {C : Nat → List AV → Mem → Res → Prop} {μ : Mem} {res : Res} {x1 : Int32} {r0 o0 r2 o2 : Nat} : EvE C 12 80 [some (.inr (r0, 1, o0)), some (.inl x1), some (.inr (r2, 3, o2))] [] μ res ↔ res = (none, μ) := by
  exact ev_return dX1_toAsk_80 rfl
/-! X1_comes -/
theorem B13_0 {C : Nat → List AV → Mem → Res → Prop} {μ : Mem} {res : Res} {x1 x2 x3 : Int32} {r0 o0 : Nat} : EvE C 13 0 [some (.inr (r0, 1, o0)), some (.inl x1), some (.inl x2), some (.inl x3), none, none, none, none, none, none] [] μ res ↔ ((x1 < 0 → EvE C 13 12 [some (.inr (r0, 1, o0)), some (.inl x1), some (.inl x2), some (.inl x3), none, none, none, none, none, none] [] μ res) ∧ (¬ (x1 < 0) → ((x1 < (μ r0 1 o0 1) → vp_in x1 6 ∧ ∃ v1 μ1, C 37 [.inr (r0, 3, x1.toNatClampNeg), .inl x2, .inl (μ r0 1 o0 2)] μ (some v1, μ1) ∧ ((v1 = 0 → ∃ v2 μ2, C 39 [.inr (r0, 3, x1.toNatClampNeg)] μ1 (some v2, μ2) ∧ ((v2 = 0 → EvE C 13 72 [some (.inr (r0, 1, o0)), some (.inl x1), some (.inl x2), some (.inl x3), some (.inr (r0, 3, x1.toNatClampNeg)), none, none, none, none, none] [] μ2 res) ∧ (¬ (v2 = 0) → ((¬ (μ2 r0 3 x1.toNatClampNeg 4) = 0 → EvE C 13 72 [some (.inr (r0, 1, o0)), some (.inl x1), some (.inl x2), some (.inl x3), some (.inr (r0, 3, x1.toNatClampNeg)), none, none, none, none, none] [] μ2 res) ∧ (¬ (¬ (μ2 r0 3 x1.toNatClampNeg 4) = 0) → EvE C 13 73 [some (.inr (r0, 1, o0)), some (.inl x1), some (.inl x2), some (.inl x3), some (.inr (r0, 3, x1.toNatClampNeg)), none, none, none, none, none] [.inl 1] μ2 res))))) ∧ (¬ (v1 = 0) → ∃ μ3, C 19 [.inr (r0, 1, o0), .inl x3, .inl 1] (mset μ1 r0 5 x1.toNatClampNeg 0 ((μ1 r0 5 x1.toNatClampNeg 0) + 1)) (none, μ3) ∧ res = (none, μ3)))) ∧ (¬ (x1 < (μ r0 1 o0 1)) → EvE C 13 12 [some (.inr (r0, 1, o0)), some (.inl x1), some (.inl x2), some (.inl x3), none, none, none, none, none, none] [] μ res)))) := by
  refine (ev_iload_n dX1_comes_0 rfl).trans ?_
  refine (ev_ifc dX1_comes_1 (t := 12) (by decide)).trans (and_congr (imp_congr Iff.rfl ?_) (imp_congr Iff.rfl ?_))
  · exact Iff.rfl
  · refine (ev_iload_n dX1_comes_4 rfl).trans ?_
    refine (ev_aload_n dX1_comes_5 rfl).trans ?_
    refine (ev_getI2 dX1_comes_6 f_1_17 rfl (v := (μ r0 1 o0 1)) (rfl)).trans ((and_iff_right (by decide)).trans ?_)
    refine (ev_icmp dX1_comes_9 (t := 13) (by decide)).trans (and_congr (imp_congr Iff.rfl ?_) (imp_congr Iff.rfl ?_))
    · refine (ev_aload_n dX1_comes_13 rfl).trans ?_
      refine (ev_getR dX1_comes_14 f_1_11 rfl).trans ((and_iff_right (by decide)).trans ?_)
      refine (ev_iload_n dX1_comes_17 rfl).trans ?_
      refine (ev_aald dX1_comes_18 (by decide)).trans (and_congr_right fun _ => ?_)
      refine (ev_astore dX1_comes_19 (Nat.le_of_ble_eq_true rfl) rfl).trans ?_
      refine (ev_aload dX1_comes_21 rfl).trans ?_
      refine (ev_iload_n dX1_comes_23 rfl).trans ?_
      refine (ev_aload_n dX1_comes_24 rfl).trans ?_
      refine (ev_getI2 dX1_comes_25 f_1_21 rfl (v := (μ r0 1 o0 2)) (rfl)).trans ((and_iff_right (by decide)).trans ?_)
      refine (ev_virI dX1_comes_28 c_1_225 (by decide) (As := [.inl x2, .inl (μ r0 1 o0 2)]) rfl rfl (by decide) rfl (Nat.le_of_ble_eq_true rfl)).trans ((and_iff_right (by decide)).trans (exists_congr fun v1 => exists_congr fun μ1 => and_congr_right fun _ => ?_))
      refine (ev_ifc dX1_comes_31 (t := 52) (by decide)).trans (and_congr (imp_congr Iff.rfl ?_) (imp_congr Iff.rfl ?_))
      · refine (ev_aload dX1_comes_52 rfl).trans ?_
        refine (ev_virI dX1_comes_54 c_1_191 (by decide) (As := []) rfl rfl (by decide) rfl (Nat.le_of_ble_eq_true rfl)).trans ((and_iff_right (by decide)).trans (exists_congr fun v2 => exists_congr fun μ2 => and_congr_right fun _ => ?_))
        refine (ev_ifc dX1_comes_57 (t := 72) (by decide)).trans (and_congr (imp_congr Iff.rfl ?_) (imp_congr Iff.rfl ?_))
        · exact Iff.rfl
        · refine (ev_aload dX1_comes_60 rfl).trans ?_
          refine (ev_getI2 dX1_comes_62 f_1_188 rfl (v := (μ2 r0 3 x1.toNatClampNeg 4)) (rfl)).trans ((and_iff_right (by decide)).trans ?_)
          refine (ev_ifc dX1_comes_65 (t := 72) (by decide)).trans (and_congr (imp_congr Iff.rfl ?_) (imp_congr Iff.rfl ?_))
          · exact Iff.rfl
          · refine (ev_iconst dX1_comes_68 (w := 1) (by decide)).trans ?_
            refine (ev_goto dX1_comes_69 (t := 73) (by decide)).trans ?_
            exact Iff.rfl
      · refine (ev_aload dX1_comes_34 rfl).trans ?_
        refine (ev_getR dX1_comes_36 f_1_229 rfl).trans ((and_iff_right (by decide)).trans ?_)
        refine (ev_iconst dX1_comes_39 (w := 0) (by decide)).trans ?_
        refine (ev_dup2 dX1_comes_40).trans ?_
        refine (ev_iald2 dX1_comes_41 (by decide) (v := (μ1 r0 5 x1.toNatClampNeg 0)) (rfl)).trans ((and_iff_right (by unfold vp_in; decide)).trans ?_)
        refine (ev_iconst dX1_comes_42 (w := 1) (by decide)).trans ?_
        refine (ev_iadd dX1_comes_43).trans ?_
        refine (ev_iast dX1_comes_44 (by decide)).trans ((and_iff_right (by unfold vp_in; decide)).trans ?_)
        refine (ev_aload_n dX1_comes_45 rfl).trans ?_
        refine (ev_iload_n dX1_comes_46 rfl).trans ?_
        refine (ev_iconst dX1_comes_47 (w := 1) (by decide)).trans ?_
        refine (ev_virV dX1_comes_48 c_1_232 (by decide) (As := [.inl x3, .inl 1]) rfl rfl rfl rfl (Nat.le_of_ble_eq_true rfl)).trans ((and_iff_right (by decide)).trans (exists_congr fun μ3 => and_congr_right fun _ => ?_))
        exact ev_return dX1_comes_51 rfl
    · exact Iff.rfl
theorem B13_12 {C : Nat → List AV → Mem → Res → Prop} {μ : Mem} {res : Res} {x1 x2 x3 : Int32} {r0 o0 : Nat} {u4 u5 u6 u7 u8 u9 : Option AV} : EvE C 13 12 [some (.inr (r0, 1, o0)), some (.inl x1), some (.inl x2), some (.inl x3), u4, u5, u6, u7, u8, u9] [] μ res ↔ res = (none, μ) := by
  exact ev_return dX1_comes_12 rfl
theorem B13_72 {C : Nat → List AV → Mem → Res → Prop} {μ : Mem} {res : Res} {x1 x2 x3 : Int32} {r0 o0 r4 o4 : Nat} {u5 u6 u7 u8 u9 : Option AV} : EvE C 13 72 [some (.inr (r0, 1, o0)), some (.inl x1), some (.inl x2), some (.inl x3), some (.inr (r4, 3, o4)), u5, u6, u7, u8, u9] [] μ res ↔ EvE C 13 73 [some (.inr (r0, 1, o0)), some (.inl x1), some (.inl x2), some (.inl x3), some (.inr (r4, 3, o4)), u5, u6, u7, u8, u9] [.inl 0] μ res := by
  refine (ev_iconst dX1_comes_72 (w := 0) (by decide)).trans ?_
  exact Iff.rfl
theorem B13_73 {C : Nat → List AV → Mem → Res → Prop} {μ : Mem} {res : Res} {x1 x2 x3 w0 : Int32} {r0 o0 r4 o4 : Nat} {u5 u6 u7 u8 u9 : Option AV} : EvE C 13 73 [some (.inr (r0, 1, o0)), some (.inl x1), some (.inl x2), some (.inl x3), some (.inr (r4, 3, o4)), u5, u6, u7, u8, u9] [.inl w0] μ res ↔ (((μ r4 4 o4 9) ≤ (μ r4 3 o4 4) → EvE C 13 96 [some (.inr (r0, 1, o0)), some (.inl x1), some (.inl x2), some (.inl x3), some (.inr (r4, 3, o4)), some (.inl w0), u6, u7, u8, u9] [.inl 0] μ res) ∧ (¬ ((μ r4 4 o4 9) ≤ (μ r4 3 o4 4)) → EvE C 13 96 [some (.inr (r0, 1, o0)), some (.inl x1), some (.inl x2), some (.inl x3), some (.inr (r4, 3, o4)), some (.inl w0), u6, u7, u8, u9] [.inl 1] μ res)) := by
  refine (ev_istore dX1_comes_73 (Nat.le_of_ble_eq_true rfl) rfl).trans ?_
  refine (ev_aload dX1_comes_75 rfl).trans ?_
  refine (ev_getI2 dX1_comes_77 f_1_188 rfl (v := (μ r4 3 o4 4)) (rfl)).trans ((and_iff_right (by decide)).trans ?_)
  refine (ev_aload dX1_comes_80 rfl).trans ?_
  refine (ev_getR dX1_comes_82 f_1_73 rfl).trans ((and_iff_right (by decide)).trans ?_)
  refine (ev_bipush dX1_comes_85 (w := 9) (by decide)).trans ?_
  refine (ev_iald2 dX1_comes_87 (by decide) (v := (μ r4 4 o4 9)) (rfl)).trans ((and_iff_right (by unfold vp_in; decide)).trans ?_)
  refine (ev_icmp dX1_comes_88 (t := 95) (by decide)).trans (and_congr (imp_congr Iff.rfl ?_) (imp_congr Iff.rfl ?_))
  · refine (ev_iconst dX1_comes_95 (w := 0) (by decide)).trans ?_
    exact Iff.rfl
  · refine (ev_iconst dX1_comes_91 (w := 1) (by decide)).trans ?_
    refine (ev_goto dX1_comes_92 (t := 96) (by decide)).trans ?_
    exact Iff.rfl
theorem B13_96 {C : Nat → List AV → Mem → Res → Prop} {μ : Mem} {res : Res} {x1 x2 x3 x5 w0 : Int32} {r0 o0 r4 o4 : Nat} {u6 u7 u8 u9 : Option AV} : EvE C 13 96 [some (.inr (r0, 1, o0)), some (.inl x1), some (.inl x2), some (.inl x3), some (.inr (r4, 3, o4)), some (.inl x5), u6, u7, u8, u9] [.inl w0] μ res ↔ (((μ r4 4 o4 6) = 0 → EvE C 13 124 [some (.inr (r0, 1, o0)), some (.inl x1), some (.inl x2), some (.inl x3), some (.inr (r4, 3, o4)), some (.inl x5), some (.inl w0), u7, u8, u9] [] μ res) ∧ (¬ ((μ r4 4 o4 6) = 0) → (((μ r4 4 o4 9) ≤ 0 → EvE C 13 124 [some (.inr (r0, 1, o0)), some (.inl x1), some (.inl x2), some (.inl x3), some (.inr (r4, 3, o4)), some (.inl x5), some (.inl w0), u7, u8, u9] [] μ res) ∧ (¬ ((μ r4 4 o4 9) ≤ 0) → EvE C 13 125 [some (.inr (r0, 1, o0)), some (.inl x1), some (.inl x2), some (.inl x3), some (.inr (r4, 3, o4)), some (.inl x5), some (.inl w0), u7, u8, u9] [.inl 1] μ res)))) := by
  refine (ev_istore dX1_comes_96 (Nat.le_of_ble_eq_true rfl) rfl).trans ?_
  refine (ev_aload dX1_comes_98 rfl).trans ?_
  refine (ev_getR dX1_comes_100 f_1_73 rfl).trans ((and_iff_right (by decide)).trans ?_)
  refine (ev_bipush dX1_comes_103 (w := 6) (by decide)).trans ?_
  refine (ev_iald2 dX1_comes_105 (by decide) (v := (μ r4 4 o4 6)) (rfl)).trans ((and_iff_right (by unfold vp_in; decide)).trans ?_)
  refine (ev_ifc dX1_comes_106 (t := 124) (by decide)).trans (and_congr (imp_congr Iff.rfl ?_) (imp_congr Iff.rfl ?_))
  · exact Iff.rfl
  · refine (ev_aload dX1_comes_109 rfl).trans ?_
    refine (ev_getR dX1_comes_111 f_1_73 rfl).trans ((and_iff_right (by decide)).trans ?_)
    refine (ev_bipush dX1_comes_114 (w := 9) (by decide)).trans ?_
    refine (ev_iald2 dX1_comes_116 (by decide) (v := (μ r4 4 o4 9)) (rfl)).trans ((and_iff_right (by unfold vp_in; decide)).trans ?_)
    refine (ev_ifc dX1_comes_117 (t := 124) (by decide)).trans (and_congr (imp_congr Iff.rfl ?_) (imp_congr Iff.rfl ?_))
    · exact Iff.rfl
    · refine (ev_iconst dX1_comes_120 (w := 1) (by decide)).trans ?_
      refine (ev_goto dX1_comes_121 (t := 125) (by decide)).trans ?_
      exact Iff.rfl
theorem B13_124 {C : Nat → List AV → Mem → Res → Prop} {μ : Mem} {res : Res} {x1 x2 x3 x5 x6 : Int32} {r0 o0 r4 o4 : Nat} {u7 u8 u9 : Option AV} : EvE C 13 124 [some (.inr (r0, 1, o0)), some (.inl x1), some (.inl x2), some (.inl x3), some (.inr (r4, 3, o4)), some (.inl x5), some (.inl x6), u7, u8, u9] [] μ res ↔ EvE C 13 125 [some (.inr (r0, 1, o0)), some (.inl x1), some (.inl x2), some (.inl x3), some (.inr (r4, 3, o4)), some (.inl x5), some (.inl x6), u7, u8, u9] [.inl 0] μ res := by
  refine (ev_iconst dX1_comes_124 (w := 0) (by decide)).trans ?_
  exact Iff.rfl
theorem B13_125 {C : Nat → List AV → Mem → Res → Prop} {μ : Mem} {res : Res} {x1 x2 x3 x5 x6 w0 : Int32} {r0 o0 r4 o4 : Nat} {u7 u8 u9 : Option AV} : EvE C 13 125 [some (.inr (r0, 1, o0)), some (.inl x1), some (.inl x2), some (.inl x3), some (.inr (r4, 3, o4)), some (.inl x5), some (.inl x6), u7, u8, u9] [.inl w0] μ res ↔ ((¬ x5 = 0 → EvE C 13 142 [some (.inr (r0, 1, o0)), some (.inl x1), some (.inl x2), some (.inl x3), some (.inr (r4, 3, o4)), some (.inl x5), some (.inl x6), some (.inl w0), u8, u9] [] μ res) ∧ (¬ (¬ x5 = 0) → ((¬ x6 = 0 → EvE C 13 142 [some (.inr (r0, 1, o0)), some (.inl x1), some (.inl x2), some (.inl x3), some (.inr (r4, 3, o4)), some (.inl x5), some (.inl x6), some (.inl w0), u8, u9] [] μ res) ∧ (¬ (¬ x6 = 0) → ((w0 = 0 → EvE C 13 156 [some (.inr (r0, 1, o0)), some (.inl x1), some (.inl x2), some (.inl x3), some (.inr (r4, 3, o4)), some (.inl x5), some (.inl x6), some (.inl w0), u8, u9] [.inl (-1)] μ res) ∧ (¬ (w0 = 0) → EvE C 13 142 [some (.inr (r0, 1, o0)), some (.inl x1), some (.inl x2), some (.inl x3), some (.inr (r4, 3, o4)), some (.inl x5), some (.inl x6), some (.inl w0), u8, u9] [] μ res)))))) := by
  refine (ev_istore dX1_comes_125 (Nat.le_of_ble_eq_true rfl) rfl).trans ?_
  refine (ev_iload dX1_comes_127 rfl).trans ?_
  refine (ev_ifc dX1_comes_129 (t := 142) (by decide)).trans (and_congr (imp_congr Iff.rfl ?_) (imp_congr Iff.rfl ?_))
  · exact Iff.rfl
  · refine (ev_iload dX1_comes_132 rfl).trans ?_
    refine (ev_ifc dX1_comes_134 (t := 142) (by decide)).trans (and_congr (imp_congr Iff.rfl ?_) (imp_congr Iff.rfl ?_))
    · exact Iff.rfl
    · refine (ev_iload dX1_comes_137 rfl).trans ?_
      refine (ev_ifc dX1_comes_139 (t := 155) (by decide)).trans (and_congr (imp_congr Iff.rfl ?_) (imp_congr Iff.rfl ?_))
      · refine (ev_iconst dX1_comes_155 (w := (-1)) (by decide)).trans ?_
        exact Iff.rfl
      · exact Iff.rfl
theorem B13_142 {C : Nat → List AV → Mem → Res → Prop} {μ : Mem} {res : Res} {x1 x2 x3 x5 x6 x7 : Int32} {r0 o0 r4 o4 : Nat} {u8 u9 : Option AV} : EvE C 13 142 [some (.inr (r0, 1, o0)), some (.inl x1), some (.inl x2), some (.inl x3), some (.inr (r4, 3, o4)), some (.inl x5), some (.inl x6), some (.inl x7), u8, u9] [] μ res ↔ ∃ v1 μ1, C 24 [.inr (r0, 8, o0), .inl x1, .inl x2, .inl x3] μ (some v1, μ1) ∧ EvE C 13 156 [some (.inr (r0, 1, o0)), some (.inl x1), some (.inl x2), some (.inl x3), some (.inr (r4, 3, o4)), some (.inl x5), some (.inl x6), some (.inl x7), u8, u9] [.inl v1] μ1 res := by
  refine (ev_aload_n dX1_comes_142 rfl).trans ?_
  refine (ev_getR dX1_comes_143 f_1_34 rfl).trans ((and_iff_right (by decide)).trans ?_)
  refine (ev_iload_n dX1_comes_146 rfl).trans ?_
  refine (ev_iload_n dX1_comes_147 rfl).trans ?_
  refine (ev_iload_n dX1_comes_148 rfl).trans ?_
  refine (ev_virI dX1_comes_149 c_1_235 (by decide) (As := [.inl x1, .inl x2, .inl x3]) rfl rfl (by decide) rfl (Nat.le_of_ble_eq_true rfl)).trans ((and_iff_right (by decide)).trans (exists_congr fun v1 => exists_congr fun μ1 => and_congr_right fun _ => ?_))
  refine (ev_goto dX1_comes_152 (t := 156) (by decide)).trans ?_
  exact Iff.rfl
theorem B13_156 {C : Nat → List AV → Mem → Res → Prop} {μ : Mem} {res : Res} {x1 x2 x3 x5 x6 x7 w0 : Int32} {r0 o0 r4 o4 : Nat} {u8 u9 : Option AV} : EvE C 13 156 [some (.inr (r0, 1, o0)), some (.inl x1), some (.inl x2), some (.inl x3), some (.inr (r4, 3, o4)), some (.inl x5), some (.inl x6), some (.inl x7), u8, u9] [.inl w0] μ res ↔ ((¬ w0 = (-1) → ∃ μ1, C 14 [.inr (r0, 1, o0), .inl x3, .inl w0] μ (none, μ1) ∧ ((x5 = 0 → ((x6 = 0 → ∃ v2 μ2, C 41 [.inr (r4, 3, o4)] μ1 (some v2, μ2) ∧ ∃ μ3, C 40 [.inr (r4, 3, o4), .inl w0] μ2 (none, μ3) ∧ ((v2 = (-1) → EvE C 13 253 [some (.inr (r0, 1, o0)), some (.inl x1), some (.inl x2), some (.inl x3), some (.inr (r4, 3, o4)), some (.inl x5), some (.inl x6), some (.inl x7), some (.inl w0), some (.inl v2)] [] μ3 res) ∧ (¬ (v2 = (-1)) → vp_in v2 120 ∧ ∃ μ4, C 15 [.inr (r0, 1, o0), .inr (r4, 3, o4), .inl (μ3 r0 16 o0 v2.toNatClampNeg)] μ3 (none, μ4) ∧ ∃ μ5, C 25 [.inr (r0, 8, o0), .inl v2] μ4 (none, μ5) ∧ EvE C 13 253 [some (.inr (r0, 1, o0)), some (.inl x1), some (.inl x2), some (.inl x3), some (.inr (r4, 3, o4)), some (.inl x5), some (.inl x6), some (.inl x7), some (.inl w0), some (.inl v2)] [] μ5 res))) ∧ (¬ (x6 = 0) → ∃ μ6, C 40 [.inr (r4, 3, o4), .inl w0] μ1 (none, μ6) ∧ EvE C 13 253 [some (.inr (r0, 1, o0)), some (.inl x1), some (.inl x2), some (.inl x3), some (.inr (r4, 3, o4)), some (.inl x5), some (.inl x6), some (.inl x7), some (.inl w0), u9] [] μ6 res))) ∧ (¬ (x5 = 0) → ∃ μ7, C 16 [.inr (r0, 1, o0), .inl w0] μ1 (none, μ7) ∧ EvE C 13 253 [some (.inr (r0, 1, o0)), some (.inl x1), some (.inl x2), some (.inl x3), some (.inr (r4, 3, o4)), some (.inl x5), some (.inl x6), some (.inl x7), some (.inl w0), u9] [] μ7 res))) ∧ (¬ (¬ w0 = (-1)) → ∃ μ8, C 15 [.inr (r0, 1, o0), .inr (r4, 3, o4), .inl x3] μ (none, μ8) ∧ res = (none, μ8))) := by
  refine (ev_istore dX1_comes_156 (Nat.le_of_ble_eq_true rfl) rfl).trans ?_
  refine (ev_iload dX1_comes_158 rfl).trans ?_
  refine (ev_iconst dX1_comes_160 (w := (-1)) (by decide)).trans ?_
  refine (ev_icmp dX1_comes_161 (t := 172) (by decide)).trans (and_congr (imp_congr Iff.rfl ?_) (imp_congr Iff.rfl ?_))
  · refine (ev_aload_n dX1_comes_172 rfl).trans ?_
    refine (ev_iload_n dX1_comes_173 rfl).trans ?_
    refine (ev_iload dX1_comes_174 rfl).trans ?_
    refine (ev_virV dX1_comes_176 c_1_242 (by decide) (As := [.inl x3, .inl w0]) rfl rfl rfl rfl (Nat.le_of_ble_eq_true rfl)).trans ((and_iff_right (by decide)).trans (exists_congr fun μ1 => and_congr_right fun _ => ?_))
    refine (ev_iload dX1_comes_179 rfl).trans ?_
    refine (ev_ifc dX1_comes_181 (t := 193) (by decide)).trans (and_congr (imp_congr Iff.rfl ?_) (imp_congr Iff.rfl ?_))
    · refine (ev_iload dX1_comes_193 rfl).trans ?_
      refine (ev_ifc dX1_comes_195 (t := 208) (by decide)).trans (and_congr (imp_congr Iff.rfl ?_) (imp_congr Iff.rfl ?_))
      · refine (ev_aload dX1_comes_208 rfl).trans ?_
        refine (ev_virI dX1_comes_210 c_1_195 (by decide) (As := []) rfl rfl (by decide) rfl (Nat.le_of_ble_eq_true rfl)).trans ((and_iff_right (by decide)).trans (exists_congr fun v2 => exists_congr fun μ2 => and_congr_right fun _ => ?_))
        refine (ev_istore dX1_comes_213 (Nat.le_of_ble_eq_true rfl) rfl).trans ?_
        refine (ev_aload dX1_comes_215 rfl).trans ?_
        refine (ev_iload dX1_comes_217 rfl).trans ?_
        refine (ev_virV dX1_comes_219 c_1_245 (by decide) (As := [.inl w0]) rfl rfl rfl rfl (Nat.le_of_ble_eq_true rfl)).trans ((and_iff_right (by decide)).trans (exists_congr fun μ3 => and_congr_right fun _ => ?_))
        refine (ev_iload dX1_comes_222 rfl).trans ?_
        refine (ev_iconst dX1_comes_224 (w := (-1)) (by decide)).trans ?_
        refine (ev_icmp dX1_comes_225 (t := 253) (by decide)).trans (and_congr (imp_congr Iff.rfl ?_) (imp_congr Iff.rfl ?_))
        · exact Iff.rfl
        · refine (ev_aload_n dX1_comes_228 rfl).trans ?_
          refine (ev_aload dX1_comes_229 rfl).trans ?_
          refine (ev_aload_n dX1_comes_231 rfl).trans ?_
          refine (ev_getR dX1_comes_232 f_1_34 rfl).trans ((and_iff_right (by decide)).trans ?_)
          refine (ev_getR dX1_comes_235 f_1_248 rfl).trans ((and_iff_right (by decide)).trans ?_)
          refine (ev_iload dX1_comes_238 rfl).trans ?_
          refine (ev_iald2 dX1_comes_240 (by decide) (v := (μ3 r0 16 o0 v2.toNatClampNeg)) (rfl)).trans (and_congr_right fun _ => ?_)
          refine (ev_virV dX1_comes_241 c_1_238 (by decide) (As := [.inr (r4, 3, o4), .inl (μ3 r0 16 o0 v2.toNatClampNeg)]) rfl rfl rfl rfl (Nat.le_of_ble_eq_true rfl)).trans ((and_iff_right (by decide)).trans (exists_congr fun μ4 => and_congr_right fun _ => ?_))
          refine (ev_aload_n dX1_comes_244 rfl).trans ?_
          refine (ev_getR dX1_comes_245 f_1_34 rfl).trans ((and_iff_right (by decide)).trans ?_)
          refine (ev_iload dX1_comes_248 rfl).trans ?_
          refine (ev_virV dX1_comes_250 c_1_251 (by decide) (As := [.inl v2]) rfl rfl rfl rfl (Nat.le_of_ble_eq_true rfl)).trans ((and_iff_right (by decide)).trans (exists_congr fun μ5 => and_congr_right fun _ => ?_))
          exact Iff.rfl
      · refine (ev_aload dX1_comes_198 rfl).trans ?_
        refine (ev_iload dX1_comes_200 rfl).trans ?_
        refine (ev_virV dX1_comes_202 c_1_245 (by decide) (As := [.inl w0]) rfl rfl rfl rfl (Nat.le_of_ble_eq_true rfl)).trans ((and_iff_right (by decide)).trans (exists_congr fun μ6 => and_congr_right fun _ => ?_))
        refine (ev_goto dX1_comes_205 (t := 253) (by decide)).trans ?_
        exact Iff.rfl
    · refine (ev_aload_n dX1_comes_184 rfl).trans ?_
      refine (ev_iload dX1_comes_185 rfl).trans ?_
      refine (ev_virV dX1_comes_187 c_1_199 (by decide) (As := [.inl w0]) rfl rfl rfl rfl (Nat.le_of_ble_eq_true rfl)).trans ((and_iff_right (by decide)).trans (exists_congr fun μ7 => and_congr_right fun _ => ?_))
      refine (ev_goto dX1_comes_190 (t := 253) (by decide)).trans ?_
      exact Iff.rfl
  · refine (ev_aload_n dX1_comes_164 rfl).trans ?_
    refine (ev_aload dX1_comes_165 rfl).trans ?_
    refine (ev_iload_n dX1_comes_167 rfl).trans ?_
    refine (ev_virV dX1_comes_168 c_1_238 (by decide) (As := [.inr (r4, 3, o4), .inl x3]) rfl rfl rfl rfl (Nat.le_of_ble_eq_true rfl)).trans ((and_iff_right (by decide)).trans (exists_congr fun μ8 => and_congr_right fun _ => ?_))
    exact ev_return dX1_comes_171 rfl
theorem B13_253 {C : Nat → List AV → Mem → Res → Prop} {μ : Mem} {res : Res} {x1 x2 x3 x5 x6 x7 x8 : Int32} {r0 o0 r4 o4 : Nat} {u9 : Option AV} : EvE C 13 253 [some (.inr (r0, 1, o0)), some (.inl x1), some (.inl x2), some (.inl x3), some (.inr (r4, 3, o4)), some (.inl x5), some (.inl x6), some (.inl x7), some (.inl x8), u9] [] μ res ↔ res = (none, μ) := by
  exact ev_return dX1_comes_253 rfl
/-! X1_setJobOf -/
theorem B14_0 {C : Nat → List AV → Mem → Res → Prop} {μ : Mem} {res : Res} {x1 x2 : Int32} {r0 o0 : Nat} : EvE C 14 0 [some (.inr (r0, 1, o0)), some (.inl x1), some (.inl x2)] [] μ res ↔ ((x1 < 1000 → vp_in x1 120 ∧ EvE C 14 34 [some (.inr (r0, 1, o0)), some (.inl x1), some (.inl x2)] [] (mset μ r0 17 o0 x1.toNatClampNeg x2) res) ∧ (¬ (x1 < 1000) → vp_in (x1 - 1000) 100 ∧ EvE C 14 34 [some (.inr (r0, 1, o0)), some (.inl x1), some (.inl x2)] [] (mset μ r0 25 o0 (x1 - 1000).toNatClampNeg x2) res)) := by
  refine (ev_iload_n dX1_setJobOf_0 rfl).trans ?_
  refine (ev_sipush dX1_setJobOf_1 (w := 1000) (by decide)).trans ?_
  refine (ev_icmp dX1_setJobOf_4 (t := 24) (by decide)).trans (and_congr (imp_congr Iff.rfl ?_) (imp_congr Iff.rfl ?_))
  · refine (ev_aload_n dX1_setJobOf_24 rfl).trans ?_
    refine (ev_getR dX1_setJobOf_25 f_1_34 rfl).trans ((and_iff_right (by decide)).trans ?_)
    refine (ev_getR dX1_setJobOf_28 f_1_155 rfl).trans ((and_iff_right (by decide)).trans ?_)
    refine (ev_iload_n dX1_setJobOf_31 rfl).trans ?_
    refine (ev_iload_n dX1_setJobOf_32 rfl).trans ?_
    refine (ev_iast dX1_setJobOf_33 (by decide)).trans (and_congr_right fun _ => ?_)
    exact Iff.rfl
  · refine (ev_aload_n dX1_setJobOf_7 rfl).trans ?_
    refine (ev_getR dX1_setJobOf_8 f_1_41 rfl).trans ((and_iff_right (by decide)).trans ?_)
    refine (ev_getR dX1_setJobOf_11 f_1_169 rfl).trans ((and_iff_right (by decide)).trans ?_)
    refine (ev_iload_n dX1_setJobOf_14 rfl).trans ?_
    refine (ev_sipush dX1_setJobOf_15 (w := 1000) (by decide)).trans ?_
    refine (ev_isub dX1_setJobOf_18).trans ?_
    refine (ev_iload_n dX1_setJobOf_19 rfl).trans ?_
    refine (ev_iast dX1_setJobOf_20 (by decide)).trans (and_congr_right fun _ => ?_)
    refine (ev_goto dX1_setJobOf_21 (t := 34) (by decide)).trans ?_
    exact Iff.rfl
theorem B14_34 {C : Nat → List AV → Mem → Res → Prop} {μ : Mem} {res : Res} {x1 x2 : Int32} {r0 o0 : Nat} : EvE C 14 34 [some (.inr (r0, 1, o0)), some (.inl x1), some (.inl x2)] [] μ res ↔ res = (none, μ) := by
  exact ev_return dX1_setJobOf_34 rfl
/-! X1_refuse -/
theorem B15_0 {C : Nat → List AV → Mem → Res → Prop} {μ : Mem} {res : Res} {x2 : Int32} {r0 o0 r1 o1 : Nat} : EvE C 15 0 [some (.inr (r0, 1, o0)), some (.inr (r1, 3, o1)), some (.inl x2)] [] μ res ↔ ∃ μ1, C 19 [.inr (r0, 1, o0), .inl x2, .inl 0] (mset (mset μ r1 5 o1 4 ((μ r1 5 o1 4) + 1)) r0 1 o0 3 0) (none, μ1) ∧ res = (none, μ1) := by
  refine (ev_aload_n dX1_refuse_0 rfl).trans ?_
  refine (ev_getR dX1_refuse_1 f_1_229 rfl).trans ((and_iff_right (by decide)).trans ?_)
  refine (ev_iconst dX1_refuse_4 (w := 4) (by decide)).trans ?_
  refine (ev_dup2 dX1_refuse_5).trans ?_
  refine (ev_iald2 dX1_refuse_6 (by decide) (v := (μ r1 5 o1 4)) (rfl)).trans ((and_iff_right (by unfold vp_in; decide)).trans ?_)
  refine (ev_iconst dX1_refuse_7 (w := 1) (by decide)).trans ?_
  refine (ev_iadd dX1_refuse_8).trans ?_
  refine (ev_iast dX1_refuse_9 (by decide)).trans ((and_iff_right (by unfold vp_in; decide)).trans ?_)
  refine (ev_aload_n dX1_refuse_10 rfl).trans ?_
  refine (ev_iconst dX1_refuse_11 (w := 0) (by decide)).trans ?_
  refine (ev_putZ dX1_refuse_12 f_1_24 rfl (by decide)).trans ((and_iff_right ⟨by decide, by decide⟩).trans ?_)
  refine (ev_aload_n dX1_refuse_15 rfl).trans ?_
  refine (ev_iload_n dX1_refuse_16 rfl).trans ?_
  refine (ev_iconst dX1_refuse_17 (w := 0) (by decide)).trans ?_
  refine (ev_virV dX1_refuse_18 c_1_232 (by decide) (As := [.inl x2, .inl 0]) rfl rfl rfl rfl (Nat.le_of_ble_eq_true rfl)).trans ((and_iff_right (by decide)).trans (exists_congr fun μ1 => and_congr_right fun _ => ?_))
  exact ev_return dX1_refuse_21 rfl
/-! X1_begin -/
theorem B16_0 {C : Nat → List AV → Mem → Res → Prop} {μ : Mem} {res : Res} {x1 : Int32} {r0 o0 : Nat} : EvE C 16 0 [some (.inr (r0, 1, o0)), some (.inl x1), none] [] μ res ↔ vp_in x1 120 ∧ vp_in (μ r0 13 o0 x1.toNatClampNeg) 6 ∧ ∃ μ1, C 26 [.inr (r0, 8, o0), .inl x1, .inl 1, .inl ((μ r0 1 o0 2) + (μ r0 4 (μ r0 13 o0 x1.toNatClampNeg).toNatClampNeg 8))] (mset (mset μ r0 3 (μ r0 13 o0 x1.toNatClampNeg).toNatClampNeg 5 ((μ r0 3 (μ r0 13 o0 x1.toNatClampNeg).toNatClampNeg 5) + 1)) r0 5 (μ r0 13 o0 x1.toNatClampNeg).toNatClampNeg 1 ((μ r0 5 (μ r0 13 o0 x1.toNatClampNeg).toNatClampNeg 1) + 1)) (none, μ1) ∧ res = (none, μ1) := by
  refine (ev_aload_n dX1_begin_0 rfl).trans ?_
  refine (ev_getR dX1_begin_1 f_1_11 rfl).trans ((and_iff_right (by decide)).trans ?_)
  refine (ev_aload_n dX1_begin_4 rfl).trans ?_
  refine (ev_getR dX1_begin_5 f_1_34 rfl).trans ((and_iff_right (by decide)).trans ?_)
  refine (ev_getR dX1_begin_8 f_1_139 rfl).trans ((and_iff_right (by decide)).trans ?_)
  refine (ev_iload_n dX1_begin_11 rfl).trans ?_
  refine (ev_iald2 dX1_begin_12 (by decide) (v := (μ r0 13 o0 x1.toNatClampNeg)) (rfl)).trans (and_congr_right fun _ => ?_)
  refine (ev_aald dX1_begin_13 (by decide)).trans (and_congr_right fun _ => ?_)
  refine (ev_astore_n dX1_begin_14 (Nat.le_of_ble_eq_true rfl) rfl).trans ?_
  refine (ev_aload_n dX1_begin_15 rfl).trans ?_
  refine (ev_dup dX1_begin_16).trans ?_
  refine (ev_getI2 dX1_begin_17 f_1_254 rfl (v := (μ r0 3 (μ r0 13 o0 x1.toNatClampNeg).toNatClampNeg 5)) (rfl)).trans ((and_iff_right (by decide)).trans ?_)
  refine (ev_iconst dX1_begin_20 (w := 1) (by decide)).trans ?_
  refine (ev_iadd dX1_begin_21).trans ?_
  refine (ev_put dX1_begin_22 f_1_254 rfl (by decide)).trans ((and_iff_right (by decide)).trans ?_)
  refine (ev_aload_n dX1_begin_25 rfl).trans ?_
  refine (ev_getR dX1_begin_26 f_1_229 rfl).trans ((and_iff_right (by decide)).trans ?_)
  refine (ev_iconst dX1_begin_29 (w := 1) (by decide)).trans ?_
  refine (ev_dup2 dX1_begin_30).trans ?_
  refine (ev_iald2 dX1_begin_31 (by decide) (v := (μ r0 5 (μ r0 13 o0 x1.toNatClampNeg).toNatClampNeg 1)) ((mget_a (by decide)).trans (rfl))).trans ((and_iff_right (by unfold vp_in; decide)).trans ?_)
  refine (ev_iconst dX1_begin_32 (w := 1) (by decide)).trans ?_
  refine (ev_iadd dX1_begin_33).trans ?_
  refine (ev_iast dX1_begin_34 (by decide)).trans ((and_iff_right (by unfold vp_in; decide)).trans ?_)
  refine (ev_aload_n dX1_begin_35 rfl).trans ?_
  refine (ev_getR dX1_begin_36 f_1_34 rfl).trans ((and_iff_right (by decide)).trans ?_)
  refine (ev_iload_n dX1_begin_39 rfl).trans ?_
  refine (ev_iconst dX1_begin_40 (w := 1) (by decide)).trans ?_
  refine (ev_aload_n dX1_begin_41 rfl).trans ?_
  refine (ev_getI2 dX1_begin_42 f_1_21 rfl (v := (μ r0 1 o0 2)) ((mget_a (by decide)).trans ((mget_a (by decide)).trans (rfl)))).trans ((and_iff_right (by decide)).trans ?_)
  refine (ev_aload_n dX1_begin_45 rfl).trans ?_
  refine (ev_getR dX1_begin_46 f_1_73 rfl).trans ((and_iff_right (by decide)).trans ?_)
  refine (ev_bipush dX1_begin_49 (w := 8) (by decide)).trans ?_
  refine (ev_iald2 dX1_begin_51 (by decide) (v := (μ r0 4 (μ r0 13 o0 x1.toNatClampNeg).toNatClampNeg 8)) ((mget_a (by decide)).trans ((mget_a (by decide)).trans (rfl)))).trans ((and_iff_right (by unfold vp_in; decide)).trans ?_)
  refine (ev_iadd dX1_begin_52).trans ?_
  refine (ev_virV dX1_begin_53 c_1_221 (by decide) (As := [.inl x1, .inl 1, .inl ((μ r0 1 o0 2) + (μ r0 4 (μ r0 13 o0 x1.toNatClampNeg).toNatClampNeg 8))]) rfl rfl rfl rfl (Nat.le_of_ble_eq_true rfl)).trans ((and_iff_right (by decide)).trans (exists_congr fun μ1 => and_congr_right fun _ => ?_))
  exact ev_return dX1_begin_56 rfl
/-! X1_giveUp -/
theorem B17_0 {C : Nat → List AV → Mem → Res → Prop} {μ : Mem} {res : Res} {x1 : Int32} {r0 o0 : Nat} : EvE C 17 0 [some (.inr (r0, 1, o0)), some (.inl x1)] [] μ res ↔ ((x1 = (-1) → EvE C 17 15 [some (.inr (r0, 1, o0)), some (.inl x1)] [] μ res) ∧ (¬ (x1 = (-1)) → vp_in x1 120 ∧ EvE C 17 15 [some (.inr (r0, 1, o0)), some (.inl x1)] [] (mset μ r0 16 o0 x1.toNatClampNeg (-1)) res)) := by
  refine (ev_iload_n dX1_giveUp_0 rfl).trans ?_
  refine (ev_iconst dX1_giveUp_1 (w := (-1)) (by decide)).trans ?_
  refine (ev_icmp dX1_giveUp_2 (t := 15) (by decide)).trans (and_congr (imp_congr Iff.rfl ?_) (imp_congr Iff.rfl ?_))
  · exact Iff.rfl
  · refine (ev_aload_n dX1_giveUp_5 rfl).trans ?_
    refine (ev_getR dX1_giveUp_6 f_1_34 rfl).trans ((and_iff_right (by decide)).trans ?_)
    refine (ev_getR dX1_giveUp_9 f_1_248 rfl).trans ((and_iff_right (by decide)).trans ?_)
    refine (ev_iload_n dX1_giveUp_12 rfl).trans ?_
    refine (ev_iconst dX1_giveUp_13 (w := (-1)) (by decide)).trans ?_
    refine (ev_iast dX1_giveUp_14 (by decide)).trans (and_congr_right fun _ => ?_)
    exact Iff.rfl
theorem B17_15 {C : Nat → List AV → Mem → Res → Prop} {μ : Mem} {res : Res} {x1 : Int32} {r0 o0 : Nat} : EvE C 17 15 [some (.inr (r0, 1, o0)), some (.inl x1)] [] μ res ↔ res = (none, μ) := by
  exact ev_return dX1_giveUp_15 rfl
/-! X1_end -/
theorem B18_0 {C : Nat → List AV → Mem → Res → Prop} {μ : Mem} {res : Res} {x1 x2 : Int32} {r0 o0 : Nat} : EvE C 18 0 [some (.inr (r0, 1, o0)), some (.inl x1), some (.inl x2), none, none] [] μ res ↔ vp_in x1 120 ∧ vp_in (μ r0 13 o0 x1.toNatClampNeg) 6 ∧ ((x2 = 0 → EvE C 18 38 [some (.inr (r0, 1, o0)), some (.inl x1), some (.inl x2), some (.inr (r0, 3, (μ r0 13 o0 x1.toNatClampNeg).toNatClampNeg)), none] [.inl 3, .inr (r0, 5, (μ r0 13 o0 x1.toNatClampNeg).toNatClampNeg)] (mset μ r0 3 (μ r0 13 o0 x1.toNatClampNeg).toNatClampNeg 5 ((μ r0 3 (μ r0 13 o0 x1.toNatClampNeg).toNatClampNeg 5) - 1)) res) ∧ (¬ (x2 = 0) → EvE C 18 38 [some (.inr (r0, 1, o0)), some (.inl x1), some (.inl x2), some (.inr (r0, 3, (μ r0 13 o0 x1.toNatClampNeg).toNatClampNeg)), none] [.inl 2, .inr (r0, 5, (μ r0 13 o0 x1.toNatClampNeg).toNatClampNeg)] (mset μ r0 3 (μ r0 13 o0 x1.toNatClampNeg).toNatClampNeg 5 ((μ r0 3 (μ r0 13 o0 x1.toNatClampNeg).toNatClampNeg 5) - 1)) res)) := by
  refine (ev_aload_n dX1_end_0 rfl).trans ?_
  refine (ev_getR dX1_end_1 f_1_11 rfl).trans ((and_iff_right (by decide)).trans ?_)
  refine (ev_aload_n dX1_end_4 rfl).trans ?_
  refine (ev_getR dX1_end_5 f_1_34 rfl).trans ((and_iff_right (by decide)).trans ?_)
  refine (ev_getR dX1_end_8 f_1_139 rfl).trans ((and_iff_right (by decide)).trans ?_)
  refine (ev_iload_n dX1_end_11 rfl).trans ?_
  refine (ev_iald2 dX1_end_12 (by decide) (v := (μ r0 13 o0 x1.toNatClampNeg)) (rfl)).trans (and_congr_right fun _ => ?_)
  refine (ev_aald dX1_end_13 (by decide)).trans (and_congr_right fun _ => ?_)
  refine (ev_astore_n dX1_end_14 (Nat.le_of_ble_eq_true rfl) rfl).trans ?_
  refine (ev_aload_n dX1_end_15 rfl).trans ?_
  refine (ev_dup dX1_end_16).trans ?_
  refine (ev_getI2 dX1_end_17 f_1_254 rfl (v := (μ r0 3 (μ r0 13 o0 x1.toNatClampNeg).toNatClampNeg 5)) (rfl)).trans ((and_iff_right (by decide)).trans ?_)
  refine (ev_iconst dX1_end_20 (w := 1) (by decide)).trans ?_
  refine (ev_isub dX1_end_21).trans ?_
  refine (ev_put dX1_end_22 f_1_254 rfl (by decide)).trans ((and_iff_right (by decide)).trans ?_)
  refine (ev_aload_n dX1_end_25 rfl).trans ?_
  refine (ev_getR dX1_end_26 f_1_229 rfl).trans ((and_iff_right (by decide)).trans ?_)
  refine (ev_iload_n dX1_end_29 rfl).trans ?_
  refine (ev_ifc dX1_end_30 (t := 37) (by decide)).trans (and_congr (imp_congr Iff.rfl ?_) (imp_congr Iff.rfl ?_))
  · refine (ev_iconst dX1_end_37 (w := 3) (by decide)).trans ?_
    exact Iff.rfl
  · refine (ev_iconst dX1_end_33 (w := 2) (by decide)).trans ?_
    refine (ev_goto dX1_end_34 (t := 38) (by decide)).trans ?_
    exact Iff.rfl
theorem B18_38 {C : Nat → List AV → Mem → Res → Prop} {μ : Mem} {res : Res} {x1 x2 w1 : Int32} {r0 o0 r3 o3 rs0 os0 : Nat} {u4 : Option AV} : EvE C 18 38 [some (.inr (r0, 1, o0)), some (.inl x1), some (.inl x2), some (.inr (r3, 3, o3)), u4] [.inl w1, .inr (rs0, 5, os0)] μ res ↔ vp_in w1 7 ∧ vp_in w1 7 ∧ ((x2 = 0 → EvE C 18 81 [some (.inr (r0, 1, o0)), some (.inl x1), some (.inl x2), some (.inr (r3, 3, o3)), u4] [] (mset μ rs0 5 os0 w1.toNatClampNeg ((μ rs0 5 os0 w1.toNatClampNeg) + 1)) res) ∧ (¬ (x2 = 0) → (((μ r3 4 o3 3) ≤ 0 → EvE C 18 81 [some (.inr (r0, 1, o0)), some (.inl x1), some (.inl x2), some (.inr (r3, 3, o3)), u4] [] (mset μ rs0 5 os0 w1.toNatClampNeg ((μ rs0 5 os0 w1.toNatClampNeg) + 1)) res) ∧ (¬ ((μ r3 4 o3 3) ≤ 0) → vp_in x1 120 ∧ vp_in (μ r0 14 o0 x1.toNatClampNeg) 8 ∧ EvE C 18 81 [some (.inr (r0, 1, o0)), some (.inl x1), some (.inl x2), some (.inr (r3, 3, o3)), u4] [] (mset (mset μ rs0 5 os0 w1.toNatClampNeg ((μ rs0 5 os0 w1.toNatClampNeg) + 1)) r3 6 o3 (μ r0 14 o0 x1.toNatClampNeg).toNatClampNeg ((μ r0 1 o0 2) + (μ r3 4 o3 3))) res)))) := by
  refine (ev_dup2 dX1_end_38).trans ?_
  refine (ev_iald2 dX1_end_39 (by decide) (v := (μ rs0 5 os0 w1.toNatClampNeg)) (rfl)).trans (and_congr_right fun _ => ?_)
  refine (ev_iconst dX1_end_40 (w := 1) (by decide)).trans ?_
  refine (ev_iadd dX1_end_41).trans ?_
  refine (ev_iast dX1_end_42 (by decide)).trans (and_congr_right fun _ => ?_)
  refine (ev_iload_n dX1_end_43 rfl).trans ?_
  refine (ev_ifc dX1_end_44 (t := 81) (by decide)).trans (and_congr (imp_congr Iff.rfl ?_) (imp_congr Iff.rfl ?_))
  · exact Iff.rfl
  · refine (ev_aload_n dX1_end_47 rfl).trans ?_
    refine (ev_getR dX1_end_48 f_1_73 rfl).trans ((and_iff_right (by decide)).trans ?_)
    refine (ev_iconst dX1_end_51 (w := 3) (by decide)).trans ?_
    refine (ev_iald2 dX1_end_52 (by decide) (v := (μ r3 4 o3 3)) ((mget_a (by decide)).trans (rfl))).trans ((and_iff_right (by unfold vp_in; decide)).trans ?_)
    refine (ev_ifc dX1_end_53 (t := 81) (by decide)).trans (and_congr (imp_congr Iff.rfl ?_) (imp_congr Iff.rfl ?_))
    · exact Iff.rfl
    · refine (ev_aload_n dX1_end_56 rfl).trans ?_
      refine (ev_getR dX1_end_57 f_1_257 rfl).trans ((and_iff_right (by decide)).trans ?_)
      refine (ev_aload_n dX1_end_60 rfl).trans ?_
      refine (ev_getR dX1_end_61 f_1_34 rfl).trans ((and_iff_right (by decide)).trans ?_)
      refine (ev_getR dX1_end_64 f_1_224 rfl).trans ((and_iff_right (by decide)).trans ?_)
      refine (ev_iload_n dX1_end_67 rfl).trans ?_
      refine (ev_iald2 dX1_end_68 (by decide) (v := (μ r0 14 o0 x1.toNatClampNeg)) ((mget_a (by decide)).trans (rfl))).trans (and_congr_right fun _ => ?_)
      refine (ev_aload_n dX1_end_69 rfl).trans ?_
      refine (ev_getI2 dX1_end_70 f_1_21 rfl (v := (μ r0 1 o0 2)) ((mget_a (by decide)).trans (rfl))).trans ((and_iff_right (by decide)).trans ?_)
      refine (ev_aload_n dX1_end_73 rfl).trans ?_
      refine (ev_getR dX1_end_74 f_1_73 rfl).trans ((and_iff_right (by decide)).trans ?_)
      refine (ev_iconst dX1_end_77 (w := 3) (by decide)).trans ?_
      refine (ev_iald2 dX1_end_78 (by decide) (v := (μ r3 4 o3 3)) ((mget_a (by decide)).trans (rfl))).trans ((and_iff_right (by unfold vp_in; decide)).trans ?_)
      refine (ev_iadd dX1_end_79).trans ?_
      refine (ev_iast dX1_end_80 (by decide)).trans (and_congr_right fun _ => ?_)
      exact Iff.rfl
theorem B18_81 {C : Nat → List AV → Mem → Res → Prop} {μ : Mem} {res : Res} {x1 x2 : Int32} {r0 o0 r3 o3 : Nat} {u4 : Option AV} : EvE C 18 81 [some (.inr (r0, 1, o0)), some (.inl x1), some (.inl x2), some (.inr (r3, 3, o3)), u4] [] μ res ↔ vp_in x1 120 ∧ ((¬ (μ r0 16 o0 x1.toNatClampNeg) = (-1) → EvE C 18 118 [some (.inr (r0, 1, o0)), some (.inl x1), some (.inl x2), some (.inr (r3, 3, o3)), some (.inl (μ r0 16 o0 x1.toNatClampNeg))] [] μ res) ∧ (¬ (¬ (μ r0 16 o0 x1.toNatClampNeg) = (-1)) → EvE C 18 118 [some (.inr (r0, 1, o0)), some (.inl x1), some (.inl x2), some (.inr (r3, 3, o3)), some (.inl (μ r0 16 o0 x1.toNatClampNeg))] [] (mset (mset μ r3 5 o3 5 ((μ r3 5 o3 5) + 1)) r0 1 o0 4 ((μ r0 1 o0 4) + 1)) res)) := by
  refine (ev_aload_n dX1_end_81 rfl).trans ?_
  refine (ev_getR dX1_end_82 f_1_34 rfl).trans ((and_iff_right (by decide)).trans ?_)
  refine (ev_getR dX1_end_85 f_1_248 rfl).trans ((and_iff_right (by decide)).trans ?_)
  refine (ev_iload_n dX1_end_88 rfl).trans ?_
  refine (ev_iald2 dX1_end_89 (by decide) (v := (μ r0 16 o0 x1.toNatClampNeg)) (rfl)).trans (and_congr_right fun _ => ?_)
  refine (ev_istore dX1_end_90 (Nat.le_of_ble_eq_true rfl) rfl).trans ?_
  refine (ev_iload dX1_end_92 rfl).trans ?_
  refine (ev_iconst dX1_end_94 (w := (-1)) (by decide)).trans ?_
  refine (ev_icmp dX1_end_95 (t := 118) (by decide)).trans (and_congr (imp_congr Iff.rfl ?_) (imp_congr Iff.rfl ?_))
  · exact Iff.rfl
  · refine (ev_aload_n dX1_end_98 rfl).trans ?_
    refine (ev_getR dX1_end_99 f_1_229 rfl).trans ((and_iff_right (by decide)).trans ?_)
    refine (ev_iconst dX1_end_102 (w := 5) (by decide)).trans ?_
    refine (ev_dup2 dX1_end_103).trans ?_
    refine (ev_iald2 dX1_end_104 (by decide) (v := (μ r3 5 o3 5)) (rfl)).trans ((and_iff_right (by unfold vp_in; decide)).trans ?_)
    refine (ev_iconst dX1_end_105 (w := 1) (by decide)).trans ?_
    refine (ev_iadd dX1_end_106).trans ?_
    refine (ev_iast dX1_end_107 (by decide)).trans ((and_iff_right (by unfold vp_in; decide)).trans ?_)
    refine (ev_aload_n dX1_end_108 rfl).trans ?_
    refine (ev_dup dX1_end_109).trans ?_
    refine (ev_getI2 dX1_end_110 f_1_28 rfl (v := (μ r0 1 o0 4)) ((mget_a (by decide)).trans (rfl))).trans ((and_iff_right (by decide)).trans ?_)
    refine (ev_iconst dX1_end_113 (w := 1) (by decide)).trans ?_
    refine (ev_iadd dX1_end_114).trans ?_
    refine (ev_put dX1_end_115 f_1_28 rfl (by decide)).trans ((and_iff_right (by decide)).trans ?_)
    exact Iff.rfl
theorem B18_118 {C : Nat → List AV → Mem → Res → Prop} {μ : Mem} {res : Res} {x1 x2 x4 : Int32} {r0 o0 r3 o3 : Nat} : EvE C 18 118 [some (.inr (r0, 1, o0)), some (.inl x1), some (.inl x2), some (.inr (r3, 3, o3)), some (.inl x4)] [] μ res ↔ ∃ μ1, C 25 [.inr (r0, 8, o0), .inl x1] μ (none, μ1) ∧ ∃ μ2, C 19 [.inr (r0, 1, o0), .inl x4, .inl x2] μ1 (none, μ2) ∧ res = (none, μ2) := by
  refine (ev_aload_n dX1_end_118 rfl).trans ?_
  refine (ev_getR dX1_end_119 f_1_34 rfl).trans ((and_iff_right (by decide)).trans ?_)
  refine (ev_iload_n dX1_end_122 rfl).trans ?_
  refine (ev_virV dX1_end_123 c_1_251 (by decide) (As := [.inl x1]) rfl rfl rfl rfl (Nat.le_of_ble_eq_true rfl)).trans ((and_iff_right (by decide)).trans (exists_congr fun μ1 => and_congr_right fun _ => ?_))
  refine (ev_aload_n dX1_end_126 rfl).trans ?_
  refine (ev_iload dX1_end_127 rfl).trans ?_
  refine (ev_iload_n dX1_end_129 rfl).trans ?_
  refine (ev_virV dX1_end_130 c_1_232 (by decide) (As := [.inl x4, .inl x2]) rfl rfl rfl rfl (Nat.le_of_ble_eq_true rfl)).trans ((and_iff_right (by decide)).trans (exists_congr fun μ2 => and_congr_right fun _ => ?_))
  exact ev_return dX1_end_133 rfl
/-! X1_answer -/
theorem B19_0 {C : Nat → List AV → Mem → Res → Prop} {μ : Mem} {res : Res} {x1 x2 : Int32} {r0 o0 : Nat} : EvE C 19 0 [some (.inr (r0, 1, o0)), some (.inl x1), some (.inl x2)] [] μ res ↔ (x2 = 0 ∨ x2 = 1) ∧ res = (none, (mset (mset μ r0 1 o0 11 x1) r0 1 o0 12 x2)) := by
  refine (ev_aload_n dX1_answer_0 rfl).trans ?_
  refine (ev_iload_n dX1_answer_1 rfl).trans ?_
  refine (ev_put dX1_answer_2 f_1_66 rfl (by decide)).trans ((and_iff_right (by decide)).trans ?_)
  refine (ev_aload_n dX1_answer_5 rfl).trans ?_
  refine (ev_iload_n dX1_answer_6 rfl).trans ?_
  refine (ev_putZ dX1_answer_7 f_1_69 rfl (by decide)).trans (and_congr (and_iff_right (by decide)) ?_)
  exact ev_return dX1_answer_10 rfl
/-! X1_settle -/
theorem B20_0 {C : Nat → List AV → Mem → Res → Prop} {μ : Mem} {res : Res} {r0 o0 : Nat} : EvE C 20 0 [some (.inr (r0, 1, o0)), none, none] [] μ res ↔ EvE C 20 2 [some (.inr (r0, 1, o0)), some (.inl 0), none] [] μ res := by
  refine (ev_iconst dX1_settle_0 (w := 0) (by decide)).trans ?_
  refine (ev_istore_n dX1_settle_1 (Nat.le_of_ble_eq_true rfl) rfl).trans ?_
  exact Iff.rfl
theorem B20_2 {C : Nat → List AV → Mem → Res → Prop} {μ : Mem} {res : Res} {x1 : Int32} {r0 o0 : Nat} {u2 : Option AV} : EvE C 20 2 [some (.inr (r0, 1, o0)), some (.inl x1), u2] [] μ res ↔ ((6 < x1 → EvE C 20 99 [some (.inr (r0, 1, o0)), some (.inl x1), u2] [] μ res) ∧ (¬ (6 < x1) → (((μ r0 1 o0 11) = (-1) → EvE C 20 99 [some (.inr (r0, 1, o0)), some (.inl x1), u2] [] μ res) ∧ (¬ ((μ r0 1 o0 11) = (-1)) → (((μ r0 1 o0 11) < 1000 → (((μ r0 1 o0 12) = 0 → ∃ v1 μ1, C 22 [.inr (r0, 1, o0), .inl (μ r0 1 o0 11)] (mset μ r0 1 o0 11 (-1)) (some v1, μ1) ∧ ((¬ v1 = 0 → EvE C 20 93 [some (.inr (r0, 1, o0)), some (.inl x1), some (.inl (μ r0 1 o0 11))] [] μ1 res) ∧ (¬ (¬ v1 = 0) → ∃ μ2, C 18 [.inr (r0, 1, o0), .inl (μ r0 1 o0 11), .inl 0] μ1 (none, μ2) ∧ EvE C 20 93 [some (.inr (r0, 1, o0)), some (.inl x1), some (.inl (μ r0 1 o0 11))] [] μ2 res))) ∧ (¬ ((μ r0 1 o0 12) = 0) → vp_in (μ r0 1 o0 11) 120 ∧ vp_in (μ r0 13 o0 (μ r0 1 o0 11).toNatClampNeg) 6 ∧ ∃ μ3, C 18 [.inr (r0, 1, o0), .inl (μ r0 1 o0 11), .inl 1] (mset (mset μ r0 1 o0 11 (-1)) r0 3 (μ r0 13 o0 (μ r0 1 o0 11).toNatClampNeg).toNatClampNeg 7 0) (none, μ3) ∧ EvE C 20 93 [some (.inr (r0, 1, o0)), some (.inl x1), some (.inl (μ r0 1 o0 11))] [] μ3 res))) ∧ (¬ ((μ r0 1 o0 11) < 1000) → ∃ μ4, C 21 [.inr (r0, 1, o0), .inl ((μ r0 1 o0 11) - 1000)] (mset μ r0 1 o0 11 (-1)) (none, μ4) ∧ EvE C 20 93 [some (.inr (r0, 1, o0)), some (.inl x1), some (.inl (μ r0 1 o0 11))] [] μ4 res)))))) := by
  refine (ev_iload_n dX1_settle_2 rfl).trans ?_
  refine (ev_bipush dX1_settle_3 (w := 6) (by decide)).trans ?_
  refine (ev_icmp dX1_settle_5 (t := 99) (by decide)).trans (and_congr (imp_congr Iff.rfl ?_) (imp_congr Iff.rfl ?_))
  · exact Iff.rfl
  · refine (ev_aload_n dX1_settle_8 rfl).trans ?_
    refine (ev_getI2 dX1_settle_9 f_1_66 rfl (v := (μ r0 1 o0 11)) (rfl)).trans ((and_iff_right (by decide)).trans ?_)
    refine (ev_iconst dX1_settle_12 (w := (-1)) (by decide)).trans ?_
    refine (ev_icmp dX1_settle_13 (t := 99) (by decide)).trans (and_congr (imp_congr Iff.rfl ?_) (imp_congr Iff.rfl ?_))
    · exact Iff.rfl
    · refine (ev_aload_n dX1_settle_16 rfl).trans ?_
      refine (ev_getI2 dX1_settle_17 f_1_66 rfl (v := (μ r0 1 o0 11)) (rfl)).trans ((and_iff_right (by decide)).trans ?_)
      refine (ev_istore_n dX1_settle_20 (Nat.le_of_ble_eq_true rfl) rfl).trans ?_
      refine (ev_aload_n dX1_settle_21 rfl).trans ?_
      refine (ev_iconst dX1_settle_22 (w := (-1)) (by decide)).trans ?_
      refine (ev_put dX1_settle_23 f_1_66 rfl (by decide)).trans ((and_iff_right (by decide)).trans ?_)
      refine (ev_iload_n dX1_settle_26 rfl).trans ?_
      refine (ev_sipush dX1_settle_27 (w := 1000) (by decide)).trans ?_
      refine (ev_icmp dX1_settle_30 (t := 45) (by decide)).trans (and_congr (imp_congr Iff.rfl ?_) (imp_congr Iff.rfl ?_))
      · refine (ev_aload_n dX1_settle_45 rfl).trans ?_
        refine (ev_getI2 dX1_settle_46 f_1_69 rfl (v := (μ r0 1 o0 12)) ((mget_i (by decide)).trans (rfl))).trans ((and_iff_right (by decide)).trans ?_)
        refine (ev_ifc dX1_settle_49 (t := 79) (by decide)).trans (and_congr (imp_congr Iff.rfl ?_) (imp_congr Iff.rfl ?_))
        · refine (ev_aload_n dX1_settle_79 rfl).trans ?_
          refine (ev_iload_n dX1_settle_80 rfl).trans ?_
          refine (ev_virI dX1_settle_81 c_1_161 (by decide) (As := [.inl (μ r0 1 o0 11)]) rfl rfl (by decide) rfl (Nat.le_of_ble_eq_true rfl)).trans ((and_iff_right (by decide)).trans (exists_congr fun v1 => exists_congr fun μ1 => and_congr_right fun _ => ?_))
          refine (ev_ifc dX1_settle_84 (t := 93) (by decide)).trans (and_congr (imp_congr Iff.rfl ?_) (imp_congr Iff.rfl ?_))
          · exact Iff.rfl
          · refine (ev_aload_n dX1_settle_87 rfl).trans ?_
            refine (ev_iload_n dX1_settle_88 rfl).trans ?_
            refine (ev_iconst dX1_settle_89 (w := 0) (by decide)).trans ?_
            refine (ev_virV dX1_settle_90 c_1_145 (by decide) (As := [.inl (μ r0 1 o0 11), .inl 0]) rfl rfl rfl rfl (Nat.le_of_ble_eq_true rfl)).trans ((and_iff_right (by decide)).trans (exists_congr fun μ2 => and_congr_right fun _ => ?_))
            exact Iff.rfl
        · refine (ev_aload_n dX1_settle_52 rfl).trans ?_
          refine (ev_getR dX1_settle_53 f_1_11 rfl).trans ((and_iff_right (by decide)).trans ?_)
          refine (ev_aload_n dX1_settle_56 rfl).trans ?_
          refine (ev_getR dX1_settle_57 f_1_34 rfl).trans ((and_iff_right (by decide)).trans ?_)
          refine (ev_getR dX1_settle_60 f_1_139 rfl).trans ((and_iff_right (by decide)).trans ?_)
          refine (ev_iload_n dX1_settle_63 rfl).trans ?_
          refine (ev_iald2 dX1_settle_64 (by decide) (v := (μ r0 13 o0 (μ r0 1 o0 11).toNatClampNeg)) ((mget_a (by decide)).trans (rfl))).trans (and_congr_right fun _ => ?_)
          refine (ev_aald dX1_settle_65 (by decide)).trans (and_congr_right fun _ => ?_)
          refine (ev_iconst dX1_settle_66 (w := 0) (by decide)).trans ?_
          refine (ev_put dX1_settle_67 f_1_263 rfl (by decide)).trans ((and_iff_right (by decide)).trans ?_)
          refine (ev_aload_n dX1_settle_70 rfl).trans ?_
          refine (ev_iload_n dX1_settle_71 rfl).trans ?_
          refine (ev_iconst dX1_settle_72 (w := 1) (by decide)).trans ?_
          refine (ev_virV dX1_settle_73 c_1_145 (by decide) (As := [.inl (μ r0 1 o0 11), .inl 1]) rfl rfl rfl rfl (Nat.le_of_ble_eq_true rfl)).trans ((and_iff_right (by decide)).trans (exists_congr fun μ3 => and_congr_right fun _ => ?_))
          refine (ev_goto dX1_settle_76 (t := 93) (by decide)).trans ?_
          exact Iff.rfl
      · refine (ev_aload_n dX1_settle_33 rfl).trans ?_
        refine (ev_iload_n dX1_settle_34 rfl).trans ?_
        refine (ev_sipush dX1_settle_35 (w := 1000) (by decide)).trans ?_
        refine (ev_isub dX1_settle_38).trans ?_
        refine (ev_virV dX1_settle_39 c_1_260 (by decide) (As := [.inl ((μ r0 1 o0 11) - 1000)]) rfl rfl rfl rfl (Nat.le_of_ble_eq_true rfl)).trans ((and_iff_right (by decide)).trans (exists_congr fun μ4 => and_congr_right fun _ => ?_))
        refine (ev_goto dX1_settle_42 (t := 93) (by decide)).trans ?_
        exact Iff.rfl
theorem B20_93 {C : Nat → List AV → Mem → Res → Prop} {μ : Mem} {res : Res} {x1 x2 : Int32} {r0 o0 : Nat} : EvE C 20 93 [some (.inr (r0, 1, o0)), some (.inl x1), some (.inl x2)] [] μ res ↔ EvE C 20 2 [some (.inr (r0, 1, o0)), some (.inl (x1 + 1)), some (.inl x2)] [] μ res := by
  refine (ev_iinc dX1_settle_93 rfl (w := 1) (by decide) rfl).trans ?_
  refine (ev_goto dX1_settle_96 (t := 2) (by decide)).trans ?_
  exact Iff.rfl
theorem B20_99 {C : Nat → List AV → Mem → Res → Prop} {μ : Mem} {res : Res} {x1 : Int32} {r0 o0 : Nat} {u2 : Option AV} : EvE C 20 99 [some (.inr (r0, 1, o0)), some (.inl x1), u2] [] μ res ↔ res = (none, μ) := by
  exact ev_return dX1_settle_99 rfl
/-! X1_answerGuest -/
theorem B21_0 {C : Nat → List AV → Mem → Res → Prop} {μ : Mem} {res : Res} {x1 : Int32} {r0 o0 : Nat} : EvE C 21 0 [some (.inr (r0, 1, o0)), some (.inl x1)] [] μ res ↔ vp_in x1 100 ∧ (((μ r0 1 o0 12) = 0 → vp_in x1 100 ∧ EvE C 21 59 [some (.inr (r0, 1, o0)), some (.inl x1)] [] (mset (mset μ r0 25 o0 x1.toNatClampNeg (-1)) r0 26 o0 x1.toNatClampNeg ((μ r0 1 o0 2) + 1)) res) ∧ (¬ ((μ r0 1 o0 12) = 0) → ∃ μ1, C 31 [.inr (r0, 21, o0), .inl x1] (mset (mset μ r0 25 o0 x1.toNatClampNeg (-1)) r0 20 o0 8 ((μ r0 20 o0 8) + 1)) (none, μ1) ∧ EvE C 21 59 [some (.inr (r0, 1, o0)), some (.inl x1)] [] μ1 res)) := by
  refine (ev_aload_n dX1_answerGuest_0 rfl).trans ?_
  refine (ev_getR dX1_answerGuest_1 f_1_41 rfl).trans ((and_iff_right (by decide)).trans ?_)
  refine (ev_getR dX1_answerGuest_4 f_1_169 rfl).trans ((and_iff_right (by decide)).trans ?_)
  refine (ev_iload_n dX1_answerGuest_7 rfl).trans ?_
  refine (ev_iconst dX1_answerGuest_8 (w := (-1)) (by decide)).trans ?_
  refine (ev_iast dX1_answerGuest_9 (by decide)).trans (and_congr_right fun _ => ?_)
  refine (ev_aload_n dX1_answerGuest_10 rfl).trans ?_
  refine (ev_getI2 dX1_answerGuest_11 f_1_69 rfl (v := (μ r0 1 o0 12)) ((mget_a (by decide)).trans (rfl))).trans ((and_iff_right (by decide)).trans ?_)
  refine (ev_ifc dX1_answerGuest_14 (t := 44) (by decide)).trans (and_congr (imp_congr Iff.rfl ?_) (imp_congr Iff.rfl ?_))
  · refine (ev_aload_n dX1_answerGuest_44 rfl).trans ?_
    refine (ev_getR dX1_answerGuest_45 f_1_41 rfl).trans ((and_iff_right (by decide)).trans ?_)
    refine (ev_getR dX1_answerGuest_48 f_1_166 rfl).trans ((and_iff_right (by decide)).trans ?_)
    refine (ev_iload_n dX1_answerGuest_51 rfl).trans ?_
    refine (ev_aload_n dX1_answerGuest_52 rfl).trans ?_
    refine (ev_getI2 dX1_answerGuest_53 f_1_21 rfl (v := (μ r0 1 o0 2)) ((mget_a (by decide)).trans (rfl))).trans ((and_iff_right (by decide)).trans ?_)
    refine (ev_iconst dX1_answerGuest_56 (w := 1) (by decide)).trans ?_
    refine (ev_iadd dX1_answerGuest_57).trans ?_
    refine (ev_iast dX1_answerGuest_58 (by decide)).trans (and_congr_right fun _ => ?_)
    exact Iff.rfl
  · refine (ev_aload_n dX1_answerGuest_17 rfl).trans ?_
    refine (ev_getR dX1_answerGuest_18 f_1_41 rfl).trans ((and_iff_right (by decide)).trans ?_)
    refine (ev_dup dX1_answerGuest_21).trans ?_
    refine (ev_getI2 dX1_answerGuest_22 f_1_266 rfl (v := (μ r0 20 o0 8)) ((mget_a (by decide)).trans (rfl))).trans ((and_iff_right (by decide)).trans ?_)
    refine (ev_iconst dX1_answerGuest_25 (w := 1) (by decide)).trans ?_
    refine (ev_iadd dX1_answerGuest_26).trans ?_
    refine (ev_put dX1_answerGuest_27 f_1_266 rfl (by decide)).trans ((and_iff_right (by decide)).trans ?_)
    refine (ev_aload_n dX1_answerGuest_30 rfl).trans ?_
    refine (ev_getR dX1_answerGuest_31 f_1_41 rfl).trans ((and_iff_right (by decide)).trans ?_)
    refine (ev_getR dX1_answerGuest_34 f_1_165 rfl).trans ((and_iff_right (by decide)).trans ?_)
    refine (ev_iload_n dX1_answerGuest_37 rfl).trans ?_
    refine (ev_virV dX1_answerGuest_38 c_1_185 (by decide) (As := [.inl x1]) rfl rfl rfl rfl (Nat.le_of_ble_eq_true rfl)).trans ((and_iff_right (by decide)).trans (exists_congr fun μ1 => and_congr_right fun _ => ?_))
    refine (ev_goto dX1_answerGuest_41 (t := 59) (by decide)).trans ?_
    exact Iff.rfl
theorem B21_59 {C : Nat → List AV → Mem → Res → Prop} {μ : Mem} {res : Res} {x1 : Int32} {r0 o0 : Nat} : EvE C 21 59 [some (.inr (r0, 1, o0)), some (.inl x1)] [] μ res ↔ res = (none, μ) := by
  exact ev_return dX1_answerGuest_59 rfl
/-! X1_pausesAfterFail -/
theorem B22_0 {C : Nat → List AV → Mem → Res → Prop} {μ : Mem} {res : Res} {x1 : Int32} {r0 o0 : Nat} : EvE C 22 0 [some (.inr (r0, 1, o0)), some (.inl x1), none] [] μ res ↔ vp_in x1 120 ∧ vp_in (μ r0 13 o0 x1.toNatClampNeg) 6 ∧ (((μ r0 4 (μ r0 13 o0 x1.toNatClampNeg).toNatClampNeg 4) ≤ 0 → EvE C 22 83 [some (.inr (r0, 1, o0)), some (.inl x1), some (.inr (r0, 3, (μ r0 13 o0 x1.toNatClampNeg).toNatClampNeg))] [] (mset (mset (mset μ r0 1 o0 3 0) r0 5 (μ r0 13 o0 x1.toNatClampNeg).toNatClampNeg 6 ((μ r0 5 (μ r0 13 o0 x1.toNatClampNeg).toNatClampNeg 6) + 1)) r0 3 (μ r0 13 o0 x1.toNatClampNeg).toNatClampNeg 7 ((μ r0 3 (μ r0 13 o0 x1.toNatClampNeg).toNatClampNeg 7) + 1)) res) ∧ (¬ ((μ r0 4 (μ r0 13 o0 x1.toNatClampNeg).toNatClampNeg 4) ≤ 0) → ((((μ r0 3 (μ r0 13 o0 x1.toNatClampNeg).toNatClampNeg 7) + 1) < (μ r0 4 (μ r0 13 o0 x1.toNatClampNeg).toNatClampNeg 4) → EvE C 22 83 [some (.inr (r0, 1, o0)), some (.inl x1), some (.inr (r0, 3, (μ r0 13 o0 x1.toNatClampNeg).toNatClampNeg))] [] (mset (mset (mset μ r0 1 o0 3 0) r0 5 (μ r0 13 o0 x1.toNatClampNeg).toNatClampNeg 6 ((μ r0 5 (μ r0 13 o0 x1.toNatClampNeg).toNatClampNeg 6) + 1)) r0 3 (μ r0 13 o0 x1.toNatClampNeg).toNatClampNeg 7 ((μ r0 3 (μ r0 13 o0 x1.toNatClampNeg).toNatClampNeg 7) + 1)) res) ∧ (¬ (((μ r0 3 (μ r0 13 o0 x1.toNatClampNeg).toNatClampNeg 7) + 1) < (μ r0 4 (μ r0 13 o0 x1.toNatClampNeg).toNatClampNeg 4)) → EvE C 22 83 [some (.inr (r0, 1, o0)), some (.inl x1), some (.inr (r0, 3, (μ r0 13 o0 x1.toNatClampNeg).toNatClampNeg))] [] (mset (mset (mset (mset (mset μ r0 1 o0 3 0) r0 5 (μ r0 13 o0 x1.toNatClampNeg).toNatClampNeg 6 ((μ r0 5 (μ r0 13 o0 x1.toNatClampNeg).toNatClampNeg 6) + 1)) r0 3 (μ r0 13 o0 x1.toNatClampNeg).toNatClampNeg 7 ((μ r0 3 (μ r0 13 o0 x1.toNatClampNeg).toNatClampNeg 7) + 1)) r0 3 (μ r0 13 o0 x1.toNatClampNeg).toNatClampNeg 6 ((μ r0 1 o0 2) + (μ r0 4 (μ r0 13 o0 x1.toNatClampNeg).toNatClampNeg 5))) r0 3 (μ r0 13 o0 x1.toNatClampNeg).toNatClampNeg 7 0) res)))) := by
  refine (ev_aload_n dX1_pausesAfterFail_0 rfl).trans ?_
  refine (ev_getR dX1_pausesAfterFail_1 f_1_11 rfl).trans ((and_iff_right (by decide)).trans ?_)
  refine (ev_aload_n dX1_pausesAfterFail_4 rfl).trans ?_
  refine (ev_getR dX1_pausesAfterFail_5 f_1_34 rfl).trans ((and_iff_right (by decide)).trans ?_)
  refine (ev_getR dX1_pausesAfterFail_8 f_1_139 rfl).trans ((and_iff_right (by decide)).trans ?_)
  refine (ev_iload_n dX1_pausesAfterFail_11 rfl).trans ?_
  refine (ev_iald2 dX1_pausesAfterFail_12 (by decide) (v := (μ r0 13 o0 x1.toNatClampNeg)) (rfl)).trans (and_congr_right fun _ => ?_)
  refine (ev_aald dX1_pausesAfterFail_13 (by decide)).trans (and_congr_right fun _ => ?_)
  refine (ev_astore_n dX1_pausesAfterFail_14 (Nat.le_of_ble_eq_true rfl) rfl).trans ?_
  refine (ev_aload_n dX1_pausesAfterFail_15 rfl).trans ?_
  refine (ev_iconst dX1_pausesAfterFail_16 (w := 0) (by decide)).trans ?_
  refine (ev_putZ dX1_pausesAfterFail_17 f_1_24 rfl (by decide)).trans ((and_iff_right ⟨by decide, by decide⟩).trans ?_)
  refine (ev_aload_n dX1_pausesAfterFail_20 rfl).trans ?_
  refine (ev_getR dX1_pausesAfterFail_21 f_1_229 rfl).trans ((and_iff_right (by decide)).trans ?_)
  refine (ev_bipush dX1_pausesAfterFail_24 (w := 6) (by decide)).trans ?_
  refine (ev_dup2 dX1_pausesAfterFail_26).trans ?_
  refine (ev_iald2 dX1_pausesAfterFail_27 (by decide) (v := (μ r0 5 (μ r0 13 o0 x1.toNatClampNeg).toNatClampNeg 6)) ((mget_a (by decide)).trans (rfl))).trans ((and_iff_right (by unfold vp_in; decide)).trans ?_)
  refine (ev_iconst dX1_pausesAfterFail_28 (w := 1) (by decide)).trans ?_
  refine (ev_iadd dX1_pausesAfterFail_29).trans ?_
  refine (ev_iast dX1_pausesAfterFail_30 (by decide)).trans ((and_iff_right (by unfold vp_in; decide)).trans ?_)
  refine (ev_aload_n dX1_pausesAfterFail_31 rfl).trans ?_
  refine (ev_dup dX1_pausesAfterFail_32).trans ?_
  refine (ev_getI2 dX1_pausesAfterFail_33 f_1_263 rfl (v := (μ r0 3 (μ r0 13 o0 x1.toNatClampNeg).toNatClampNeg 7)) ((mget_a (by decide)).trans ((mget_a (by decide)).trans (rfl)))).trans ((and_iff_right (by decide)).trans ?_)
  refine (ev_iconst dX1_pausesAfterFail_36 (w := 1) (by decide)).trans ?_
  refine (ev_iadd dX1_pausesAfterFail_37).trans ?_
  refine (ev_put dX1_pausesAfterFail_38 f_1_263 rfl (by decide)).trans ((and_iff_right (by decide)).trans ?_)
  refine (ev_aload_n dX1_pausesAfterFail_41 rfl).trans ?_
  refine (ev_getR dX1_pausesAfterFail_42 f_1_73 rfl).trans ((and_iff_right (by decide)).trans ?_)
  refine (ev_iconst dX1_pausesAfterFail_45 (w := 4) (by decide)).trans ?_
  refine (ev_iald2 dX1_pausesAfterFail_46 (by decide) (v := (μ r0 4 (μ r0 13 o0 x1.toNatClampNeg).toNatClampNeg 4)) ((mget_a (by decide)).trans ((mget_a (by decide)).trans ((mget_a (by decide)).trans (rfl))))).trans ((and_iff_right (by unfold vp_in; decide)).trans ?_)
  refine (ev_ifc dX1_pausesAfterFail_47 (t := 83) (by decide)).trans (and_congr (imp_congr Iff.rfl ?_) (imp_congr Iff.rfl ?_))
  · exact Iff.rfl
  · refine (ev_aload_n dX1_pausesAfterFail_50 rfl).trans ?_
    refine (ev_getI2 dX1_pausesAfterFail_51 f_1_263 rfl (v := ((μ r0 3 (μ r0 13 o0 x1.toNatClampNeg).toNatClampNeg 7) + 1)) (mget_s)).trans ((and_iff_right (by decide)).trans ?_)
    refine (ev_aload_n dX1_pausesAfterFail_54 rfl).trans ?_
    refine (ev_getR dX1_pausesAfterFail_55 f_1_73 rfl).trans ((and_iff_right (by decide)).trans ?_)
    refine (ev_iconst dX1_pausesAfterFail_58 (w := 4) (by decide)).trans ?_
    refine (ev_iald2 dX1_pausesAfterFail_59 (by decide) (v := (μ r0 4 (μ r0 13 o0 x1.toNatClampNeg).toNatClampNeg 4)) ((mget_a (by decide)).trans ((mget_a (by decide)).trans ((mget_a (by decide)).trans (rfl))))).trans ((and_iff_right (by unfold vp_in; decide)).trans ?_)
    refine (ev_icmp dX1_pausesAfterFail_60 (t := 83) (by decide)).trans (and_congr (imp_congr Iff.rfl ?_) (imp_congr Iff.rfl ?_))
    · exact Iff.rfl
    · refine (ev_aload_n dX1_pausesAfterFail_63 rfl).trans ?_
      refine (ev_aload_n dX1_pausesAfterFail_64 rfl).trans ?_
      refine (ev_getI2 dX1_pausesAfterFail_65 f_1_21 rfl (v := (μ r0 1 o0 2)) ((mget_a (by decide)).trans ((mget_a (by decide)).trans ((mget_i (by decide)).trans (rfl))))).trans ((and_iff_right (by decide)).trans ?_)
      refine (ev_aload_n dX1_pausesAfterFail_68 rfl).trans ?_
      refine (ev_getR dX1_pausesAfterFail_69 f_1_73 rfl).trans ((and_iff_right (by decide)).trans ?_)
      refine (ev_iconst dX1_pausesAfterFail_72 (w := 5) (by decide)).trans ?_
      refine (ev_iald2 dX1_pausesAfterFail_73 (by decide) (v := (μ r0 4 (μ r0 13 o0 x1.toNatClampNeg).toNatClampNeg 5)) ((mget_a (by decide)).trans ((mget_a (by decide)).trans ((mget_a (by decide)).trans (rfl))))).trans ((and_iff_right (by unfold vp_in; decide)).trans ?_)
      refine (ev_iadd dX1_pausesAfterFail_74).trans ?_
      refine (ev_put dX1_pausesAfterFail_75 f_1_269 rfl (by decide)).trans ((and_iff_right (by decide)).trans ?_)
      refine (ev_aload_n dX1_pausesAfterFail_78 rfl).trans ?_
      refine (ev_iconst dX1_pausesAfterFail_79 (w := 0) (by decide)).trans ?_
      refine (ev_put dX1_pausesAfterFail_80 f_1_263 rfl (by decide)).trans ((and_iff_right (by decide)).trans ?_)
      exact Iff.rfl
theorem B22_83 {C : Nat → List AV → Mem → Res → Prop} {μ : Mem} {res : Res} {x1 : Int32} {r0 o0 r2 o2 : Nat} : EvE C 22 83 [some (.inr (r0, 1, o0)), some (.inl x1), some (.inr (r2, 3, o2))] [] μ res ↔ vp_in x1 120 ∧ vp_in x1 120 ∧ (((μ r0 19 o0 x1.toNatClampNeg) < (μ r2 4 o2 1) → vp_in x1 120 ∧ ∃ μ1, C 26 [.inr (r0, 8, o0), .inl x1, .inl 3, .inl (((μ r0 1 o0 2) + 1) + ((μ r2 4 o2 2) <<< ((μ r0 19 o0 x1.toNatClampNeg) &&& 31)))] (mset μ r0 17 o0 x1.toNatClampNeg (-1)) (none, μ1) ∧ res = (some 1, μ1)) ∧ (¬ ((μ r0 19 o0 x1.toNatClampNeg) < (μ r2 4 o2 1)) → res = (some 0, (mset μ r0 17 o0 x1.toNatClampNeg (-1))))) := by
  refine (ev_aload_n dX1_pausesAfterFail_83 rfl).trans ?_
  refine (ev_getR dX1_pausesAfterFail_84 f_1_34 rfl).trans ((and_iff_right (by decide)).trans ?_)
  refine (ev_getR dX1_pausesAfterFail_87 f_1_155 rfl).trans ((and_iff_right (by decide)).trans ?_)
  refine (ev_iload_n dX1_pausesAfterFail_90 rfl).trans ?_
  refine (ev_iconst dX1_pausesAfterFail_91 (w := (-1)) (by decide)).trans ?_
  refine (ev_iast dX1_pausesAfterFail_92 (by decide)).trans (and_congr_right fun _ => ?_)
  refine (ev_aload_n dX1_pausesAfterFail_93 rfl).trans ?_
  refine (ev_getR dX1_pausesAfterFail_94 f_1_34 rfl).trans ((and_iff_right (by decide)).trans ?_)
  refine (ev_getR dX1_pausesAfterFail_97 f_1_152 rfl).trans ((and_iff_right (by decide)).trans ?_)
  refine (ev_iload_n dX1_pausesAfterFail_100 rfl).trans ?_
  refine (ev_iald2 dX1_pausesAfterFail_101 (by decide) (v := (μ r0 19 o0 x1.toNatClampNeg)) ((mget_a (by decide)).trans (rfl))).trans (and_congr_right fun _ => ?_)
  refine (ev_aload_n dX1_pausesAfterFail_102 rfl).trans ?_
  refine (ev_getR dX1_pausesAfterFail_103 f_1_73 rfl).trans ((and_iff_right (by decide)).trans ?_)
  refine (ev_iconst dX1_pausesAfterFail_106 (w := 1) (by decide)).trans ?_
  refine (ev_iald2 dX1_pausesAfterFail_107 (by decide) (v := (μ r2 4 o2 1)) ((mget_a (by decide)).trans (rfl))).trans ((and_iff_right (by unfold vp_in; decide)).trans ?_)
  refine (ev_icmp dX1_pausesAfterFail_108 (t := 113) (by decide)).trans (and_congr (imp_congr Iff.rfl ?_) (imp_congr Iff.rfl ?_))
  · refine (ev_aload_n dX1_pausesAfterFail_113 rfl).trans ?_
    refine (ev_getR dX1_pausesAfterFail_114 f_1_34 rfl).trans ((and_iff_right (by decide)).trans ?_)
    refine (ev_iload_n dX1_pausesAfterFail_117 rfl).trans ?_
    refine (ev_iconst dX1_pausesAfterFail_118 (w := 3) (by decide)).trans ?_
    refine (ev_aload_n dX1_pausesAfterFail_119 rfl).trans ?_
    refine (ev_getI2 dX1_pausesAfterFail_120 f_1_21 rfl (v := (μ r0 1 o0 2)) ((mget_a (by decide)).trans (rfl))).trans ((and_iff_right (by decide)).trans ?_)
    refine (ev_iconst dX1_pausesAfterFail_123 (w := 1) (by decide)).trans ?_
    refine (ev_iadd dX1_pausesAfterFail_124).trans ?_
    refine (ev_aload_n dX1_pausesAfterFail_125 rfl).trans ?_
    refine (ev_getR dX1_pausesAfterFail_126 f_1_73 rfl).trans ((and_iff_right (by decide)).trans ?_)
    refine (ev_iconst dX1_pausesAfterFail_129 (w := 2) (by decide)).trans ?_
    refine (ev_iald2 dX1_pausesAfterFail_130 (by decide) (v := (μ r2 4 o2 2)) ((mget_a (by decide)).trans (rfl))).trans ((and_iff_right (by unfold vp_in; decide)).trans ?_)
    refine (ev_aload_n dX1_pausesAfterFail_131 rfl).trans ?_
    refine (ev_getR dX1_pausesAfterFail_132 f_1_34 rfl).trans ((and_iff_right (by decide)).trans ?_)
    refine (ev_getR dX1_pausesAfterFail_135 f_1_152 rfl).trans ((and_iff_right (by decide)).trans ?_)
    refine (ev_iload_n dX1_pausesAfterFail_138 rfl).trans ?_
    refine (ev_iald2 dX1_pausesAfterFail_139 (by decide) (v := (μ r0 19 o0 x1.toNatClampNeg)) ((mget_a (by decide)).trans (rfl))).trans (and_congr_right fun _ => ?_)
    refine (ev_ishl dX1_pausesAfterFail_140).trans ?_
    refine (ev_iadd dX1_pausesAfterFail_141).trans ?_
    refine (ev_virV dX1_pausesAfterFail_142 c_1_221 (by decide) (As := [.inl x1, .inl 3, .inl (((μ r0 1 o0 2) + 1) + ((μ r2 4 o2 2) <<< ((μ r0 19 o0 x1.toNatClampNeg) &&& 31)))]) rfl rfl rfl rfl (Nat.le_of_ble_eq_true rfl)).trans ((and_iff_right (by decide)).trans (exists_congr fun μ1 => and_congr_right fun _ => ?_))
    refine (ev_iconst dX1_pausesAfterFail_145 (w := 1) (by decide)).trans ?_
    exact (ev_zreturn dX1_pausesAfterFail_146 rfl).trans (and_iff_right (by decide))
  · refine (ev_iconst dX1_pausesAfterFail_111 (w := 0) (by decide)).trans ?_
    exact (ev_zreturn dX1_pausesAfterFail_112 rfl).trans (and_iff_right (by decide))
/-! X1_copyFrom -/
theorem B23_0 {C : Nat → List AV → Mem → Res → Prop} {μ : Mem} {res : Res} {r0 o0 r1 o1 : Nat} : EvE C 23 0 [some (.inr (r0, 1, o0)), some (.inr (r1, 1, o1)), none] [] μ res ↔ EvE C 23 2 [some (.inr (r0, 1, o0)), some (.inr (r1, 1, o1)), some (.inl 0)] [] μ res := by
  refine (ev_iconst dX1_copyFrom_0 (w := 0) (by decide)).trans ?_
  refine (ev_istore_n dX1_copyFrom_1 (Nat.le_of_ble_eq_true rfl) rfl).trans ?_
  exact Iff.rfl
theorem B23_2 {C : Nat → List AV → Mem → Res → Prop} {μ : Mem} {res : Res} {x2 : Int32} {r0 o0 r1 o1 : Nat} : EvE C 23 2 [some (.inr (r0, 1, o0)), some (.inr (r1, 1, o1)), some (.inl x2)] [] μ res ↔ ((6 ≤ x2 → ((μ r1 1 o1 3) = 0 ∨ (μ r1 1 o1 3) = 1) ∧ ∃ μ1, C 29 [.inr (r0, 8, o0), .inr (r1, 8, o1)] (mset (mset (mset (mset μ r0 1 o0 1 (μ r1 1 o1 1)) r0 1 o0 2 (μ r1 1 o1 2)) r0 1 o0 3 (μ r1 1 o1 3)) r0 1 o0 4 (μ r1 1 o1 4)) (none, μ1) ∧ ∃ μ2, C 1 [.inr (r0, 20, o0), .inr (r1, 20, o1)] μ1 (none, μ2) ∧ ∃ μ3, C 36 [.inr (r0, 32, o0), .inr (r1, 32, o1)] μ2 (none, μ3) ∧ res = (none, μ3)) ∧ (¬ (6 ≤ x2) → vp_in x2 6 ∧ vp_in x2 6 ∧ ∃ μ4, C 42 [.inr (r0, 3, x2.toNatClampNeg), .inr (r1, 3, x2.toNatClampNeg)] μ (none, μ4) ∧ EvE C 23 2 [some (.inr (r0, 1, o0)), some (.inr (r1, 1, o1)), some (.inl (x2 + 1))] [] μ4 res)) := by
  refine (ev_iload_n dX1_copyFrom_2 rfl).trans ?_
  refine (ev_bipush dX1_copyFrom_3 (w := 6) (by decide)).trans ?_
  refine (ev_icmp dX1_copyFrom_5 (t := 29) (by decide)).trans (and_congr (imp_congr Iff.rfl ?_) (imp_congr Iff.rfl ?_))
  · refine (ev_aload_n dX1_copyFrom_29 rfl).trans ?_
    refine (ev_aload_n dX1_copyFrom_30 rfl).trans ?_
    refine (ev_getI2 dX1_copyFrom_31 f_1_17 rfl (v := (μ r1 1 o1 1)) (rfl)).trans ((and_iff_right (by decide)).trans ?_)
    refine (ev_put dX1_copyFrom_34 f_1_17 rfl (by decide)).trans ((and_iff_right (by decide)).trans ?_)
    refine (ev_aload_n dX1_copyFrom_37 rfl).trans ?_
    refine (ev_aload_n dX1_copyFrom_38 rfl).trans ?_
    refine (ev_getI2 dX1_copyFrom_39 f_1_21 rfl (v := (μ r1 1 o1 2)) ((mget_i (by decide)).trans (rfl))).trans ((and_iff_right (by decide)).trans ?_)
    refine (ev_put dX1_copyFrom_42 f_1_21 rfl (by decide)).trans ((and_iff_right (by decide)).trans ?_)
    refine (ev_aload_n dX1_copyFrom_45 rfl).trans ?_
    refine (ev_aload_n dX1_copyFrom_46 rfl).trans ?_
    refine (ev_getI2 dX1_copyFrom_47 f_1_24 rfl (v := (μ r1 1 o1 3)) ((mget_i (by decide)).trans ((mget_i (by decide)).trans (rfl)))).trans ((and_iff_right (by decide)).trans ?_)
    refine (ev_putZ dX1_copyFrom_50 f_1_24 rfl (by decide)).trans (and_congr (and_iff_right (by decide)) ?_)
    refine (ev_aload_n dX1_copyFrom_53 rfl).trans ?_
    refine (ev_aload_n dX1_copyFrom_54 rfl).trans ?_
    refine (ev_getI2 dX1_copyFrom_55 f_1_28 rfl (v := (μ r1 1 o1 4)) ((mget_i (by decide)).trans ((mget_i (by decide)).trans ((mget_i (by decide)).trans (rfl))))).trans ((and_iff_right (by decide)).trans ?_)
    refine (ev_put dX1_copyFrom_58 f_1_28 rfl (by decide)).trans ((and_iff_right (by decide)).trans ?_)
    refine (ev_aload_n dX1_copyFrom_61 rfl).trans ?_
    refine (ev_getR dX1_copyFrom_62 f_1_34 rfl).trans ((and_iff_right (by decide)).trans ?_)
    refine (ev_aload_n dX1_copyFrom_65 rfl).trans ?_
    refine (ev_getR dX1_copyFrom_66 f_1_34 rfl).trans ((and_iff_right (by decide)).trans ?_)
    refine (ev_virV dX1_copyFrom_69 c_1_276 (by decide) (As := [.inr (r1, 8, o1)]) rfl rfl rfl rfl (Nat.le_of_ble_eq_true rfl)).trans ((and_iff_right (by decide)).trans (exists_congr fun μ1 => and_congr_right fun _ => ?_))
    refine (ev_aload_n dX1_copyFrom_72 rfl).trans ?_
    refine (ev_getR dX1_copyFrom_73 f_1_41 rfl).trans ((and_iff_right (by decide)).trans ?_)
    refine (ev_aload_n dX1_copyFrom_76 rfl).trans ?_
    refine (ev_getR dX1_copyFrom_77 f_1_41 rfl).trans ((and_iff_right (by decide)).trans ?_)
    refine (ev_virV dX1_copyFrom_80 c_1_279 (by decide) (As := [.inr (r1, 20, o1)]) rfl rfl rfl rfl (Nat.le_of_ble_eq_true rfl)).trans ((and_iff_right (by decide)).trans (exists_congr fun μ2 => and_congr_right fun _ => ?_))
    refine (ev_aload_n dX1_copyFrom_83 rfl).trans ?_
    refine (ev_getR dX1_copyFrom_84 f_1_55 rfl).trans ((and_iff_right (by decide)).trans ?_)
    refine (ev_aload_n dX1_copyFrom_87 rfl).trans ?_
    refine (ev_getR dX1_copyFrom_88 f_1_55 rfl).trans ((and_iff_right (by decide)).trans ?_)
    refine (ev_virV dX1_copyFrom_91 c_1_282 (by decide) (As := [.inr (r1, 32, o1)]) rfl rfl rfl rfl (Nat.le_of_ble_eq_true rfl)).trans ((and_iff_right (by decide)).trans (exists_congr fun μ3 => and_congr_right fun _ => ?_))
    exact ev_return dX1_copyFrom_94 rfl
  · refine (ev_aload_n dX1_copyFrom_8 rfl).trans ?_
    refine (ev_getR dX1_copyFrom_9 f_1_11 rfl).trans ((and_iff_right (by decide)).trans ?_)
    refine (ev_iload_n dX1_copyFrom_12 rfl).trans ?_
    refine (ev_aald dX1_copyFrom_13 (by decide)).trans (and_congr_right fun _ => ?_)
    refine (ev_aload_n dX1_copyFrom_14 rfl).trans ?_
    refine (ev_getR dX1_copyFrom_15 f_1_11 rfl).trans ((and_iff_right (by decide)).trans ?_)
    refine (ev_iload_n dX1_copyFrom_18 rfl).trans ?_
    refine (ev_aald dX1_copyFrom_19 (by decide)).trans (and_congr_right fun _ => ?_)
    refine (ev_virV dX1_copyFrom_20 c_1_272 (by decide) (As := [.inr (r1, 3, x2.toNatClampNeg)]) rfl rfl rfl rfl (Nat.le_of_ble_eq_true rfl)).trans ((and_iff_right (by decide)).trans (exists_congr fun μ4 => and_congr_right fun _ => ?_))
    refine (ev_iinc dX1_copyFrom_23 rfl (w := 1) (by decide) rfl).trans ?_
    refine (ev_goto dX1_copyFrom_26 (t := 2) (by decide)).trans ?_
    exact Iff.rfl
/-! X2_add -/
theorem B24_0 {C : Nat → List AV → Mem → Res → Prop} {μ : Mem} {res : Res} {x1 x2 x3 : Int32} {r0 o0 : Nat} : EvE C 24 0 [some (.inr (r0, 8, o0)), some (.inl x1), some (.inl x2), some (.inl x3), none] [] μ res ↔ ∃ v1 μ1, C 30 [.inr (r0, 9, o0)] μ (some v1, μ1) ∧ ((¬ v1 = (-1) → vp_in v1 120 ∧ vp_in v1 120 ∧ vp_in v1 120 ∧ vp_in v1 120 ∧ vp_in v1 120 ∧ vp_in v1 120 ∧ vp_in v1 120 ∧ vp_in v1 120 ∧ res = (some v1, (mset (mset (mset (mset (mset (mset (mset (mset (mset μ1 r0 12 o0 v1.toNatClampNeg (μ1 r0 8 o0 9)) r0 8 o0 9 ((μ1 r0 8 o0 9) + 1)) r0 13 o0 v1.toNatClampNeg x1) r0 14 o0 v1.toNatClampNeg x2) r0 15 o0 v1.toNatClampNeg 0) r0 16 o0 v1.toNatClampNeg x3) r0 17 o0 v1.toNatClampNeg (-1)) r0 18 o0 v1.toNatClampNeg (-4)) r0 19 o0 v1.toNatClampNeg 0))) ∧ (¬ (¬ v1 = (-1)) → res = (some (-1), μ1))) := by
  refine (ev_aload_n dX2_add_0 rfl).trans ?_
  refine (ev_getR dX2_add_1 f_2_14 rfl).trans ((and_iff_right (by decide)).trans ?_)
  refine (ev_virI dX2_add_4 c_2_49 (by decide) (As := []) rfl rfl (by decide) rfl (Nat.le_of_ble_eq_true rfl)).trans ((and_iff_right (by decide)).trans (exists_congr fun v1 => exists_congr fun μ1 => and_congr_right fun _ => ?_))
  refine (ev_istore dX2_add_7 (Nat.le_of_ble_eq_true rfl) rfl).trans ?_
  refine (ev_iload dX2_add_9 rfl).trans ?_
  refine (ev_iconst dX2_add_11 (w := (-1)) (by decide)).trans ?_
  refine (ev_icmp dX2_add_12 (t := 17) (by decide)).trans (and_congr (imp_congr Iff.rfl ?_) (imp_congr Iff.rfl ?_))
  · refine (ev_aload_n dX2_add_17 rfl).trans ?_
    refine (ev_getR dX2_add_18 f_2_20 rfl).trans ((and_iff_right (by decide)).trans ?_)
    refine (ev_iload dX2_add_21 rfl).trans ?_
    refine (ev_aload_n dX2_add_23 rfl).trans ?_
    refine (ev_getI2 dX2_add_24 f_2_45 rfl (v := (μ1 r0 8 o0 9)) (rfl)).trans ((and_iff_right (by decide)).trans ?_)
    refine (ev_iast dX2_add_27 (by decide)).trans (and_congr_right fun _ => ?_)
    refine (ev_aload_n dX2_add_28 rfl).trans ?_
    refine (ev_dup dX2_add_29).trans ?_
    refine (ev_getI2 dX2_add_30 f_2_45 rfl (v := (μ1 r0 8 o0 9)) ((mget_a (by decide)).trans (rfl))).trans ((and_iff_right (by decide)).trans ?_)
    refine (ev_iconst dX2_add_33 (w := 1) (by decide)).trans ?_
    refine (ev_iadd dX2_add_34).trans ?_
    refine (ev_put dX2_add_35 f_2_45 rfl (by decide)).trans ((and_iff_right (by decide)).trans ?_)
    refine (ev_aload_n dX2_add_38 rfl).trans ?_
    refine (ev_getR dX2_add_39 f_2_24 rfl).trans ((and_iff_right (by decide)).trans ?_)
    refine (ev_iload dX2_add_42 rfl).trans ?_
    refine (ev_iload_n dX2_add_44 rfl).trans ?_
    refine (ev_iast dX2_add_45 (by decide)).trans (and_congr_right fun _ => ?_)
    refine (ev_aload_n dX2_add_46 rfl).trans ?_
    refine (ev_getR dX2_add_47 f_2_27 rfl).trans ((and_iff_right (by decide)).trans ?_)
    refine (ev_iload dX2_add_50 rfl).trans ?_
    refine (ev_iload_n dX2_add_52 rfl).trans ?_
    refine (ev_iast dX2_add_53 (by decide)).trans (and_congr_right fun _ => ?_)
    refine (ev_aload_n dX2_add_54 rfl).trans ?_
    refine (ev_getR dX2_add_55 f_2_30 rfl).trans ((and_iff_right (by decide)).trans ?_)
    refine (ev_iload dX2_add_58 rfl).trans ?_
    refine (ev_iconst dX2_add_60 (w := 0) (by decide)).trans ?_
    refine (ev_iast dX2_add_61 (by decide)).trans (and_congr_right fun _ => ?_)
    refine (ev_aload_n dX2_add_62 rfl).trans ?_
    refine (ev_getR dX2_add_63 f_2_33 rfl).trans ((and_iff_right (by decide)).trans ?_)
    refine (ev_iload dX2_add_66 rfl).trans ?_
    refine (ev_iload_n dX2_add_68 rfl).trans ?_
    refine (ev_iast dX2_add_69 (by decide)).trans (and_congr_right fun _ => ?_)
    refine (ev_aload_n dX2_add_70 rfl).trans ?_
    refine (ev_getR dX2_add_71 f_2_36 rfl).trans ((and_iff_right (by decide)).trans ?_)
    refine (ev_iload dX2_add_74 rfl).trans ?_
    refine (ev_iconst dX2_add_76 (w := (-1)) (by decide)).trans ?_
    refine (ev_iast dX2_add_77 (by decide)).trans (and_congr_right fun _ => ?_)
    refine (ev_aload_n dX2_add_78 rfl).trans ?_
    refine (ev_getR dX2_add_79 f_2_39 rfl).trans ((and_iff_right (by decide)).trans ?_)
    refine (ev_iload dX2_add_82 rfl).trans ?_
    refine (ev_bipush dX2_add_84 (w := (-4)) (by decide)).trans ?_
    refine (ev_iast dX2_add_86 (by decide)).trans (and_congr_right fun _ => ?_)
    refine (ev_aload_n dX2_add_87 rfl).trans ?_
    refine (ev_getR dX2_add_88 f_2_42 rfl).trans ((and_iff_right (by decide)).trans ?_)
    refine (ev_iload dX2_add_91 rfl).trans ?_
    refine (ev_iconst dX2_add_93 (w := 0) (by decide)).trans ?_
    refine (ev_iast dX2_add_94 (by decide)).trans (and_congr_right fun _ => ?_)
    refine (ev_iload dX2_add_95 rfl).trans ?_
    exact ev_ireturn dX2_add_97 rfl
  · refine (ev_iconst dX2_add_15 (w := (-1)) (by decide)).trans ?_
    exact ev_ireturn dX2_add_16 rfl
/-! X2_remove -/
theorem B25_0 {C : Nat → List AV → Mem → Res → Prop} {μ : Mem} {res : Res} {x1 : Int32} {r0 o0 : Nat} : EvE C 25 0 [some (.inr (r0, 8, o0)), some (.inl x1)] [] μ res ↔ vp_in x1 120 ∧ ∃ μ1, C 31 [.inr (r0, 9, o0), .inl x1] (mset μ r0 15 o0 x1.toNatClampNeg (-1)) (none, μ1) ∧ res = (none, μ1) := by
  refine (ev_aload_n dX2_remove_0 rfl).trans ?_
  refine (ev_getR dX2_remove_1 f_2_30 rfl).trans ((and_iff_right (by decide)).trans ?_)
  refine (ev_iload_n dX2_remove_4 rfl).trans ?_
  refine (ev_iconst dX2_remove_5 (w := (-1)) (by decide)).trans ?_
  refine (ev_iast dX2_remove_6 (by decide)).trans (and_congr_right fun _ => ?_)
  refine (ev_aload_n dX2_remove_7 rfl).trans ?_
  refine (ev_getR dX2_remove_8 f_2_14 rfl).trans ((and_iff_right (by decide)).trans ?_)
  refine (ev_iload_n dX2_remove_11 rfl).trans ?_
  refine (ev_virV dX2_remove_12 c_2_53 (by decide) (As := [.inl x1]) rfl rfl rfl rfl (Nat.le_of_ble_eq_true rfl)).trans ((and_iff_right (by decide)).trans (exists_congr fun μ1 => and_congr_right fun _ => ?_))
  exact ev_return dX2_remove_15 rfl
/-! X2_become -/
theorem B26_0 {C : Nat → List AV → Mem → Res → Prop} {μ : Mem} {res : Res} {x1 x2 x3 : Int32} {r0 o0 : Nat} : EvE C 26 0 [some (.inr (r0, 8, o0)), some (.inl x1), some (.inl x2), some (.inl x3)] [] μ res ↔ vp_in x1 120 ∧ vp_in x1 120 ∧ res = (none, (mset (mset μ r0 15 o0 x1.toNatClampNeg x2) r0 18 o0 x1.toNatClampNeg x3)) := by
  refine (ev_aload_n dX2_become_0 rfl).trans ?_
  refine (ev_getR dX2_become_1 f_2_30 rfl).trans ((and_iff_right (by decide)).trans ?_)
  refine (ev_iload_n dX2_become_4 rfl).trans ?_
  refine (ev_iload_n dX2_become_5 rfl).trans ?_
  refine (ev_iast dX2_become_6 (by decide)).trans (and_congr_right fun _ => ?_)
  refine (ev_aload_n dX2_become_7 rfl).trans ?_
  refine (ev_getR dX2_become_8 f_2_39 rfl).trans ((and_iff_right (by decide)).trans ?_)
  refine (ev_iload_n dX2_become_11 rfl).trans ?_
  refine (ev_iload_n dX2_become_12 rfl).trans ?_
  refine (ev_iast dX2_become_13 (by decide)).trans (and_congr_right fun _ => ?_)
  exact ev_return dX2_become_14 rfl
/-! X2_isDue -/
theorem B27_0 {C : Nat → List AV → Mem → Res → Prop} {μ : Mem} {res : Res} {x1 x2 x3 : Int32} {r0 o0 : Nat} : EvE C 27 0 [some (.inr (r0, 8, o0)), some (.inl x1), some (.inl x2), some (.inl x3)] [] μ res ↔ vp_in x1 120 ∧ ((¬ (μ r0 15 o0 x1.toNatClampNeg) = x2 → EvE C 27 24 [some (.inr (r0, 8, o0)), some (.inl x1), some (.inl x2), some (.inl x3)] [] μ res) ∧ (¬ (¬ (μ r0 15 o0 x1.toNatClampNeg) = x2) → vp_in x1 120 ∧ ((¬ (μ r0 18 o0 x1.toNatClampNeg) = x3 → EvE C 27 24 [some (.inr (r0, 8, o0)), some (.inl x1), some (.inl x2), some (.inl x3)] [] μ res) ∧ (¬ (¬ (μ r0 18 o0 x1.toNatClampNeg) = x3) → EvE C 27 25 [some (.inr (r0, 8, o0)), some (.inl x1), some (.inl x2), some (.inl x3)] [.inl 1] μ res)))) := by
  refine (ev_aload_n dX2_isDue_0 rfl).trans ?_
  refine (ev_getR dX2_isDue_1 f_2_30 rfl).trans ((and_iff_right (by decide)).trans ?_)
  refine (ev_iload_n dX2_isDue_4 rfl).trans ?_
  refine (ev_iald2 dX2_isDue_5 (by decide) (v := (μ r0 15 o0 x1.toNatClampNeg)) (rfl)).trans (and_congr_right fun _ => ?_)
  refine (ev_iload_n dX2_isDue_6 rfl).trans ?_
  refine (ev_icmp dX2_isDue_7 (t := 24) (by decide)).trans (and_congr (imp_congr Iff.rfl ?_) (imp_congr Iff.rfl ?_))
  · exact Iff.rfl
  · refine (ev_aload_n dX2_isDue_10 rfl).trans ?_
    refine (ev_getR dX2_isDue_11 f_2_39 rfl).trans ((and_iff_right (by decide)).trans ?_)
    refine (ev_iload_n dX2_isDue_14 rfl).trans ?_
    refine (ev_iald2 dX2_isDue_15 (by decide) (v := (μ r0 18 o0 x1.toNatClampNeg)) (rfl)).trans (and_congr_right fun _ => ?_)
    refine (ev_iload_n dX2_isDue_16 rfl).trans ?_
    refine (ev_icmp dX2_isDue_17 (t := 24) (by decide)).trans (and_congr (imp_congr Iff.rfl ?_) (imp_congr Iff.rfl ?_))
    · exact Iff.rfl
    · refine (ev_iconst dX2_isDue_20 (w := 1) (by decide)).trans ?_
      refine (ev_goto dX2_isDue_21 (t := 25) (by decide)).trans ?_
      exact Iff.rfl
theorem B27_24 {C : Nat → List AV → Mem → Res → Prop} {μ : Mem} {res : Res} {x1 x2 x3 : Int32} {r0 o0 : Nat} : EvE C 27 24 [some (.inr (r0, 8, o0)), some (.inl x1), some (.inl x2), some (.inl x3)] [] μ res ↔ EvE C 27 25 [some (.inr (r0, 8, o0)), some (.inl x1), some (.inl x2), some (.inl x3)] [.inl 0] μ res := by
  refine (ev_iconst dX2_isDue_24 (w := 0) (by decide)).trans ?_
  exact Iff.rfl
theorem B27_25 {C : Nat → List AV → Mem → Res → Prop} {μ : Mem} {res : Res} {x1 x2 x3 w0 : Int32} {r0 o0 : Nat} : EvE C 27 25 [some (.inr (r0, 8, o0)), some (.inl x1), some (.inl x2), some (.inl x3)] [.inl w0] μ res ↔ (w0 = 0 ∨ w0 = 1) ∧ res = (some w0, μ) := by
  exact ev_zreturn dX2_isDue_25 rfl
/-! X2_howMany -/
theorem B28_0 {C : Nat → List AV → Mem → Res → Prop} {μ : Mem} {res : Res} {x1 x2 : Int32} {r0 o0 : Nat} : EvE C 28 0 [some (.inr (r0, 8, o0)), some (.inl x1), some (.inl x2), none, none, none] [] μ res ↔ EvE C 28 14 [some (.inr (r0, 8, o0)), some (.inl x1), some (.inl x2), some (.inl 0), some (.inl (μ r0 9 o0 2)), some (.inl 0)] [] μ res := by
  refine (ev_iconst dX2_howMany_0 (w := 0) (by decide)).trans ?_
  refine (ev_istore_n dX2_howMany_1 (Nat.le_of_ble_eq_true rfl) rfl).trans ?_
  refine (ev_aload_n dX2_howMany_2 rfl).trans ?_
  refine (ev_getR dX2_howMany_3 f_2_14 rfl).trans ((and_iff_right (by decide)).trans ?_)
  refine (ev_getI2 dX2_howMany_6 f_2_56 rfl (v := (μ r0 9 o0 2)) (rfl)).trans ((and_iff_right (by decide)).trans ?_)
  refine (ev_istore dX2_howMany_9 (Nat.le_of_ble_eq_true rfl) rfl).trans ?_
  refine (ev_iconst dX2_howMany_11 (w := 0) (by decide)).trans ?_
  refine (ev_istore dX2_howMany_12 (Nat.le_of_ble_eq_true rfl) rfl).trans ?_
  exact Iff.rfl
theorem B28_14 {C : Nat → List AV → Mem → Res → Prop} {μ : Mem} {res : Res} {x1 x2 x3 x4 x5 : Int32} {r0 o0 : Nat} : EvE C 28 14 [some (.inr (r0, 8, o0)), some (.inl x1), some (.inl x2), some (.inl x3), some (.inl x4), some (.inl x5)] [] μ res ↔ (((μ r0 9 o0 5) ≤ x5 → EvE C 28 75 [some (.inr (r0, 8, o0)), some (.inl x1), some (.inl x2), some (.inl x3), some (.inl x4), some (.inl x5)] [] μ res) ∧ (¬ ((μ r0 9 o0 5) ≤ x5) → ((x4 = (-1) → EvE C 28 75 [some (.inr (r0, 8, o0)), some (.inl x1), some (.inl x2), some (.inl x3), some (.inl x4), some (.inl x5)] [] μ res) ∧ (¬ (x4 = (-1)) → vp_in x4 120 ∧ ((¬ (μ r0 13 o0 x4.toNatClampNeg) = x1 → EvE C 28 57 [some (.inr (r0, 8, o0)), some (.inl x1), some (.inl x2), some (.inl x3), some (.inl x4), some (.inl x5)] [] μ res) ∧ (¬ (¬ (μ r0 13 o0 x4.toNatClampNeg) = x1) → vp_in x4 120 ∧ ((¬ (μ r0 15 o0 x4.toNatClampNeg) = x2 → EvE C 28 57 [some (.inr (r0, 8, o0)), some (.inl x1), some (.inl x2), some (.inl x3), some (.inl x4), some (.inl x5)] [] μ res) ∧ (¬ (¬ (μ r0 15 o0 x4.toNatClampNeg) = x2) → EvE C 28 57 [some (.inr (r0, 8, o0)), some (.inl x1), some (.inl x2), some (.inl (x3 + 1)), some (.inl x4), some (.inl x5)] [] μ res)))))))) := by
  refine (ev_iload dX2_howMany_14 rfl).trans ?_
  refine (ev_aload_n dX2_howMany_16 rfl).trans ?_
  refine (ev_getR dX2_howMany_17 f_2_14 rfl).trans ((and_iff_right (by decide)).trans ?_)
  refine (ev_getI2 dX2_howMany_20 f_2_59 rfl (v := (μ r0 9 o0 5)) (rfl)).trans ((and_iff_right (by decide)).trans ?_)
  refine (ev_icmp dX2_howMany_23 (t := 75) (by decide)).trans (and_congr (imp_congr Iff.rfl ?_) (imp_congr Iff.rfl ?_))
  · exact Iff.rfl
  · refine (ev_iload dX2_howMany_26 rfl).trans ?_
    refine (ev_iconst dX2_howMany_28 (w := (-1)) (by decide)).trans ?_
    refine (ev_icmp dX2_howMany_29 (t := 75) (by decide)).trans (and_congr (imp_congr Iff.rfl ?_) (imp_congr Iff.rfl ?_))
    · exact Iff.rfl
    · refine (ev_aload_n dX2_howMany_32 rfl).trans ?_
      refine (ev_getR dX2_howMany_33 f_2_24 rfl).trans ((and_iff_right (by decide)).trans ?_)
      refine (ev_iload dX2_howMany_36 rfl).trans ?_
      refine (ev_iald2 dX2_howMany_38 (by decide) (v := (μ r0 13 o0 x4.toNatClampNeg)) (rfl)).trans (and_congr_right fun _ => ?_)
      refine (ev_iload_n dX2_howMany_39 rfl).trans ?_
      refine (ev_icmp dX2_howMany_40 (t := 57) (by decide)).trans (and_congr (imp_congr Iff.rfl ?_) (imp_congr Iff.rfl ?_))
      · exact Iff.rfl
      · refine (ev_aload_n dX2_howMany_43 rfl).trans ?_
        refine (ev_getR dX2_howMany_44 f_2_30 rfl).trans ((and_iff_right (by decide)).trans ?_)
        refine (ev_iload dX2_howMany_47 rfl).trans ?_
        refine (ev_iald2 dX2_howMany_49 (by decide) (v := (μ r0 15 o0 x4.toNatClampNeg)) (rfl)).trans (and_congr_right fun _ => ?_)
        refine (ev_iload_n dX2_howMany_50 rfl).trans ?_
        refine (ev_icmp dX2_howMany_51 (t := 57) (by decide)).trans (and_congr (imp_congr Iff.rfl ?_) (imp_congr Iff.rfl ?_))
        · exact Iff.rfl
        · refine (ev_iinc dX2_howMany_54 rfl (w := 1) (by decide) rfl).trans ?_
          exact Iff.rfl
theorem B28_57 {C : Nat → List AV → Mem → Res → Prop} {μ : Mem} {res : Res} {x1 x2 x3 x4 x5 : Int32} {r0 o0 : Nat} : EvE C 28 57 [some (.inr (r0, 8, o0)), some (.inl x1), some (.inl x2), some (.inl x3), some (.inl x4), some (.inl x5)] [] μ res ↔ vp_in x4 120 ∧ EvE C 28 14 [some (.inr (r0, 8, o0)), some (.inl x1), some (.inl x2), some (.inl x3), some (.inl (μ r0 11 o0 x4.toNatClampNeg)), some (.inl (x5 + 1))] [] μ res := by
  refine (ev_aload_n dX2_howMany_57 rfl).trans ?_
  refine (ev_getR dX2_howMany_58 f_2_14 rfl).trans ((and_iff_right (by decide)).trans ?_)
  refine (ev_getR dX2_howMany_61 f_2_62 rfl).trans ((and_iff_right (by decide)).trans ?_)
  refine (ev_iload dX2_howMany_64 rfl).trans ?_
  refine (ev_iald2 dX2_howMany_66 (by decide) (v := (μ r0 11 o0 x4.toNatClampNeg)) (rfl)).trans (and_congr_right fun _ => ?_)
  refine (ev_istore dX2_howMany_67 (Nat.le_of_ble_eq_true rfl) rfl).trans ?_
  refine (ev_iinc dX2_howMany_69 rfl (w := 1) (by decide) rfl).trans ?_
  refine (ev_goto dX2_howMany_72 (t := 14) (by decide)).trans ?_
  exact Iff.rfl
theorem B28_75 {C : Nat → List AV → Mem → Res → Prop} {μ : Mem} {res : Res} {x1 x2 x3 x4 x5 : Int32} {r0 o0 : Nat} : EvE C 28 75 [some (.inr (r0, 8, o0)), some (.inl x1), some (.inl x2), some (.inl x3), some (.inl x4), some (.inl x5)] [] μ res ↔ res = (some x3, μ) := by
  refine (ev_iload_n dX2_howMany_75 rfl).trans ?_
  exact ev_ireturn dX2_howMany_76 rfl
/-! X2_copyFrom -/
theorem B29_0 {C : Nat → List AV → Mem → Res → Prop} {μ : Mem} {res : Res} {r0 o0 r1 o1 : Nat} : EvE C 29 0 [some (.inr (r0, 8, o0)), some (.inr (r1, 8, o1))] [] μ res ↔ ∃ μ1, C 33 [.inr (r0, 9, o0), .inr (r1, 9, o1)] μ (none, μ1) ∧ res = (none, (mset (mrow (mrow (mrow (mrow (mrow (mrow (mrow (mrow μ1 r0 12 o0 (va_cpy (μ1 r1 12 o1) (μ1 r0 12 o0) 0 0 120)) r0 13 o0 (va_cpy (μ1 r1 13 o1) (μ1 r0 13 o0) 0 0 120)) r0 14 o0 (va_cpy (μ1 r1 14 o1) (μ1 r0 14 o0) 0 0 120)) r0 15 o0 (va_cpy (μ1 r1 15 o1) (μ1 r0 15 o0) 0 0 120)) r0 16 o0 (va_cpy (μ1 r1 16 o1) (μ1 r0 16 o0) 0 0 120)) r0 17 o0 (va_cpy (μ1 r1 17 o1) (μ1 r0 17 o0) 0 0 120)) r0 18 o0 (va_cpy (μ1 r1 18 o1) (μ1 r0 18 o0) 0 0 120)) r0 19 o0 (va_cpy (μ1 r1 19 o1) (μ1 r0 19 o0) 0 0 120)) r0 8 o0 9 (μ1 r1 8 o1 9))) := by
  refine (ev_aload_n dX2_copyFrom_0 rfl).trans ?_
  refine (ev_getR dX2_copyFrom_1 f_2_14 rfl).trans ((and_iff_right (by decide)).trans ?_)
  refine (ev_aload_n dX2_copyFrom_4 rfl).trans ?_
  refine (ev_getR dX2_copyFrom_5 f_2_14 rfl).trans ((and_iff_right (by decide)).trans ?_)
  refine (ev_virV dX2_copyFrom_8 c_2_65 (by decide) (As := [.inr (r1, 9, o1)]) rfl rfl rfl rfl (Nat.le_of_ble_eq_true rfl)).trans ((and_iff_right (by decide)).trans (exists_congr fun μ1 => and_congr_right fun _ => ?_))
  refine (ev_aload_n dX2_copyFrom_11 rfl).trans ?_
  refine (ev_getR dX2_copyFrom_12 f_2_20 rfl).trans ((and_iff_right (by decide)).trans ?_)
  refine (ev_iconst dX2_copyFrom_15 (w := 0) (by decide)).trans ?_
  refine (ev_aload_n dX2_copyFrom_16 rfl).trans ?_
  refine (ev_getR dX2_copyFrom_17 f_2_20 rfl).trans ((and_iff_right (by decide)).trans ?_)
  refine (ev_iconst dX2_copyFrom_20 (w := 0) (by decide)).trans ?_
  refine (ev_bipush dX2_copyFrom_21 (w := 120) (by decide)).trans ?_
  refine (ev_acpy2 dX2_copyFrom_23 c_2_69 (by decide) (by decide) (Nat.le_of_ble_eq_true rfl) (f := (μ1 r1 12 o1)) (g := (μ1 r0 12 o0)) (rfl) (rfl)).trans ((and_iff_right (by decide)).trans ?_)
  refine (ev_aload_n dX2_copyFrom_26 rfl).trans ?_
  refine (ev_getR dX2_copyFrom_27 f_2_24 rfl).trans ((and_iff_right (by decide)).trans ?_)
  refine (ev_iconst dX2_copyFrom_30 (w := 0) (by decide)).trans ?_
  refine (ev_aload_n dX2_copyFrom_31 rfl).trans ?_
  refine (ev_getR dX2_copyFrom_32 f_2_24 rfl).trans ((and_iff_right (by decide)).trans ?_)
  refine (ev_iconst dX2_copyFrom_35 (w := 0) (by decide)).trans ?_
  refine (ev_bipush dX2_copyFrom_36 (w := 120) (by decide)).trans ?_
  refine (ev_acpy2 dX2_copyFrom_38 c_2_69 (by decide) (by decide) (Nat.le_of_ble_eq_true rfl) (f := (μ1 r1 13 o1)) (g := (μ1 r0 13 o0)) ((mrgetR_a (by decide)).trans (rfl)) ((mrgetR_a (by decide)).trans (rfl))).trans ((and_iff_right (by decide)).trans ?_)
  refine (ev_aload_n dX2_copyFrom_41 rfl).trans ?_
  refine (ev_getR dX2_copyFrom_42 f_2_27 rfl).trans ((and_iff_right (by decide)).trans ?_)
  refine (ev_iconst dX2_copyFrom_45 (w := 0) (by decide)).trans ?_
  refine (ev_aload_n dX2_copyFrom_46 rfl).trans ?_
  refine (ev_getR dX2_copyFrom_47 f_2_27 rfl).trans ((and_iff_right (by decide)).trans ?_)
  refine (ev_iconst dX2_copyFrom_50 (w := 0) (by decide)).trans ?_
  refine (ev_bipush dX2_copyFrom_51 (w := 120) (by decide)).trans ?_
  refine (ev_acpy2 dX2_copyFrom_53 c_2_69 (by decide) (by decide) (Nat.le_of_ble_eq_true rfl) (f := (μ1 r1 14 o1)) (g := (μ1 r0 14 o0)) ((mrgetR_a (by decide)).trans ((mrgetR_a (by decide)).trans (rfl))) ((mrgetR_a (by decide)).trans ((mrgetR_a (by decide)).trans (rfl)))).trans ((and_iff_right (by decide)).trans ?_)
  refine (ev_aload_n dX2_copyFrom_56 rfl).trans ?_
  refine (ev_getR dX2_copyFrom_57 f_2_30 rfl).trans ((and_iff_right (by decide)).trans ?_)
  refine (ev_iconst dX2_copyFrom_60 (w := 0) (by decide)).trans ?_
  refine (ev_aload_n dX2_copyFrom_61 rfl).trans ?_
  refine (ev_getR dX2_copyFrom_62 f_2_30 rfl).trans ((and_iff_right (by decide)).trans ?_)
  refine (ev_iconst dX2_copyFrom_65 (w := 0) (by decide)).trans ?_
  refine (ev_bipush dX2_copyFrom_66 (w := 120) (by decide)).trans ?_
  refine (ev_acpy2 dX2_copyFrom_68 c_2_69 (by decide) (by decide) (Nat.le_of_ble_eq_true rfl) (f := (μ1 r1 15 o1)) (g := (μ1 r0 15 o0)) ((mrgetR_a (by decide)).trans ((mrgetR_a (by decide)).trans ((mrgetR_a (by decide)).trans (rfl)))) ((mrgetR_a (by decide)).trans ((mrgetR_a (by decide)).trans ((mrgetR_a (by decide)).trans (rfl))))).trans ((and_iff_right (by decide)).trans ?_)
  refine (ev_aload_n dX2_copyFrom_71 rfl).trans ?_
  refine (ev_getR dX2_copyFrom_72 f_2_33 rfl).trans ((and_iff_right (by decide)).trans ?_)
  refine (ev_iconst dX2_copyFrom_75 (w := 0) (by decide)).trans ?_
  refine (ev_aload_n dX2_copyFrom_76 rfl).trans ?_
  refine (ev_getR dX2_copyFrom_77 f_2_33 rfl).trans ((and_iff_right (by decide)).trans ?_)
  refine (ev_iconst dX2_copyFrom_80 (w := 0) (by decide)).trans ?_
  refine (ev_bipush dX2_copyFrom_81 (w := 120) (by decide)).trans ?_
  refine (ev_acpy2 dX2_copyFrom_83 c_2_69 (by decide) (by decide) (Nat.le_of_ble_eq_true rfl) (f := (μ1 r1 16 o1)) (g := (μ1 r0 16 o0)) ((mrgetR_a (by decide)).trans ((mrgetR_a (by decide)).trans ((mrgetR_a (by decide)).trans ((mrgetR_a (by decide)).trans (rfl))))) ((mrgetR_a (by decide)).trans ((mrgetR_a (by decide)).trans ((mrgetR_a (by decide)).trans ((mrgetR_a (by decide)).trans (rfl)))))).trans ((and_iff_right (by decide)).trans ?_)
  refine (ev_aload_n dX2_copyFrom_86 rfl).trans ?_
  refine (ev_getR dX2_copyFrom_87 f_2_36 rfl).trans ((and_iff_right (by decide)).trans ?_)
  refine (ev_iconst dX2_copyFrom_90 (w := 0) (by decide)).trans ?_
  refine (ev_aload_n dX2_copyFrom_91 rfl).trans ?_
  refine (ev_getR dX2_copyFrom_92 f_2_36 rfl).trans ((and_iff_right (by decide)).trans ?_)
  refine (ev_iconst dX2_copyFrom_95 (w := 0) (by decide)).trans ?_
  refine (ev_bipush dX2_copyFrom_96 (w := 120) (by decide)).trans ?_
  refine (ev_acpy2 dX2_copyFrom_98 c_2_69 (by decide) (by decide) (Nat.le_of_ble_eq_true rfl) (f := (μ1 r1 17 o1)) (g := (μ1 r0 17 o0)) ((mrgetR_a (by decide)).trans ((mrgetR_a (by decide)).trans ((mrgetR_a (by decide)).trans ((mrgetR_a (by decide)).trans ((mrgetR_a (by decide)).trans (rfl)))))) ((mrgetR_a (by decide)).trans ((mrgetR_a (by decide)).trans ((mrgetR_a (by decide)).trans ((mrgetR_a (by decide)).trans ((mrgetR_a (by decide)).trans (rfl))))))).trans ((and_iff_right (by decide)).trans ?_)
  refine (ev_aload_n dX2_copyFrom_101 rfl).trans ?_
  refine (ev_getR dX2_copyFrom_102 f_2_39 rfl).trans ((and_iff_right (by decide)).trans ?_)
  refine (ev_iconst dX2_copyFrom_105 (w := 0) (by decide)).trans ?_
  refine (ev_aload_n dX2_copyFrom_106 rfl).trans ?_
  refine (ev_getR dX2_copyFrom_107 f_2_39 rfl).trans ((and_iff_right (by decide)).trans ?_)
  refine (ev_iconst dX2_copyFrom_110 (w := 0) (by decide)).trans ?_
  refine (ev_bipush dX2_copyFrom_111 (w := 120) (by decide)).trans ?_
  refine (ev_acpy2 dX2_copyFrom_113 c_2_69 (by decide) (by decide) (Nat.le_of_ble_eq_true rfl) (f := (μ1 r1 18 o1)) (g := (μ1 r0 18 o0)) ((mrgetR_a (by decide)).trans ((mrgetR_a (by decide)).trans ((mrgetR_a (by decide)).trans ((mrgetR_a (by decide)).trans ((mrgetR_a (by decide)).trans ((mrgetR_a (by decide)).trans (rfl))))))) ((mrgetR_a (by decide)).trans ((mrgetR_a (by decide)).trans ((mrgetR_a (by decide)).trans ((mrgetR_a (by decide)).trans ((mrgetR_a (by decide)).trans ((mrgetR_a (by decide)).trans (rfl)))))))).trans ((and_iff_right (by decide)).trans ?_)
  refine (ev_aload_n dX2_copyFrom_116 rfl).trans ?_
  refine (ev_getR dX2_copyFrom_117 f_2_42 rfl).trans ((and_iff_right (by decide)).trans ?_)
  refine (ev_iconst dX2_copyFrom_120 (w := 0) (by decide)).trans ?_
  refine (ev_aload_n dX2_copyFrom_121 rfl).trans ?_
  refine (ev_getR dX2_copyFrom_122 f_2_42 rfl).trans ((and_iff_right (by decide)).trans ?_)
  refine (ev_iconst dX2_copyFrom_125 (w := 0) (by decide)).trans ?_
  refine (ev_bipush dX2_copyFrom_126 (w := 120) (by decide)).trans ?_
  refine (ev_acpy2 dX2_copyFrom_128 c_2_69 (by decide) (by decide) (Nat.le_of_ble_eq_true rfl) (f := (μ1 r1 19 o1)) (g := (μ1 r0 19 o0)) ((mrgetR_a (by decide)).trans ((mrgetR_a (by decide)).trans ((mrgetR_a (by decide)).trans ((mrgetR_a (by decide)).trans ((mrgetR_a (by decide)).trans ((mrgetR_a (by decide)).trans ((mrgetR_a (by decide)).trans (rfl)))))))) ((mrgetR_a (by decide)).trans ((mrgetR_a (by decide)).trans ((mrgetR_a (by decide)).trans ((mrgetR_a (by decide)).trans ((mrgetR_a (by decide)).trans ((mrgetR_a (by decide)).trans ((mrgetR_a (by decide)).trans (rfl))))))))).trans ((and_iff_right (by decide)).trans ?_)
  refine (ev_aload_n dX2_copyFrom_131 rfl).trans ?_
  refine (ev_aload_n dX2_copyFrom_132 rfl).trans ?_
  refine (ev_getI2 dX2_copyFrom_133 f_2_45 rfl (v := (μ1 r1 8 o1 9)) ((mrget_a (by decide)).trans ((mrget_a (by decide)).trans ((mrget_a (by decide)).trans ((mrget_a (by decide)).trans ((mrget_a (by decide)).trans ((mrget_a (by decide)).trans ((mrget_a (by decide)).trans ((mrget_a (by decide)).trans (rfl)))))))))).trans ((and_iff_right (by decide)).trans ?_)
  refine (ev_put dX2_copyFrom_136 f_2_45 rfl (by decide)).trans ((and_iff_right (by decide)).trans ?_)
  exact ev_return dX2_copyFrom_139 rfl
/-! X3_take -/
theorem B30v9_0 {C : Nat → List AV → Mem → Res → Prop} {μ : Mem} {res : Res} {r0 o0 : Nat} : EvE C 30 0 [some (.inr (r0, 9, o0)), none] [] μ res ↔ ((¬ (μ r0 9 o0 4) = (-1) → vp_in (μ r0 9 o0 4) 120 ∧ vp_in (μ r0 9 o0 4) 120 ∧ vp_in (μ r0 9 o0 4) 120 ∧ ((¬ (μ r0 9 o0 3) = (-1) → vp_in (μ r0 9 o0 3) 120 ∧ EvE C 30 65 [some (.inr (r0, 9, o0)), some (.inl (μ r0 9 o0 4))] [] (mset (mset (mset (mset μ r0 9 o0 4 (μ r0 11 o0 (μ r0 9 o0 4).toNatClampNeg)) r0 10 o0 (μ r0 9 o0 4).toNatClampNeg (μ r0 9 o0 3)) r0 11 o0 (μ r0 9 o0 4).toNatClampNeg (-1)) r0 11 o0 (μ r0 9 o0 3).toNatClampNeg (μ r0 9 o0 4)) res) ∧ (¬ (¬ (μ r0 9 o0 3) = (-1)) → EvE C 30 65 [some (.inr (r0, 9, o0)), some (.inl (μ r0 9 o0 4))] [] (mset (mset (mset (mset μ r0 9 o0 4 (μ r0 11 o0 (μ r0 9 o0 4).toNatClampNeg)) r0 10 o0 (μ r0 9 o0 4).toNatClampNeg (μ r0 9 o0 3)) r0 11 o0 (μ r0 9 o0 4).toNatClampNeg (-1)) r0 9 o0 2 (μ r0 9 o0 4)) res))) ∧ (¬ (¬ (μ r0 9 o0 4) = (-1)) → res = (some (-1), μ))) := by
  refine (ev_aload_n dX3_take_0 rfl).trans ?_
  refine (ev_getI2 dX3_take_1 f_3_18 rfl (v := (μ r0 9 o0 4)) (rfl)).trans ((and_iff_right (by decide)).trans ?_)
  refine (ev_istore_n dX3_take_4 (Nat.le_of_ble_eq_true rfl) rfl).trans ?_
  refine (ev_iload_n dX3_take_5 rfl).trans ?_
  refine (ev_iconst dX3_take_6 (w := (-1)) (by decide)).trans ?_
  refine (ev_icmp dX3_take_7 (t := 12) (by decide)).trans (and_congr (imp_congr Iff.rfl ?_) (imp_congr Iff.rfl ?_))
  · refine (ev_aload_n dX3_take_12 rfl).trans ?_
    refine (ev_aload_n dX3_take_13 rfl).trans ?_
    refine (ev_getR dX3_take_14 f_3_34 rfl).trans ((and_iff_right (by decide)).trans ?_)
    refine (ev_iload_n dX3_take_17 rfl).trans ?_
    refine (ev_iald2 dX3_take_18 (by decide) (v := (μ r0 11 o0 (μ r0 9 o0 4).toNatClampNeg)) (rfl)).trans (and_congr_right fun _ => ?_)
    refine (ev_put dX3_take_19 f_3_18 rfl (by decide)).trans ((and_iff_right (by decide)).trans ?_)
    refine (ev_aload_n dX3_take_22 rfl).trans ?_
    refine (ev_getR dX3_take_23 f_3_30 rfl).trans ((and_iff_right (by decide)).trans ?_)
    refine (ev_iload_n dX3_take_26 rfl).trans ?_
    refine (ev_aload_n dX3_take_27 rfl).trans ?_
    refine (ev_getI2 dX3_take_28 f_3_15 rfl (v := (μ r0 9 o0 3)) ((mget_i (by decide)).trans (rfl))).trans ((and_iff_right (by decide)).trans ?_)
    refine (ev_iast dX3_take_31 (by decide)).trans (and_congr_right fun _ => ?_)
    refine (ev_aload_n dX3_take_32 rfl).trans ?_
    refine (ev_getR dX3_take_33 f_3_34 rfl).trans ((and_iff_right (by decide)).trans ?_)
    refine (ev_iload_n dX3_take_36 rfl).trans ?_
    refine (ev_iconst dX3_take_37 (w := (-1)) (by decide)).trans ?_
    refine (ev_iast dX3_take_38 (by decide)).trans (and_congr_right fun _ => ?_)
    refine (ev_aload_n dX3_take_39 rfl).trans ?_
    refine (ev_getI2 dX3_take_40 f_3_15 rfl (v := (μ r0 9 o0 3)) ((mget_a (by decide)).trans ((mget_a (by decide)).trans ((mget_i (by decide)).trans (rfl))))).trans ((and_iff_right (by decide)).trans ?_)
    refine (ev_iconst dX3_take_43 (w := (-1)) (by decide)).trans ?_
    refine (ev_icmp dX3_take_44 (t := 55) (by decide)).trans (and_congr (imp_congr Iff.rfl ?_) (imp_congr Iff.rfl ?_))
    · refine (ev_aload_n dX3_take_55 rfl).trans ?_
      refine (ev_getR dX3_take_56 f_3_34 rfl).trans ((and_iff_right (by decide)).trans ?_)
      refine (ev_aload_n dX3_take_59 rfl).trans ?_
      refine (ev_getI2 dX3_take_60 f_3_15 rfl (v := (μ r0 9 o0 3)) ((mget_a (by decide)).trans ((mget_a (by decide)).trans ((mget_i (by decide)).trans (rfl))))).trans ((and_iff_right (by decide)).trans ?_)
      refine (ev_iload_n dX3_take_63 rfl).trans ?_
      refine (ev_iast dX3_take_64 (by decide)).trans (and_congr_right fun _ => ?_)
      exact Iff.rfl
    · refine (ev_aload_n dX3_take_47 rfl).trans ?_
      refine (ev_iload_n dX3_take_48 rfl).trans ?_
      refine (ev_put dX3_take_49 f_3_9 rfl (by decide)).trans ((and_iff_right (by decide)).trans ?_)
      refine (ev_goto dX3_take_52 (t := 65) (by decide)).trans ?_
      exact Iff.rfl
  · refine (ev_iconst dX3_take_10 (w := (-1)) (by decide)).trans ?_
    exact ev_ireturn dX3_take_11 rfl
theorem B30v9_65 {C : Nat → List AV → Mem → Res → Prop} {μ : Mem} {res : Res} {x1 : Int32} {r0 o0 : Nat} : EvE C 30 65 [some (.inr (r0, 9, o0)), some (.inl x1)] [] μ res ↔ res = (some x1, (mset (mset μ r0 9 o0 3 x1) r0 9 o0 5 ((μ r0 9 o0 5) + 1))) := by
  refine (ev_aload_n dX3_take_65 rfl).trans ?_
  refine (ev_iload_n dX3_take_66 rfl).trans ?_
  refine (ev_put dX3_take_67 f_3_15 rfl (by decide)).trans ((and_iff_right (by decide)).trans ?_)
  refine (ev_aload_n dX3_take_70 rfl).trans ?_
  refine (ev_dup dX3_take_71).trans ?_
  refine (ev_getI2 dX3_take_72 f_3_21 rfl (v := (μ r0 9 o0 5)) ((mget_i (by decide)).trans (rfl))).trans ((and_iff_right (by decide)).trans ?_)
  refine (ev_iconst dX3_take_75 (w := 1) (by decide)).trans ?_
  refine (ev_iadd dX3_take_76).trans ?_
  refine (ev_put dX3_take_77 f_3_21 rfl (by decide)).trans ((and_iff_right (by decide)).trans ?_)
  refine (ev_iload_n dX3_take_80 rfl).trans ?_
  exact ev_ireturn dX3_take_81 rfl
theorem B30v21_0 {C : Nat → List AV → Mem → Res → Prop} {μ : Mem} {res : Res} {r0 o0 : Nat} : EvE C 30 0 [some (.inr (r0, 21, o0)), none] [] μ res ↔ ((¬ (μ r0 21 o0 4) = (-1) → vp_in (μ r0 21 o0 4) 100 ∧ vp_in (μ r0 21 o0 4) 100 ∧ vp_in (μ r0 21 o0 4) 100 ∧ ((¬ (μ r0 21 o0 3) = (-1) → vp_in (μ r0 21 o0 3) 100 ∧ EvE C 30 65 [some (.inr (r0, 21, o0)), some (.inl (μ r0 21 o0 4))] [] (mset (mset (mset (mset μ r0 21 o0 4 (μ r0 23 o0 (μ r0 21 o0 4).toNatClampNeg)) r0 22 o0 (μ r0 21 o0 4).toNatClampNeg (μ r0 21 o0 3)) r0 23 o0 (μ r0 21 o0 4).toNatClampNeg (-1)) r0 23 o0 (μ r0 21 o0 3).toNatClampNeg (μ r0 21 o0 4)) res) ∧ (¬ (¬ (μ r0 21 o0 3) = (-1)) → EvE C 30 65 [some (.inr (r0, 21, o0)), some (.inl (μ r0 21 o0 4))] [] (mset (mset (mset (mset μ r0 21 o0 4 (μ r0 23 o0 (μ r0 21 o0 4).toNatClampNeg)) r0 22 o0 (μ r0 21 o0 4).toNatClampNeg (μ r0 21 o0 3)) r0 23 o0 (μ r0 21 o0 4).toNatClampNeg (-1)) r0 21 o0 2 (μ r0 21 o0 4)) res))) ∧ (¬ (¬ (μ r0 21 o0 4) = (-1)) → res = (some (-1), μ))) := by
  refine (ev_aload_n dX3_take_0 rfl).trans ?_
  refine (ev_getI2 dX3_take_1 f_3_18 rfl (v := (μ r0 21 o0 4)) (rfl)).trans ((and_iff_right (by decide)).trans ?_)
  refine (ev_istore_n dX3_take_4 (Nat.le_of_ble_eq_true rfl) rfl).trans ?_
  refine (ev_iload_n dX3_take_5 rfl).trans ?_
  refine (ev_iconst dX3_take_6 (w := (-1)) (by decide)).trans ?_
  refine (ev_icmp dX3_take_7 (t := 12) (by decide)).trans (and_congr (imp_congr Iff.rfl ?_) (imp_congr Iff.rfl ?_))
  · refine (ev_aload_n dX3_take_12 rfl).trans ?_
    refine (ev_aload_n dX3_take_13 rfl).trans ?_
    refine (ev_getR dX3_take_14 f_3_34 rfl).trans ((and_iff_right (by decide)).trans ?_)
    refine (ev_iload_n dX3_take_17 rfl).trans ?_
    refine (ev_iald2 dX3_take_18 (by decide) (v := (μ r0 23 o0 (μ r0 21 o0 4).toNatClampNeg)) (rfl)).trans (and_congr_right fun _ => ?_)
    refine (ev_put dX3_take_19 f_3_18 rfl (by decide)).trans ((and_iff_right (by decide)).trans ?_)
    refine (ev_aload_n dX3_take_22 rfl).trans ?_
    refine (ev_getR dX3_take_23 f_3_30 rfl).trans ((and_iff_right (by decide)).trans ?_)
    refine (ev_iload_n dX3_take_26 rfl).trans ?_
    refine (ev_aload_n dX3_take_27 rfl).trans ?_
    refine (ev_getI2 dX3_take_28 f_3_15 rfl (v := (μ r0 21 o0 3)) ((mget_i (by decide)).trans (rfl))).trans ((and_iff_right (by decide)).trans ?_)
    refine (ev_iast dX3_take_31 (by decide)).trans (and_congr_right fun _ => ?_)
    refine (ev_aload_n dX3_take_32 rfl).trans ?_
    refine (ev_getR dX3_take_33 f_3_34 rfl).trans ((and_iff_right (by decide)).trans ?_)
    refine (ev_iload_n dX3_take_36 rfl).trans ?_
    refine (ev_iconst dX3_take_37 (w := (-1)) (by decide)).trans ?_
    refine (ev_iast dX3_take_38 (by decide)).trans (and_congr_right fun _ => ?_)
    refine (ev_aload_n dX3_take_39 rfl).trans ?_
    refine (ev_getI2 dX3_take_40 f_3_15 rfl (v := (μ r0 21 o0 3)) ((mget_a (by decide)).trans ((mget_a (by decide)).trans ((mget_i (by decide)).trans (rfl))))).trans ((and_iff_right (by decide)).trans ?_)
    refine (ev_iconst dX3_take_43 (w := (-1)) (by decide)).trans ?_
    refine (ev_icmp dX3_take_44 (t := 55) (by decide)).trans (and_congr (imp_congr Iff.rfl ?_) (imp_congr Iff.rfl ?_))
    · refine (ev_aload_n dX3_take_55 rfl).trans ?_
      refine (ev_getR dX3_take_56 f_3_34 rfl).trans ((and_iff_right (by decide)).trans ?_)
      refine (ev_aload_n dX3_take_59 rfl).trans ?_
      refine (ev_getI2 dX3_take_60 f_3_15 rfl (v := (μ r0 21 o0 3)) ((mget_a (by decide)).trans ((mget_a (by decide)).trans ((mget_i (by decide)).trans (rfl))))).trans ((and_iff_right (by decide)).trans ?_)
      refine (ev_iload_n dX3_take_63 rfl).trans ?_
      refine (ev_iast dX3_take_64 (by decide)).trans (and_congr_right fun _ => ?_)
      exact Iff.rfl
    · refine (ev_aload_n dX3_take_47 rfl).trans ?_
      refine (ev_iload_n dX3_take_48 rfl).trans ?_
      refine (ev_put dX3_take_49 f_3_9 rfl (by decide)).trans ((and_iff_right (by decide)).trans ?_)
      refine (ev_goto dX3_take_52 (t := 65) (by decide)).trans ?_
      exact Iff.rfl
  · refine (ev_iconst dX3_take_10 (w := (-1)) (by decide)).trans ?_
    exact ev_ireturn dX3_take_11 rfl
theorem B30v21_65 {C : Nat → List AV → Mem → Res → Prop} {μ : Mem} {res : Res} {x1 : Int32} {r0 o0 : Nat} : EvE C 30 65 [some (.inr (r0, 21, o0)), some (.inl x1)] [] μ res ↔ res = (some x1, (mset (mset μ r0 21 o0 3 x1) r0 21 o0 5 ((μ r0 21 o0 5) + 1))) := by
  refine (ev_aload_n dX3_take_65 rfl).trans ?_
  refine (ev_iload_n dX3_take_66 rfl).trans ?_
  refine (ev_put dX3_take_67 f_3_15 rfl (by decide)).trans ((and_iff_right (by decide)).trans ?_)
  refine (ev_aload_n dX3_take_70 rfl).trans ?_
  refine (ev_dup dX3_take_71).trans ?_
  refine (ev_getI2 dX3_take_72 f_3_21 rfl (v := (μ r0 21 o0 5)) ((mget_i (by decide)).trans (rfl))).trans ((and_iff_right (by decide)).trans ?_)
  refine (ev_iconst dX3_take_75 (w := 1) (by decide)).trans ?_
  refine (ev_iadd dX3_take_76).trans ?_
  refine (ev_put dX3_take_77 f_3_21 rfl (by decide)).trans ((and_iff_right (by decide)).trans ?_)
  refine (ev_iload_n dX3_take_80 rfl).trans ?_
  exact ev_ireturn dX3_take_81 rfl
/-! X3_giveBack -/
theorem B31v9_0 {C : Nat → List AV → Mem → Res → Prop} {μ : Mem} {res : Res} {x1 : Int32} {r0 o0 : Nat} : EvE C 31 0 [some (.inr (r0, 9, o0)), some (.inl x1), none, none] [] μ res ↔ ((x1 < 0 → EvE C 31 13 [some (.inr (r0, 9, o0)), some (.inl x1), none, none] [] μ res) ∧ (¬ (x1 < 0) → ((x1 < (nI 120) → vp_in x1 120 ∧ vp_in x1 120 ∧ ((¬ (μ r0 10 o0 x1.toNatClampNeg) = (-1) → vp_in (μ r0 10 o0 x1.toNatClampNeg) 120 ∧ EvE C 31 48 [some (.inr (r0, 9, o0)), some (.inl x1), some (.inl (μ r0 10 o0 x1.toNatClampNeg)), some (.inl (μ r0 11 o0 x1.toNatClampNeg))] [] (mset μ r0 11 o0 (μ r0 10 o0 x1.toNatClampNeg).toNatClampNeg (μ r0 11 o0 x1.toNatClampNeg)) res) ∧ (¬ (¬ (μ r0 10 o0 x1.toNatClampNeg) = (-1)) → EvE C 31 48 [some (.inr (r0, 9, o0)), some (.inl x1), some (.inl (μ r0 10 o0 x1.toNatClampNeg)), some (.inl (μ r0 11 o0 x1.toNatClampNeg))] [] (mset μ r0 9 o0 2 (μ r0 11 o0 x1.toNatClampNeg)) res))) ∧ (¬ (x1 < (nI 120)) → EvE C 31 13 [some (.inr (r0, 9, o0)), some (.inl x1), none, none] [] μ res)))) := by
  refine (ev_iload_n dX3_giveBack_0 rfl).trans ?_
  refine (ev_ifc dX3_giveBack_1 (t := 13) (by decide)).trans (and_congr (imp_congr Iff.rfl ?_) (imp_congr Iff.rfl ?_))
  · exact Iff.rfl
  · refine (ev_iload_n dX3_giveBack_4 rfl).trans ?_
    refine (ev_aload_n dX3_giveBack_5 rfl).trans ?_
    refine (ev_getR dX3_giveBack_6 f_3_30 rfl).trans ((and_iff_right (by decide)).trans ?_)
    refine (ev_alen dX3_giveBack_9 (by decide)).trans ?_
    refine (ev_icmp dX3_giveBack_10 (t := 14) (by decide)).trans (and_congr (imp_congr Iff.rfl ?_) (imp_congr Iff.rfl ?_))
    · refine (ev_aload_n dX3_giveBack_14 rfl).trans ?_
      refine (ev_getR dX3_giveBack_15 f_3_30 rfl).trans ((and_iff_right (by decide)).trans ?_)
      refine (ev_iload_n dX3_giveBack_18 rfl).trans ?_
      refine (ev_iald2 dX3_giveBack_19 (by decide) (v := (μ r0 10 o0 x1.toNatClampNeg)) (rfl)).trans (and_congr_right fun _ => ?_)
      refine (ev_istore_n dX3_giveBack_20 (Nat.le_of_ble_eq_true rfl) rfl).trans ?_
      refine (ev_aload_n dX3_giveBack_21 rfl).trans ?_
      refine (ev_getR dX3_giveBack_22 f_3_34 rfl).trans ((and_iff_right (by decide)).trans ?_)
      refine (ev_iload_n dX3_giveBack_25 rfl).trans ?_
      refine (ev_iald2 dX3_giveBack_26 (by decide) (v := (μ r0 11 o0 x1.toNatClampNeg)) (rfl)).trans (and_congr_right fun _ => ?_)
      refine (ev_istore_n dX3_giveBack_27 (Nat.le_of_ble_eq_true rfl) rfl).trans ?_
      refine (ev_iload_n dX3_giveBack_28 rfl).trans ?_
      refine (ev_iconst dX3_giveBack_29 (w := (-1)) (by decide)).trans ?_
      refine (ev_icmp dX3_giveBack_30 (t := 41) (by decide)).trans (and_congr (imp_congr Iff.rfl ?_) (imp_congr Iff.rfl ?_))
      · refine (ev_aload_n dX3_giveBack_41 rfl).trans ?_
        refine (ev_getR dX3_giveBack_42 f_3_34 rfl).trans ((and_iff_right (by decide)).trans ?_)
        refine (ev_iload_n dX3_giveBack_45 rfl).trans ?_
        refine (ev_iload_n dX3_giveBack_46 rfl).trans ?_
        refine (ev_iast dX3_giveBack_47 (by decide)).trans (and_congr_right fun _ => ?_)
        exact Iff.rfl
      · refine (ev_aload_n dX3_giveBack_33 rfl).trans ?_
        refine (ev_iload_n dX3_giveBack_34 rfl).trans ?_
        refine (ev_put dX3_giveBack_35 f_3_9 rfl (by decide)).trans ((and_iff_right (by decide)).trans ?_)
        refine (ev_goto dX3_giveBack_38 (t := 48) (by decide)).trans ?_
        exact Iff.rfl
    · exact Iff.rfl
theorem B31v9_13 {C : Nat → List AV → Mem → Res → Prop} {μ : Mem} {res : Res} {x1 : Int32} {r0 o0 : Nat} {u2 u3 : Option AV} : EvE C 31 13 [some (.inr (r0, 9, o0)), some (.inl x1), u2, u3] [] μ res ↔ res = (none, μ) := by
  exact ev_return dX3_giveBack_13 rfl
theorem B31v9_48 {C : Nat → List AV → Mem → Res → Prop} {μ : Mem} {res : Res} {x1 x2 x3 : Int32} {r0 o0 : Nat} : EvE C 31 48 [some (.inr (r0, 9, o0)), some (.inl x1), some (.inl x2), some (.inl x3)] [] μ res ↔ ((¬ x3 = (-1) → vp_in x3 120 ∧ EvE C 31 68 [some (.inr (r0, 9, o0)), some (.inl x1), some (.inl x2), some (.inl x3)] [] (mset μ r0 10 o0 x3.toNatClampNeg x2) res) ∧ (¬ (¬ x3 = (-1)) → EvE C 31 68 [some (.inr (r0, 9, o0)), some (.inl x1), some (.inl x2), some (.inl x3)] [] (mset μ r0 9 o0 3 x2) res)) := by
  refine (ev_iload_n dX3_giveBack_48 rfl).trans ?_
  refine (ev_iconst dX3_giveBack_49 (w := (-1)) (by decide)).trans ?_
  refine (ev_icmp dX3_giveBack_50 (t := 61) (by decide)).trans (and_congr (imp_congr Iff.rfl ?_) (imp_congr Iff.rfl ?_))
  · refine (ev_aload_n dX3_giveBack_61 rfl).trans ?_
    refine (ev_getR dX3_giveBack_62 f_3_30 rfl).trans ((and_iff_right (by decide)).trans ?_)
    refine (ev_iload_n dX3_giveBack_65 rfl).trans ?_
    refine (ev_iload_n dX3_giveBack_66 rfl).trans ?_
    refine (ev_iast dX3_giveBack_67 (by decide)).trans (and_congr_right fun _ => ?_)
    exact Iff.rfl
  · refine (ev_aload_n dX3_giveBack_53 rfl).trans ?_
    refine (ev_iload_n dX3_giveBack_54 rfl).trans ?_
    refine (ev_put dX3_giveBack_55 f_3_15 rfl (by decide)).trans ((and_iff_right (by decide)).trans ?_)
    refine (ev_goto dX3_giveBack_58 (t := 68) (by decide)).trans ?_
    exact Iff.rfl
theorem B31v9_68 {C : Nat → List AV → Mem → Res → Prop} {μ : Mem} {res : Res} {x1 x2 x3 : Int32} {r0 o0 : Nat} : EvE C 31 68 [some (.inr (r0, 9, o0)), some (.inl x1), some (.inl x2), some (.inl x3)] [] μ res ↔ vp_in x1 120 ∧ res = (none, (mset (mset (mset μ r0 11 o0 x1.toNatClampNeg (μ r0 9 o0 4)) r0 9 o0 4 x1) r0 9 o0 5 ((μ r0 9 o0 5) - 1))) := by
  refine (ev_aload_n dX3_giveBack_68 rfl).trans ?_
  refine (ev_getR dX3_giveBack_69 f_3_34 rfl).trans ((and_iff_right (by decide)).trans ?_)
  refine (ev_iload_n dX3_giveBack_72 rfl).trans ?_
  refine (ev_aload_n dX3_giveBack_73 rfl).trans ?_
  refine (ev_getI2 dX3_giveBack_74 f_3_18 rfl (v := (μ r0 9 o0 4)) (rfl)).trans ((and_iff_right (by decide)).trans ?_)
  refine (ev_iast dX3_giveBack_77 (by decide)).trans (and_congr_right fun _ => ?_)
  refine (ev_aload_n dX3_giveBack_78 rfl).trans ?_
  refine (ev_iload_n dX3_giveBack_79 rfl).trans ?_
  refine (ev_put dX3_giveBack_80 f_3_18 rfl (by decide)).trans ((and_iff_right (by decide)).trans ?_)
  refine (ev_aload_n dX3_giveBack_83 rfl).trans ?_
  refine (ev_dup dX3_giveBack_84).trans ?_
  refine (ev_getI2 dX3_giveBack_85 f_3_21 rfl (v := (μ r0 9 o0 5)) ((mget_i (by decide)).trans ((mget_a (by decide)).trans (rfl)))).trans ((and_iff_right (by decide)).trans ?_)
  refine (ev_iconst dX3_giveBack_88 (w := 1) (by decide)).trans ?_
  refine (ev_isub dX3_giveBack_89).trans ?_
  refine (ev_put dX3_giveBack_90 f_3_21 rfl (by decide)).trans ((and_iff_right (by decide)).trans ?_)
  exact ev_return dX3_giveBack_93 rfl
theorem B31v21_0 {C : Nat → List AV → Mem → Res → Prop} {μ : Mem} {res : Res} {x1 : Int32} {r0 o0 : Nat} : EvE C 31 0 [some (.inr (r0, 21, o0)), some (.inl x1), none, none] [] μ res ↔ ((x1 < 0 → EvE C 31 13 [some (.inr (r0, 21, o0)), some (.inl x1), none, none] [] μ res) ∧ (¬ (x1 < 0) → ((x1 < (nI 100) → vp_in x1 100 ∧ vp_in x1 100 ∧ ((¬ (μ r0 22 o0 x1.toNatClampNeg) = (-1) → vp_in (μ r0 22 o0 x1.toNatClampNeg) 100 ∧ EvE C 31 48 [some (.inr (r0, 21, o0)), some (.inl x1), some (.inl (μ r0 22 o0 x1.toNatClampNeg)), some (.inl (μ r0 23 o0 x1.toNatClampNeg))] [] (mset μ r0 23 o0 (μ r0 22 o0 x1.toNatClampNeg).toNatClampNeg (μ r0 23 o0 x1.toNatClampNeg)) res) ∧ (¬ (¬ (μ r0 22 o0 x1.toNatClampNeg) = (-1)) → EvE C 31 48 [some (.inr (r0, 21, o0)), some (.inl x1), some (.inl (μ r0 22 o0 x1.toNatClampNeg)), some (.inl (μ r0 23 o0 x1.toNatClampNeg))] [] (mset μ r0 21 o0 2 (μ r0 23 o0 x1.toNatClampNeg)) res))) ∧ (¬ (x1 < (nI 100)) → EvE C 31 13 [some (.inr (r0, 21, o0)), some (.inl x1), none, none] [] μ res)))) := by
  refine (ev_iload_n dX3_giveBack_0 rfl).trans ?_
  refine (ev_ifc dX3_giveBack_1 (t := 13) (by decide)).trans (and_congr (imp_congr Iff.rfl ?_) (imp_congr Iff.rfl ?_))
  · exact Iff.rfl
  · refine (ev_iload_n dX3_giveBack_4 rfl).trans ?_
    refine (ev_aload_n dX3_giveBack_5 rfl).trans ?_
    refine (ev_getR dX3_giveBack_6 f_3_30 rfl).trans ((and_iff_right (by decide)).trans ?_)
    refine (ev_alen dX3_giveBack_9 (by decide)).trans ?_
    refine (ev_icmp dX3_giveBack_10 (t := 14) (by decide)).trans (and_congr (imp_congr Iff.rfl ?_) (imp_congr Iff.rfl ?_))
    · refine (ev_aload_n dX3_giveBack_14 rfl).trans ?_
      refine (ev_getR dX3_giveBack_15 f_3_30 rfl).trans ((and_iff_right (by decide)).trans ?_)
      refine (ev_iload_n dX3_giveBack_18 rfl).trans ?_
      refine (ev_iald2 dX3_giveBack_19 (by decide) (v := (μ r0 22 o0 x1.toNatClampNeg)) (rfl)).trans (and_congr_right fun _ => ?_)
      refine (ev_istore_n dX3_giveBack_20 (Nat.le_of_ble_eq_true rfl) rfl).trans ?_
      refine (ev_aload_n dX3_giveBack_21 rfl).trans ?_
      refine (ev_getR dX3_giveBack_22 f_3_34 rfl).trans ((and_iff_right (by decide)).trans ?_)
      refine (ev_iload_n dX3_giveBack_25 rfl).trans ?_
      refine (ev_iald2 dX3_giveBack_26 (by decide) (v := (μ r0 23 o0 x1.toNatClampNeg)) (rfl)).trans (and_congr_right fun _ => ?_)
      refine (ev_istore_n dX3_giveBack_27 (Nat.le_of_ble_eq_true rfl) rfl).trans ?_
      refine (ev_iload_n dX3_giveBack_28 rfl).trans ?_
      refine (ev_iconst dX3_giveBack_29 (w := (-1)) (by decide)).trans ?_
      refine (ev_icmp dX3_giveBack_30 (t := 41) (by decide)).trans (and_congr (imp_congr Iff.rfl ?_) (imp_congr Iff.rfl ?_))
      · refine (ev_aload_n dX3_giveBack_41 rfl).trans ?_
        refine (ev_getR dX3_giveBack_42 f_3_34 rfl).trans ((and_iff_right (by decide)).trans ?_)
        refine (ev_iload_n dX3_giveBack_45 rfl).trans ?_
        refine (ev_iload_n dX3_giveBack_46 rfl).trans ?_
        refine (ev_iast dX3_giveBack_47 (by decide)).trans (and_congr_right fun _ => ?_)
        exact Iff.rfl
      · refine (ev_aload_n dX3_giveBack_33 rfl).trans ?_
        refine (ev_iload_n dX3_giveBack_34 rfl).trans ?_
        refine (ev_put dX3_giveBack_35 f_3_9 rfl (by decide)).trans ((and_iff_right (by decide)).trans ?_)
        refine (ev_goto dX3_giveBack_38 (t := 48) (by decide)).trans ?_
        exact Iff.rfl
    · exact Iff.rfl
theorem B31v21_13 {C : Nat → List AV → Mem → Res → Prop} {μ : Mem} {res : Res} {x1 : Int32} {r0 o0 : Nat} {u2 u3 : Option AV} : EvE C 31 13 [some (.inr (r0, 21, o0)), some (.inl x1), u2, u3] [] μ res ↔ res = (none, μ) := by
  exact ev_return dX3_giveBack_13 rfl
theorem B31v21_48 {C : Nat → List AV → Mem → Res → Prop} {μ : Mem} {res : Res} {x1 x2 x3 : Int32} {r0 o0 : Nat} : EvE C 31 48 [some (.inr (r0, 21, o0)), some (.inl x1), some (.inl x2), some (.inl x3)] [] μ res ↔ ((¬ x3 = (-1) → vp_in x3 100 ∧ EvE C 31 68 [some (.inr (r0, 21, o0)), some (.inl x1), some (.inl x2), some (.inl x3)] [] (mset μ r0 22 o0 x3.toNatClampNeg x2) res) ∧ (¬ (¬ x3 = (-1)) → EvE C 31 68 [some (.inr (r0, 21, o0)), some (.inl x1), some (.inl x2), some (.inl x3)] [] (mset μ r0 21 o0 3 x2) res)) := by
  refine (ev_iload_n dX3_giveBack_48 rfl).trans ?_
  refine (ev_iconst dX3_giveBack_49 (w := (-1)) (by decide)).trans ?_
  refine (ev_icmp dX3_giveBack_50 (t := 61) (by decide)).trans (and_congr (imp_congr Iff.rfl ?_) (imp_congr Iff.rfl ?_))
  · refine (ev_aload_n dX3_giveBack_61 rfl).trans ?_
    refine (ev_getR dX3_giveBack_62 f_3_30 rfl).trans ((and_iff_right (by decide)).trans ?_)
    refine (ev_iload_n dX3_giveBack_65 rfl).trans ?_
    refine (ev_iload_n dX3_giveBack_66 rfl).trans ?_
    refine (ev_iast dX3_giveBack_67 (by decide)).trans (and_congr_right fun _ => ?_)
    exact Iff.rfl
  · refine (ev_aload_n dX3_giveBack_53 rfl).trans ?_
    refine (ev_iload_n dX3_giveBack_54 rfl).trans ?_
    refine (ev_put dX3_giveBack_55 f_3_15 rfl (by decide)).trans ((and_iff_right (by decide)).trans ?_)
    refine (ev_goto dX3_giveBack_58 (t := 68) (by decide)).trans ?_
    exact Iff.rfl
theorem B31v21_68 {C : Nat → List AV → Mem → Res → Prop} {μ : Mem} {res : Res} {x1 x2 x3 : Int32} {r0 o0 : Nat} : EvE C 31 68 [some (.inr (r0, 21, o0)), some (.inl x1), some (.inl x2), some (.inl x3)] [] μ res ↔ vp_in x1 100 ∧ res = (none, (mset (mset (mset μ r0 23 o0 x1.toNatClampNeg (μ r0 21 o0 4)) r0 21 o0 4 x1) r0 21 o0 5 ((μ r0 21 o0 5) - 1))) := by
  refine (ev_aload_n dX3_giveBack_68 rfl).trans ?_
  refine (ev_getR dX3_giveBack_69 f_3_34 rfl).trans ((and_iff_right (by decide)).trans ?_)
  refine (ev_iload_n dX3_giveBack_72 rfl).trans ?_
  refine (ev_aload_n dX3_giveBack_73 rfl).trans ?_
  refine (ev_getI2 dX3_giveBack_74 f_3_18 rfl (v := (μ r0 21 o0 4)) (rfl)).trans ((and_iff_right (by decide)).trans ?_)
  refine (ev_iast dX3_giveBack_77 (by decide)).trans (and_congr_right fun _ => ?_)
  refine (ev_aload_n dX3_giveBack_78 rfl).trans ?_
  refine (ev_iload_n dX3_giveBack_79 rfl).trans ?_
  refine (ev_put dX3_giveBack_80 f_3_18 rfl (by decide)).trans ((and_iff_right (by decide)).trans ?_)
  refine (ev_aload_n dX3_giveBack_83 rfl).trans ?_
  refine (ev_dup dX3_giveBack_84).trans ?_
  refine (ev_getI2 dX3_giveBack_85 f_3_21 rfl (v := (μ r0 21 o0 5)) ((mget_i (by decide)).trans ((mget_a (by decide)).trans (rfl)))).trans ((and_iff_right (by decide)).trans ?_)
  refine (ev_iconst dX3_giveBack_88 (w := 1) (by decide)).trans ?_
  refine (ev_isub dX3_giveBack_89).trans ?_
  refine (ev_put dX3_giveBack_90 f_3_21 rfl (by decide)).trans ((and_iff_right (by decide)).trans ?_)
  exact ev_return dX3_giveBack_93 rfl
/-! X3_placeAt -/
theorem B32v9_0 {C : Nat → List AV → Mem → Res → Prop} {μ : Mem} {res : Res} {x1 : Int32} {r0 o0 : Nat} : EvE C 32 0 [some (.inr (r0, 9, o0)), some (.inl x1), none, none] [] μ res ↔ ((x1 < 0 → EvE C 32 12 [some (.inr (r0, 9, o0)), some (.inl x1), none, none] [] μ res) ∧ (¬ (x1 < 0) → ((x1 < (μ r0 9 o0 5) → EvE C 32 21 [some (.inr (r0, 9, o0)), some (.inl x1), some (.inl (μ r0 9 o0 2)), some (.inl 0)] [] μ res) ∧ (¬ (x1 < (μ r0 9 o0 5)) → EvE C 32 12 [some (.inr (r0, 9, o0)), some (.inl x1), none, none] [] μ res)))) := by
  refine (ev_iload_n dX3_placeAt_0 rfl).trans ?_
  refine (ev_ifc dX3_placeAt_1 (t := 12) (by decide)).trans (and_congr (imp_congr Iff.rfl ?_) (imp_congr Iff.rfl ?_))
  · exact Iff.rfl
  · refine (ev_iload_n dX3_placeAt_4 rfl).trans ?_
    refine (ev_aload_n dX3_placeAt_5 rfl).trans ?_
    refine (ev_getI2 dX3_placeAt_6 f_3_21 rfl (v := (μ r0 9 o0 5)) (rfl)).trans ((and_iff_right (by decide)).trans ?_)
    refine (ev_icmp dX3_placeAt_9 (t := 14) (by decide)).trans (and_congr (imp_congr Iff.rfl ?_) (imp_congr Iff.rfl ?_))
    · refine (ev_aload_n dX3_placeAt_14 rfl).trans ?_
      refine (ev_getI2 dX3_placeAt_15 f_3_9 rfl (v := (μ r0 9 o0 2)) (rfl)).trans ((and_iff_right (by decide)).trans ?_)
      refine (ev_istore_n dX3_placeAt_18 (Nat.le_of_ble_eq_true rfl) rfl).trans ?_
      refine (ev_iconst dX3_placeAt_19 (w := 0) (by decide)).trans ?_
      refine (ev_istore_n dX3_placeAt_20 (Nat.le_of_ble_eq_true rfl) rfl).trans ?_
      exact Iff.rfl
    · exact Iff.rfl
theorem B32v9_12 {C : Nat → List AV → Mem → Res → Prop} {μ : Mem} {res : Res} {x1 : Int32} {r0 o0 : Nat} {u2 u3 : Option AV} : EvE C 32 12 [some (.inr (r0, 9, o0)), some (.inl x1), u2, u3] [] μ res ↔ res = (some (-1), μ) := by
  refine (ev_iconst dX3_placeAt_12 (w := (-1)) (by decide)).trans ?_
  exact ev_ireturn dX3_placeAt_13 rfl
theorem B32v9_21 {C : Nat → List AV → Mem → Res → Prop} {μ : Mem} {res : Res} {x1 x2 x3 : Int32} {r0 o0 : Nat} : EvE C 32 21 [some (.inr (r0, 9, o0)), some (.inl x1), some (.inl x2), some (.inl x3)] [] μ res ↔ ((x1 ≤ x3 → EvE C 32 44 [some (.inr (r0, 9, o0)), some (.inl x1), some (.inl x2), some (.inl x3)] [] μ res) ∧ (¬ (x1 ≤ x3) → ((x2 = (-1) → EvE C 32 44 [some (.inr (r0, 9, o0)), some (.inl x1), some (.inl x2), some (.inl x3)] [] μ res) ∧ (¬ (x2 = (-1)) → vp_in x2 120 ∧ EvE C 32 21 [some (.inr (r0, 9, o0)), some (.inl x1), some (.inl (μ r0 11 o0 x2.toNatClampNeg)), some (.inl (x3 + 1))] [] μ res)))) := by
  refine (ev_iload_n dX3_placeAt_21 rfl).trans ?_
  refine (ev_iload_n dX3_placeAt_22 rfl).trans ?_
  refine (ev_icmp dX3_placeAt_23 (t := 44) (by decide)).trans (and_congr (imp_congr Iff.rfl ?_) (imp_congr Iff.rfl ?_))
  · exact Iff.rfl
  · refine (ev_iload_n dX3_placeAt_26 rfl).trans ?_
    refine (ev_iconst dX3_placeAt_27 (w := (-1)) (by decide)).trans ?_
    refine (ev_icmp dX3_placeAt_28 (t := 44) (by decide)).trans (and_congr (imp_congr Iff.rfl ?_) (imp_congr Iff.rfl ?_))
    · exact Iff.rfl
    · refine (ev_aload_n dX3_placeAt_31 rfl).trans ?_
      refine (ev_getR dX3_placeAt_32 f_3_34 rfl).trans ((and_iff_right (by decide)).trans ?_)
      refine (ev_iload_n dX3_placeAt_35 rfl).trans ?_
      refine (ev_iald2 dX3_placeAt_36 (by decide) (v := (μ r0 11 o0 x2.toNatClampNeg)) (rfl)).trans (and_congr_right fun _ => ?_)
      refine (ev_istore_n dX3_placeAt_37 (Nat.le_of_ble_eq_true rfl) rfl).trans ?_
      refine (ev_iinc dX3_placeAt_38 rfl (w := 1) (by decide) rfl).trans ?_
      refine (ev_goto dX3_placeAt_41 (t := 21) (by decide)).trans ?_
      exact Iff.rfl
theorem B32v9_44 {C : Nat → List AV → Mem → Res → Prop} {μ : Mem} {res : Res} {x1 x2 x3 : Int32} {r0 o0 : Nat} : EvE C 32 44 [some (.inr (r0, 9, o0)), some (.inl x1), some (.inl x2), some (.inl x3)] [] μ res ↔ res = (some x2, μ) := by
  refine (ev_iload_n dX3_placeAt_44 rfl).trans ?_
  exact ev_ireturn dX3_placeAt_45 rfl
theorem B32v21_0 {C : Nat → List AV → Mem → Res → Prop} {μ : Mem} {res : Res} {x1 : Int32} {r0 o0 : Nat} : EvE C 32 0 [some (.inr (r0, 21, o0)), some (.inl x1), none, none] [] μ res ↔ ((x1 < 0 → EvE C 32 12 [some (.inr (r0, 21, o0)), some (.inl x1), none, none] [] μ res) ∧ (¬ (x1 < 0) → ((x1 < (μ r0 21 o0 5) → EvE C 32 21 [some (.inr (r0, 21, o0)), some (.inl x1), some (.inl (μ r0 21 o0 2)), some (.inl 0)] [] μ res) ∧ (¬ (x1 < (μ r0 21 o0 5)) → EvE C 32 12 [some (.inr (r0, 21, o0)), some (.inl x1), none, none] [] μ res)))) := by
  refine (ev_iload_n dX3_placeAt_0 rfl).trans ?_
  refine (ev_ifc dX3_placeAt_1 (t := 12) (by decide)).trans (and_congr (imp_congr Iff.rfl ?_) (imp_congr Iff.rfl ?_))
  · exact Iff.rfl
  · refine (ev_iload_n dX3_placeAt_4 rfl).trans ?_
    refine (ev_aload_n dX3_placeAt_5 rfl).trans ?_
    refine (ev_getI2 dX3_placeAt_6 f_3_21 rfl (v := (μ r0 21 o0 5)) (rfl)).trans ((and_iff_right (by decide)).trans ?_)
    refine (ev_icmp dX3_placeAt_9 (t := 14) (by decide)).trans (and_congr (imp_congr Iff.rfl ?_) (imp_congr Iff.rfl ?_))
    · refine (ev_aload_n dX3_placeAt_14 rfl).trans ?_
      refine (ev_getI2 dX3_placeAt_15 f_3_9 rfl (v := (μ r0 21 o0 2)) (rfl)).trans ((and_iff_right (by decide)).trans ?_)
      refine (ev_istore_n dX3_placeAt_18 (Nat.le_of_ble_eq_true rfl) rfl).trans ?_
      refine (ev_iconst dX3_placeAt_19 (w := 0) (by decide)).trans ?_
      refine (ev_istore_n dX3_placeAt_20 (Nat.le_of_ble_eq_true rfl) rfl).trans ?_
      exact Iff.rfl
    · exact Iff.rfl
theorem B32v21_12 {C : Nat → List AV → Mem → Res → Prop} {μ : Mem} {res : Res} {x1 : Int32} {r0 o0 : Nat} {u2 u3 : Option AV} : EvE C 32 12 [some (.inr (r0, 21, o0)), some (.inl x1), u2, u3] [] μ res ↔ res = (some (-1), μ) := by
  refine (ev_iconst dX3_placeAt_12 (w := (-1)) (by decide)).trans ?_
  exact ev_ireturn dX3_placeAt_13 rfl
theorem B32v21_21 {C : Nat → List AV → Mem → Res → Prop} {μ : Mem} {res : Res} {x1 x2 x3 : Int32} {r0 o0 : Nat} : EvE C 32 21 [some (.inr (r0, 21, o0)), some (.inl x1), some (.inl x2), some (.inl x3)] [] μ res ↔ ((x1 ≤ x3 → EvE C 32 44 [some (.inr (r0, 21, o0)), some (.inl x1), some (.inl x2), some (.inl x3)] [] μ res) ∧ (¬ (x1 ≤ x3) → ((x2 = (-1) → EvE C 32 44 [some (.inr (r0, 21, o0)), some (.inl x1), some (.inl x2), some (.inl x3)] [] μ res) ∧ (¬ (x2 = (-1)) → vp_in x2 100 ∧ EvE C 32 21 [some (.inr (r0, 21, o0)), some (.inl x1), some (.inl (μ r0 23 o0 x2.toNatClampNeg)), some (.inl (x3 + 1))] [] μ res)))) := by
  refine (ev_iload_n dX3_placeAt_21 rfl).trans ?_
  refine (ev_iload_n dX3_placeAt_22 rfl).trans ?_
  refine (ev_icmp dX3_placeAt_23 (t := 44) (by decide)).trans (and_congr (imp_congr Iff.rfl ?_) (imp_congr Iff.rfl ?_))
  · exact Iff.rfl
  · refine (ev_iload_n dX3_placeAt_26 rfl).trans ?_
    refine (ev_iconst dX3_placeAt_27 (w := (-1)) (by decide)).trans ?_
    refine (ev_icmp dX3_placeAt_28 (t := 44) (by decide)).trans (and_congr (imp_congr Iff.rfl ?_) (imp_congr Iff.rfl ?_))
    · exact Iff.rfl
    · refine (ev_aload_n dX3_placeAt_31 rfl).trans ?_
      refine (ev_getR dX3_placeAt_32 f_3_34 rfl).trans ((and_iff_right (by decide)).trans ?_)
      refine (ev_iload_n dX3_placeAt_35 rfl).trans ?_
      refine (ev_iald2 dX3_placeAt_36 (by decide) (v := (μ r0 23 o0 x2.toNatClampNeg)) (rfl)).trans (and_congr_right fun _ => ?_)
      refine (ev_istore_n dX3_placeAt_37 (Nat.le_of_ble_eq_true rfl) rfl).trans ?_
      refine (ev_iinc dX3_placeAt_38 rfl (w := 1) (by decide) rfl).trans ?_
      refine (ev_goto dX3_placeAt_41 (t := 21) (by decide)).trans ?_
      exact Iff.rfl
theorem B32v21_44 {C : Nat → List AV → Mem → Res → Prop} {μ : Mem} {res : Res} {x1 x2 x3 : Int32} {r0 o0 : Nat} : EvE C 32 44 [some (.inr (r0, 21, o0)), some (.inl x1), some (.inl x2), some (.inl x3)] [] μ res ↔ res = (some x2, μ) := by
  refine (ev_iload_n dX3_placeAt_44 rfl).trans ?_
  exact ev_ireturn dX3_placeAt_45 rfl
/-! X3_copyFrom -/
theorem B33v9_0 {C : Nat → List AV → Mem → Res → Prop} {μ : Mem} {res : Res} {r0 o0 r1 o1 : Nat} : EvE C 33 0 [some (.inr (r0, 9, o0)), some (.inr (r1, 9, o1)), none] [] μ res ↔ ∃ v1 μ1, C 129 [.inl (nI 120), .inl (nI 120)] μ (some v1, μ1) ∧ (¬ (0 : Int32) < 0 ∧ ¬ (0 : Int32) < 0 ∧ ¬ v1 < 0 ∧ 0 + v1.toNatClampNeg ≤ 120 ∧ 0 + v1.toNatClampNeg ≤ 120) ∧ (¬ (0 : Int32) < 0 ∧ ¬ (0 : Int32) < 0 ∧ ¬ v1 < 0 ∧ 0 + v1.toNatClampNeg ≤ 120 ∧ 0 + v1.toNatClampNeg ≤ 120) ∧ res = (none, (mset (mset (mset (mset (mrow (mrow μ1 r0 10 o0 (va_cpy (μ1 r1 10 o1) (μ1 r0 10 o0) 0 0 v1.toNatClampNeg)) r0 11 o0 (va_cpy (μ1 r1 11 o1) (μ1 r0 11 o0) 0 0 v1.toNatClampNeg)) r0 9 o0 2 (μ1 r1 9 o1 2)) r0 9 o0 3 (μ1 r1 9 o1 3)) r0 9 o0 4 (μ1 r1 9 o1 4)) r0 9 o0 5 (μ1 r1 9 o1 5))) := by
  refine (ev_aload_n dX3_copyFrom_0 rfl).trans ?_
  refine (ev_getR dX3_copyFrom_1 f_3_30 rfl).trans ((and_iff_right (by decide)).trans ?_)
  refine (ev_alen dX3_copyFrom_4 (by decide)).trans ?_
  refine (ev_aload_n dX3_copyFrom_5 rfl).trans ?_
  refine (ev_getR dX3_copyFrom_6 f_3_30 rfl).trans ((and_iff_right (by decide)).trans ?_)
  refine (ev_alen dX3_copyFrom_9 (by decide)).trans ?_
  refine (ev_staI dX3_copyFrom_10 c_3_37 (by decide) (As := [.inl (nI 120), .inl (nI 120)]) rfl rfl (by decide) rfl (Nat.le_of_ble_eq_true rfl)).trans (exists_congr fun v1 => exists_congr fun μ1 => and_congr_right fun _ => ?_)
  refine (ev_istore_n dX3_copyFrom_13 (Nat.le_of_ble_eq_true rfl) rfl).trans ?_
  refine (ev_aload_n dX3_copyFrom_14 rfl).trans ?_
  refine (ev_getR dX3_copyFrom_15 f_3_30 rfl).trans ((and_iff_right (by decide)).trans ?_)
  refine (ev_iconst dX3_copyFrom_18 (w := 0) (by decide)).trans ?_
  refine (ev_aload_n dX3_copyFrom_19 rfl).trans ?_
  refine (ev_getR dX3_copyFrom_20 f_3_30 rfl).trans ((and_iff_right (by decide)).trans ?_)
  refine (ev_iconst dX3_copyFrom_23 (w := 0) (by decide)).trans ?_
  refine (ev_iload_n dX3_copyFrom_24 rfl).trans ?_
  refine (ev_acpy2 dX3_copyFrom_25 c_3_40 (by decide) (by decide) (Nat.le_of_ble_eq_true rfl) (f := (μ1 r1 10 o1)) (g := (μ1 r0 10 o0)) (rfl) (rfl)).trans (and_congr_right fun _ => ?_)
  refine (ev_aload_n dX3_copyFrom_28 rfl).trans ?_
  refine (ev_getR dX3_copyFrom_29 f_3_34 rfl).trans ((and_iff_right (by decide)).trans ?_)
  refine (ev_iconst dX3_copyFrom_32 (w := 0) (by decide)).trans ?_
  refine (ev_aload_n dX3_copyFrom_33 rfl).trans ?_
  refine (ev_getR dX3_copyFrom_34 f_3_34 rfl).trans ((and_iff_right (by decide)).trans ?_)
  refine (ev_iconst dX3_copyFrom_37 (w := 0) (by decide)).trans ?_
  refine (ev_iload_n dX3_copyFrom_38 rfl).trans ?_
  refine (ev_acpy2 dX3_copyFrom_39 c_3_40 (by decide) (by decide) (Nat.le_of_ble_eq_true rfl) (f := (μ1 r1 11 o1)) (g := (μ1 r0 11 o0)) ((mrgetR_a (by decide)).trans (rfl)) ((mrgetR_a (by decide)).trans (rfl))).trans (and_congr_right fun _ => ?_)
  refine (ev_aload_n dX3_copyFrom_42 rfl).trans ?_
  refine (ev_aload_n dX3_copyFrom_43 rfl).trans ?_
  refine (ev_getI2 dX3_copyFrom_44 f_3_9 rfl (v := (μ1 r1 9 o1 2)) ((mrget_a (by decide)).trans ((mrget_a (by decide)).trans (rfl)))).trans ((and_iff_right (by decide)).trans ?_)
  refine (ev_put dX3_copyFrom_47 f_3_9 rfl (by decide)).trans ((and_iff_right (by decide)).trans ?_)
  refine (ev_aload_n dX3_copyFrom_50 rfl).trans ?_
  refine (ev_aload_n dX3_copyFrom_51 rfl).trans ?_
  refine (ev_getI2 dX3_copyFrom_52 f_3_15 rfl (v := (μ1 r1 9 o1 3)) ((mget_i (by decide)).trans ((mrget_a (by decide)).trans ((mrget_a (by decide)).trans (rfl))))).trans ((and_iff_right (by decide)).trans ?_)
  refine (ev_put dX3_copyFrom_55 f_3_15 rfl (by decide)).trans ((and_iff_right (by decide)).trans ?_)
  refine (ev_aload_n dX3_copyFrom_58 rfl).trans ?_
  refine (ev_aload_n dX3_copyFrom_59 rfl).trans ?_
  refine (ev_getI2 dX3_copyFrom_60 f_3_18 rfl (v := (μ1 r1 9 o1 4)) ((mget_i (by decide)).trans ((mget_i (by decide)).trans ((mrget_a (by decide)).trans ((mrget_a (by decide)).trans (rfl)))))).trans ((and_iff_right (by decide)).trans ?_)
  refine (ev_put dX3_copyFrom_63 f_3_18 rfl (by decide)).trans ((and_iff_right (by decide)).trans ?_)
  refine (ev_aload_n dX3_copyFrom_66 rfl).trans ?_
  refine (ev_aload_n dX3_copyFrom_67 rfl).trans ?_
  refine (ev_getI2 dX3_copyFrom_68 f_3_21 rfl (v := (μ1 r1 9 o1 5)) ((mget_i (by decide)).trans ((mget_i (by decide)).trans ((mget_i (by decide)).trans ((mrget_a (by decide)).trans ((mrget_a (by decide)).trans (rfl))))))).trans ((and_iff_right (by decide)).trans ?_)
  refine (ev_put dX3_copyFrom_71 f_3_21 rfl (by decide)).trans ((and_iff_right (by decide)).trans ?_)
  exact ev_return dX3_copyFrom_74 rfl
theorem B33v21_0 {C : Nat → List AV → Mem → Res → Prop} {μ : Mem} {res : Res} {r0 o0 r1 o1 : Nat} : EvE C 33 0 [some (.inr (r0, 21, o0)), some (.inr (r1, 21, o1)), none] [] μ res ↔ ∃ v1 μ1, C 129 [.inl (nI 100), .inl (nI 100)] μ (some v1, μ1) ∧ (¬ (0 : Int32) < 0 ∧ ¬ (0 : Int32) < 0 ∧ ¬ v1 < 0 ∧ 0 + v1.toNatClampNeg ≤ 100 ∧ 0 + v1.toNatClampNeg ≤ 100) ∧ (¬ (0 : Int32) < 0 ∧ ¬ (0 : Int32) < 0 ∧ ¬ v1 < 0 ∧ 0 + v1.toNatClampNeg ≤ 100 ∧ 0 + v1.toNatClampNeg ≤ 100) ∧ res = (none, (mset (mset (mset (mset (mrow (mrow μ1 r0 22 o0 (va_cpy (μ1 r1 22 o1) (μ1 r0 22 o0) 0 0 v1.toNatClampNeg)) r0 23 o0 (va_cpy (μ1 r1 23 o1) (μ1 r0 23 o0) 0 0 v1.toNatClampNeg)) r0 21 o0 2 (μ1 r1 21 o1 2)) r0 21 o0 3 (μ1 r1 21 o1 3)) r0 21 o0 4 (μ1 r1 21 o1 4)) r0 21 o0 5 (μ1 r1 21 o1 5))) := by
  refine (ev_aload_n dX3_copyFrom_0 rfl).trans ?_
  refine (ev_getR dX3_copyFrom_1 f_3_30 rfl).trans ((and_iff_right (by decide)).trans ?_)
  refine (ev_alen dX3_copyFrom_4 (by decide)).trans ?_
  refine (ev_aload_n dX3_copyFrom_5 rfl).trans ?_
  refine (ev_getR dX3_copyFrom_6 f_3_30 rfl).trans ((and_iff_right (by decide)).trans ?_)
  refine (ev_alen dX3_copyFrom_9 (by decide)).trans ?_
  refine (ev_staI dX3_copyFrom_10 c_3_37 (by decide) (As := [.inl (nI 100), .inl (nI 100)]) rfl rfl (by decide) rfl (Nat.le_of_ble_eq_true rfl)).trans (exists_congr fun v1 => exists_congr fun μ1 => and_congr_right fun _ => ?_)
  refine (ev_istore_n dX3_copyFrom_13 (Nat.le_of_ble_eq_true rfl) rfl).trans ?_
  refine (ev_aload_n dX3_copyFrom_14 rfl).trans ?_
  refine (ev_getR dX3_copyFrom_15 f_3_30 rfl).trans ((and_iff_right (by decide)).trans ?_)
  refine (ev_iconst dX3_copyFrom_18 (w := 0) (by decide)).trans ?_
  refine (ev_aload_n dX3_copyFrom_19 rfl).trans ?_
  refine (ev_getR dX3_copyFrom_20 f_3_30 rfl).trans ((and_iff_right (by decide)).trans ?_)
  refine (ev_iconst dX3_copyFrom_23 (w := 0) (by decide)).trans ?_
  refine (ev_iload_n dX3_copyFrom_24 rfl).trans ?_
  refine (ev_acpy2 dX3_copyFrom_25 c_3_40 (by decide) (by decide) (Nat.le_of_ble_eq_true rfl) (f := (μ1 r1 22 o1)) (g := (μ1 r0 22 o0)) (rfl) (rfl)).trans (and_congr_right fun _ => ?_)
  refine (ev_aload_n dX3_copyFrom_28 rfl).trans ?_
  refine (ev_getR dX3_copyFrom_29 f_3_34 rfl).trans ((and_iff_right (by decide)).trans ?_)
  refine (ev_iconst dX3_copyFrom_32 (w := 0) (by decide)).trans ?_
  refine (ev_aload_n dX3_copyFrom_33 rfl).trans ?_
  refine (ev_getR dX3_copyFrom_34 f_3_34 rfl).trans ((and_iff_right (by decide)).trans ?_)
  refine (ev_iconst dX3_copyFrom_37 (w := 0) (by decide)).trans ?_
  refine (ev_iload_n dX3_copyFrom_38 rfl).trans ?_
  refine (ev_acpy2 dX3_copyFrom_39 c_3_40 (by decide) (by decide) (Nat.le_of_ble_eq_true rfl) (f := (μ1 r1 23 o1)) (g := (μ1 r0 23 o0)) ((mrgetR_a (by decide)).trans (rfl)) ((mrgetR_a (by decide)).trans (rfl))).trans (and_congr_right fun _ => ?_)
  refine (ev_aload_n dX3_copyFrom_42 rfl).trans ?_
  refine (ev_aload_n dX3_copyFrom_43 rfl).trans ?_
  refine (ev_getI2 dX3_copyFrom_44 f_3_9 rfl (v := (μ1 r1 21 o1 2)) ((mrget_a (by decide)).trans ((mrget_a (by decide)).trans (rfl)))).trans ((and_iff_right (by decide)).trans ?_)
  refine (ev_put dX3_copyFrom_47 f_3_9 rfl (by decide)).trans ((and_iff_right (by decide)).trans ?_)
  refine (ev_aload_n dX3_copyFrom_50 rfl).trans ?_
  refine (ev_aload_n dX3_copyFrom_51 rfl).trans ?_
  refine (ev_getI2 dX3_copyFrom_52 f_3_15 rfl (v := (μ1 r1 21 o1 3)) ((mget_i (by decide)).trans ((mrget_a (by decide)).trans ((mrget_a (by decide)).trans (rfl))))).trans ((and_iff_right (by decide)).trans ?_)
  refine (ev_put dX3_copyFrom_55 f_3_15 rfl (by decide)).trans ((and_iff_right (by decide)).trans ?_)
  refine (ev_aload_n dX3_copyFrom_58 rfl).trans ?_
  refine (ev_aload_n dX3_copyFrom_59 rfl).trans ?_
  refine (ev_getI2 dX3_copyFrom_60 f_3_18 rfl (v := (μ1 r1 21 o1 4)) ((mget_i (by decide)).trans ((mget_i (by decide)).trans ((mrget_a (by decide)).trans ((mrget_a (by decide)).trans (rfl)))))).trans ((and_iff_right (by decide)).trans ?_)
  refine (ev_put dX3_copyFrom_63 f_3_18 rfl (by decide)).trans ((and_iff_right (by decide)).trans ?_)
  refine (ev_aload_n dX3_copyFrom_66 rfl).trans ?_
  refine (ev_aload_n dX3_copyFrom_67 rfl).trans ?_
  refine (ev_getI2 dX3_copyFrom_68 f_3_21 rfl (v := (μ1 r1 21 o1 5)) ((mget_i (by decide)).trans ((mget_i (by decide)).trans ((mget_i (by decide)).trans ((mrget_a (by decide)).trans ((mrget_a (by decide)).trans (rfl))))))).trans ((and_iff_right (by decide)).trans ?_)
  refine (ev_put dX3_copyFrom_71 f_3_21 rfl (by decide)).trans ((and_iff_right (by decide)).trans ?_)
  exact ev_return dX3_copyFrom_74 rfl
/-! X4_begin -/
theorem B34_0 {C : Nat → List AV → Mem → Res → Prop} {μ : Mem} {res : Res} {x1 : Int32} {r0 o0 : Nat} : EvE C 34 0 [some (.inr (r0, 32, o0)), some (.inl x1)] [] μ res ↔ ∃ μ1, C 130 [.inr (r0, 33, o0), .inl 0] (mset μ r0 32 o0 2 x1) (none, μ1) ∧ ∃ μ2, C 130 [.inr (r0, 34, o0), .inl 0] μ1 (none, μ2) ∧ res = (none, μ2) := by
  refine (ev_aload_n dX4_begin_0 rfl).trans ?_
  refine (ev_iload_n dX4_begin_1 rfl).trans ?_
  refine (ev_put dX4_begin_2 f_4_18 rfl (by decide)).trans ((and_iff_right (by decide)).trans ?_)
  refine (ev_aload_n dX4_begin_5 rfl).trans ?_
  refine (ev_getR dX4_begin_6 f_4_9 rfl).trans ((and_iff_right (by decide)).trans ?_)
  refine (ev_iconst dX4_begin_9 (w := 0) (by decide)).trans ?_
  refine (ev_staV dX4_begin_10 c_4_22 (by decide) (As := [.inr (r0, 33, o0), .inl 0]) rfl rfl rfl rfl (Nat.le_of_ble_eq_true rfl)).trans (exists_congr fun μ1 => and_congr_right fun _ => ?_)
  refine (ev_aload_n dX4_begin_13 rfl).trans ?_
  refine (ev_getR dX4_begin_14 f_4_15 rfl).trans ((and_iff_right (by decide)).trans ?_)
  refine (ev_iconst dX4_begin_17 (w := 0) (by decide)).trans ?_
  refine (ev_staV dX4_begin_18 c_4_22 (by decide) (As := [.inr (r0, 34, o0), .inl 0]) rfl rfl rfl rfl (Nat.le_of_ble_eq_true rfl)).trans (exists_congr fun μ2 => and_congr_right fun _ => ?_)
  exact ev_return dX4_begin_21 rfl
/-! X4_placeOf -/
theorem B35_0 {C : Nat → List AV → Mem → Res → Prop} {μ : Mem} {res : Res} {x1 : Int32} {r0 o0 : Nat} : EvE C 35 0 [some (.inr (r0, 32, o0)), some (.inl x1)] [] μ res ↔ (((μ r0 32 o0 2) ≤ 0 → EvE C 35 19 [some (.inr (r0, 32, o0)), some (.inl x1)] [.inl 0] μ res) ∧ (¬ ((μ r0 32 o0 2) ≤ 0) → ∃ v1 μ1, C 127 [.inl x1, .inl (μ r0 32 o0 2)] μ (some v1, μ1) ∧ EvE C 35 19 [some (.inr (r0, 32, o0)), some (.inl x1)] [.inl v1] μ1 res)) := by
  refine (ev_aload_n dX4_placeOf_0 rfl).trans ?_
  refine (ev_getI2 dX4_placeOf_1 f_4_18 rfl (v := (μ r0 32 o0 2)) (rfl)).trans ((and_iff_right (by decide)).trans ?_)
  refine (ev_ifc dX4_placeOf_4 (t := 18) (by decide)).trans (and_congr (imp_congr Iff.rfl ?_) (imp_congr Iff.rfl ?_))
  · refine (ev_iconst dX4_placeOf_18 (w := 0) (by decide)).trans ?_
    exact Iff.rfl
  · refine (ev_iload_n dX4_placeOf_7 rfl).trans ?_
    refine (ev_aload_n dX4_placeOf_8 rfl).trans ?_
    refine (ev_getI2 dX4_placeOf_9 f_4_18 rfl (v := (μ r0 32 o0 2)) (rfl)).trans ((and_iff_right (by decide)).trans ?_)
    refine (ev_staI dX4_placeOf_12 c_4_28 (by decide) (As := [.inl x1, .inl (μ r0 32 o0 2)]) rfl rfl (by decide) rfl (Nat.le_of_ble_eq_true rfl)).trans (exists_congr fun v1 => exists_congr fun μ1 => and_congr_right fun _ => ?_)
    refine (ev_goto dX4_placeOf_15 (t := 19) (by decide)).trans ?_
    exact Iff.rfl
theorem B35_19 {C : Nat → List AV → Mem → Res → Prop} {μ : Mem} {res : Res} {x1 w0 : Int32} {r0 o0 : Nat} : EvE C 35 19 [some (.inr (r0, 32, o0)), some (.inl x1)] [.inl w0] μ res ↔ res = (some w0, μ) := by
  exact ev_ireturn dX4_placeOf_19 rfl
/-! X4_copyFrom -/
theorem B36_0 {C : Nat → List AV → Mem → Res → Prop} {μ : Mem} {res : Res} {r0 o0 r1 o1 : Nat} : EvE C 36 0 [some (.inr (r0, 32, o0)), some (.inr (r1, 32, o1))] [] μ res ↔ res = (none, (mset (mrow (mrow μ r0 33 o0 (va_cpy (μ r1 33 o1) (μ r0 33 o0) 0 0 12)) r0 34 o0 (va_cpy (μ r1 34 o1) (μ r0 34 o0) 0 0 12)) r0 32 o0 2 (μ r1 32 o1 2))) := by
  refine (ev_aload_n dX4_copyFrom_0 rfl).trans ?_
  refine (ev_getR dX4_copyFrom_1 f_4_9 rfl).trans ((and_iff_right (by decide)).trans ?_)
  refine (ev_iconst dX4_copyFrom_4 (w := 0) (by decide)).trans ?_
  refine (ev_aload_n dX4_copyFrom_5 rfl).trans ?_
  refine (ev_getR dX4_copyFrom_6 f_4_9 rfl).trans ((and_iff_right (by decide)).trans ?_)
  refine (ev_iconst dX4_copyFrom_9 (w := 0) (by decide)).trans ?_
  refine (ev_bipush dX4_copyFrom_10 (w := 12) (by decide)).trans ?_
  refine (ev_acpy2 dX4_copyFrom_12 c_4_34 (by decide) (by decide) (Nat.le_of_ble_eq_true rfl) (f := (μ r1 33 o1)) (g := (μ r0 33 o0)) (rfl) (rfl)).trans ((and_iff_right (by decide)).trans ?_)
  refine (ev_aload_n dX4_copyFrom_15 rfl).trans ?_
  refine (ev_getR dX4_copyFrom_16 f_4_15 rfl).trans ((and_iff_right (by decide)).trans ?_)
  refine (ev_iconst dX4_copyFrom_19 (w := 0) (by decide)).trans ?_
  refine (ev_aload_n dX4_copyFrom_20 rfl).trans ?_
  refine (ev_getR dX4_copyFrom_21 f_4_15 rfl).trans ((and_iff_right (by decide)).trans ?_)
  refine (ev_iconst dX4_copyFrom_24 (w := 0) (by decide)).trans ?_
  refine (ev_bipush dX4_copyFrom_25 (w := 12) (by decide)).trans ?_
  refine (ev_acpy2 dX4_copyFrom_27 c_4_34 (by decide) (by decide) (Nat.le_of_ble_eq_true rfl) (f := (μ r1 34 o1)) (g := (μ r0 34 o0)) ((mrgetR_a (by decide)).trans (rfl)) ((mrgetR_a (by decide)).trans (rfl))).trans ((and_iff_right (by decide)).trans ?_)
  refine (ev_aload_n dX4_copyFrom_30 rfl).trans ?_
  refine (ev_aload_n dX4_copyFrom_31 rfl).trans ?_
  refine (ev_getI2 dX4_copyFrom_32 f_4_18 rfl (v := (μ r1 32 o1 2)) ((mrget_a (by decide)).trans ((mrget_a (by decide)).trans (rfl)))).trans ((and_iff_right (by decide)).trans ?_)
  refine (ev_put dX4_copyFrom_35 f_4_18 rfl (by decide)).trans ((and_iff_right (by decide)).trans ?_)
  exact ev_return dX4_copyFrom_38 rfl
/-! X5_hasAnswer -/
theorem B37_0 {C : Nat → List AV → Mem → Res → Prop} {μ : Mem} {res : Res} {x1 x2 : Int32} {r0 o0 : Nat} : EvE C 37 0 [some (.inr (r0, 3, o0)), some (.inl x1), some (.inl x2)] [] μ res ↔ vp_in x1 8 ∧ (((μ r0 6 o0 x1.toNatClampNeg) < x2 → EvE C 37 15 [some (.inr (r0, 3, o0)), some (.inl x1), some (.inl x2)] [.inl 0] μ res) ∧ (¬ ((μ r0 6 o0 x1.toNatClampNeg) < x2) → EvE C 37 15 [some (.inr (r0, 3, o0)), some (.inl x1), some (.inl x2)] [.inl 1] μ res)) := by
  refine (ev_iload_n dX5_hasAnswer_0 rfl).trans ?_
  refine (ev_aload_n dX5_hasAnswer_1 rfl).trans ?_
  refine (ev_getR dX5_hasAnswer_2 f_5_18 rfl).trans ((and_iff_right (by decide)).trans ?_)
  refine (ev_iload_n dX5_hasAnswer_5 rfl).trans ?_
  refine (ev_iald2 dX5_hasAnswer_6 (by decide) (v := (μ r0 6 o0 x1.toNatClampNeg)) (rfl)).trans (and_congr_right fun _ => ?_)
  refine (ev_icmp dX5_hasAnswer_7 (t := 14) (by decide)).trans (and_congr (imp_congr Iff.rfl ?_) (imp_congr Iff.rfl ?_))
  · refine (ev_iconst dX5_hasAnswer_14 (w := 0) (by decide)).trans ?_
    exact Iff.rfl
  · refine (ev_iconst dX5_hasAnswer_10 (w := 1) (by decide)).trans ?_
    refine (ev_goto dX5_hasAnswer_11 (t := 15) (by decide)).trans ?_
    exact Iff.rfl
theorem B37_15 {C : Nat → List AV → Mem → Res → Prop} {μ : Mem} {res : Res} {x1 x2 w0 : Int32} {r0 o0 : Nat} : EvE C 37 15 [some (.inr (r0, 3, o0)), some (.inl x1), some (.inl x2)] [.inl w0] μ res ↔ (w0 = 0 ∨ w0 = 1) ∧ res = (some w0, μ) := by
  exact ev_zreturn dX5_hasAnswer_15 rfl
/-! X5_rests -/
theorem B38_0 {C : Nat → List AV → Mem → Res → Prop} {μ : Mem} {res : Res} {x1 : Int32} {r0 o0 : Nat} : EvE C 38 0 [some (.inr (r0, 3, o0)), some (.inl x1)] [] μ res ↔ (((μ r0 3 o0 6) < x1 → EvE C 38 13 [some (.inr (r0, 3, o0)), some (.inl x1)] [.inl 0] μ res) ∧ (¬ ((μ r0 3 o0 6) < x1) → EvE C 38 13 [some (.inr (r0, 3, o0)), some (.inl x1)] [.inl 1] μ res)) := by
  refine (ev_iload_n dX5_rests_0 rfl).trans ?_
  refine (ev_aload_n dX5_rests_1 rfl).trans ?_
  refine (ev_getI2 dX5_rests_2 f_5_31 rfl (v := (μ r0 3 o0 6)) (rfl)).trans ((and_iff_right (by decide)).trans ?_)
  refine (ev_icmp dX5_rests_5 (t := 12) (by decide)).trans (and_congr (imp_congr Iff.rfl ?_) (imp_congr Iff.rfl ?_))
  · refine (ev_iconst dX5_rests_12 (w := 0) (by decide)).trans ?_
    exact Iff.rfl
  · refine (ev_iconst dX5_rests_8 (w := 1) (by decide)).trans ?_
    refine (ev_goto dX5_rests_9 (t := 13) (by decide)).trans ?_
    exact Iff.rfl
theorem B38_13 {C : Nat → List AV → Mem → Res → Prop} {μ : Mem} {res : Res} {x1 w0 : Int32} {r0 o0 : Nat} : EvE C 38 13 [some (.inr (r0, 3, o0)), some (.inl x1)] [.inl w0] μ res ↔ (w0 = 0 ∨ w0 = 1) ∧ res = (some w0, μ) := by
  exact ev_zreturn dX5_rests_13 rfl
/-! X5_hasFreeHand -/
theorem B39_0 {C : Nat → List AV → Mem → Res → Prop} {μ : Mem} {res : Res} {r0 o0 : Nat} : EvE C 39 0 [some (.inr (r0, 3, o0))] [] μ res ↔ (((μ r0 4 o0 7) ≤ (μ r0 3 o0 5) → EvE C 39 19 [some (.inr (r0, 3, o0))] [.inl 0] μ res) ∧ (¬ ((μ r0 4 o0 7) ≤ (μ r0 3 o0 5)) → EvE C 39 19 [some (.inr (r0, 3, o0))] [.inl 1] μ res)) := by
  refine (ev_aload_n dX5_hasFreeHand_0 rfl).trans ?_
  refine (ev_getI2 dX5_hasFreeHand_1 f_5_28 rfl (v := (μ r0 3 o0 5)) (rfl)).trans ((and_iff_right (by decide)).trans ?_)
  refine (ev_aload_n dX5_hasFreeHand_4 rfl).trans ?_
  refine (ev_getR dX5_hasFreeHand_5 f_5_9 rfl).trans ((and_iff_right (by decide)).trans ?_)
  refine (ev_bipush dX5_hasFreeHand_8 (w := 7) (by decide)).trans ?_
  refine (ev_iald2 dX5_hasFreeHand_10 (by decide) (v := (μ r0 4 o0 7)) (rfl)).trans ((and_iff_right (by unfold vp_in; decide)).trans ?_)
  refine (ev_icmp dX5_hasFreeHand_11 (t := 18) (by decide)).trans (and_congr (imp_congr Iff.rfl ?_) (imp_congr Iff.rfl ?_))
  · refine (ev_iconst dX5_hasFreeHand_18 (w := 0) (by decide)).trans ?_
    exact Iff.rfl
  · refine (ev_iconst dX5_hasFreeHand_14 (w := 1) (by decide)).trans ?_
    refine (ev_goto dX5_hasFreeHand_15 (t := 19) (by decide)).trans ?_
    exact Iff.rfl
theorem B39_19 {C : Nat → List AV → Mem → Res → Prop} {μ : Mem} {res : Res} {w0 : Int32} {r0 o0 : Nat} : EvE C 39 19 [some (.inr (r0, 3, o0))] [.inl w0] μ res ↔ (w0 = 0 ∨ w0 = 1) ∧ res = (some w0, μ) := by
  exact ev_zreturn dX5_hasFreeHand_19 rfl
/-! X5_addLast -/
theorem B40_0 {C : Nat → List AV → Mem → Res → Prop} {μ : Mem} {res : Res} {x1 : Int32} {r0 o0 : Nat} : EvE C 40 0 [some (.inr (r0, 3, o0)), some (.inl x1)] [] μ res ↔ ((20 ≤ (μ r0 3 o0 4) → EvE C 40 29 [some (.inr (r0, 3, o0)), some (.inl x1)] [] μ res) ∧ (¬ (20 ≤ (μ r0 3 o0 4)) → vp_in (μ r0 3 o0 4) 20 ∧ EvE C 40 29 [some (.inr (r0, 3, o0)), some (.inl x1)] [] (mset (mset μ r0 7 o0 (μ r0 3 o0 4).toNatClampNeg x1) r0 3 o0 4 ((μ r0 3 o0 4) + 1)) res)) := by
  refine (ev_aload_n dX5_addLast_0 rfl).trans ?_
  refine (ev_getI2 dX5_addLast_1 f_5_24 rfl (v := (μ r0 3 o0 4)) (rfl)).trans ((and_iff_right (by decide)).trans ?_)
  refine (ev_bipush dX5_addLast_4 (w := 20) (by decide)).trans ?_
  refine (ev_icmp dX5_addLast_6 (t := 29) (by decide)).trans (and_congr (imp_congr Iff.rfl ?_) (imp_congr Iff.rfl ?_))
  · exact Iff.rfl
  · refine (ev_aload_n dX5_addLast_9 rfl).trans ?_
    refine (ev_getR dX5_addLast_10 f_5_21 rfl).trans ((and_iff_right (by decide)).trans ?_)
    refine (ev_aload_n dX5_addLast_13 rfl).trans ?_
    refine (ev_getI2 dX5_addLast_14 f_5_24 rfl (v := (μ r0 3 o0 4)) (rfl)).trans ((and_iff_right (by decide)).trans ?_)
    refine (ev_iload_n dX5_addLast_17 rfl).trans ?_
    refine (ev_iast dX5_addLast_18 (by decide)).trans (and_congr_right fun _ => ?_)
    refine (ev_aload_n dX5_addLast_19 rfl).trans ?_
    refine (ev_dup dX5_addLast_20).trans ?_
    refine (ev_getI2 dX5_addLast_21 f_5_24 rfl (v := (μ r0 3 o0 4)) ((mget_a (by decide)).trans (rfl))).trans ((and_iff_right (by decide)).trans ?_)
    refine (ev_iconst dX5_addLast_24 (w := 1) (by decide)).trans ?_
    refine (ev_iadd dX5_addLast_25).trans ?_
    refine (ev_put dX5_addLast_26 f_5_24 rfl (by decide)).trans ((and_iff_right (by decide)).trans ?_)
    exact Iff.rfl
theorem B40_29 {C : Nat → List AV → Mem → Res → Prop} {μ : Mem} {res : Res} {x1 : Int32} {r0 o0 : Nat} : EvE C 40 29 [some (.inr (r0, 3, o0)), some (.inl x1)] [] μ res ↔ res = (none, μ) := by
  exact ev_return dX5_addLast_29 rfl
/-! X5_takeFirst -/
theorem B41_0 {C : Nat → List AV → Mem → Res → Prop} {μ : Mem} {res : Res} {r0 o0 : Nat} : EvE C 41 0 [some (.inr (r0, 3, o0)), none] [] μ res ↔ ((0 < (μ r0 3 o0 4) → (¬ (1 : Int32) < 0 ∧ ¬ (0 : Int32) < 0 ∧ ¬ ((μ r0 3 o0 4) - 1) < 0 ∧ 1 + ((μ r0 3 o0 4) - 1).toNatClampNeg ≤ 20 ∧ 0 + ((μ r0 3 o0 4) - 1).toNatClampNeg ≤ 20) ∧ res = (some (μ r0 7 o0 0), (mrow (mset μ r0 3 o0 4 ((μ r0 3 o0 4) - 1)) r0 7 o0 (va_cpy (μ r0 7 o0) (μ r0 7 o0) 1 0 ((μ r0 3 o0 4) - 1).toNatClampNeg)))) ∧ (¬ (0 < (μ r0 3 o0 4)) → res = (some (-1), μ))) := by
  refine (ev_aload_n dX5_takeFirst_0 rfl).trans ?_
  refine (ev_getI2 dX5_takeFirst_1 f_5_24 rfl (v := (μ r0 3 o0 4)) (rfl)).trans ((and_iff_right (by decide)).trans ?_)
  refine (ev_ifc dX5_takeFirst_4 (t := 9) (by decide)).trans (and_congr (imp_congr Iff.rfl ?_) (imp_congr Iff.rfl ?_))
  · refine (ev_aload_n dX5_takeFirst_9 rfl).trans ?_
    refine (ev_getR dX5_takeFirst_10 f_5_21 rfl).trans ((and_iff_right (by decide)).trans ?_)
    refine (ev_iconst dX5_takeFirst_13 (w := 0) (by decide)).trans ?_
    refine (ev_iald2 dX5_takeFirst_14 (by decide) (v := (μ r0 7 o0 0)) (rfl)).trans ((and_iff_right (by unfold vp_in; decide)).trans ?_)
    refine (ev_istore_n dX5_takeFirst_15 (Nat.le_of_ble_eq_true rfl) rfl).trans ?_
    refine (ev_aload_n dX5_takeFirst_16 rfl).trans ?_
    refine (ev_dup dX5_takeFirst_17).trans ?_
    refine (ev_getI2 dX5_takeFirst_18 f_5_24 rfl (v := (μ r0 3 o0 4)) (rfl)).trans ((and_iff_right (by decide)).trans ?_)
    refine (ev_iconst dX5_takeFirst_21 (w := 1) (by decide)).trans ?_
    refine (ev_isub dX5_takeFirst_22).trans ?_
    refine (ev_put dX5_takeFirst_23 f_5_24 rfl (by decide)).trans ((and_iff_right (by decide)).trans ?_)
    refine (ev_aload_n dX5_takeFirst_26 rfl).trans ?_
    refine (ev_getR dX5_takeFirst_27 f_5_21 rfl).trans ((and_iff_right (by decide)).trans ?_)
    refine (ev_iconst dX5_takeFirst_30 (w := 1) (by decide)).trans ?_
    refine (ev_aload_n dX5_takeFirst_31 rfl).trans ?_
    refine (ev_getR dX5_takeFirst_32 f_5_21 rfl).trans ((and_iff_right (by decide)).trans ?_)
    refine (ev_iconst dX5_takeFirst_35 (w := 0) (by decide)).trans ?_
    refine (ev_aload_n dX5_takeFirst_36 rfl).trans ?_
    refine (ev_getI2 dX5_takeFirst_37 f_5_24 rfl (v := ((μ r0 3 o0 4) - 1)) (mget_s)).trans ((and_iff_right (by decide)).trans ?_)
    refine (ev_acpy2 dX5_takeFirst_40 c_5_40 (by decide) (by decide) (Nat.le_of_ble_eq_true rfl) (f := (μ r0 7 o0)) (g := (μ r0 7 o0)) ((mgetR_a (by decide)).trans (rfl)) ((mgetR_a (by decide)).trans (rfl))).trans (and_congr_right fun _ => ?_)
    refine (ev_iload_n dX5_takeFirst_43 rfl).trans ?_
    exact ev_ireturn dX5_takeFirst_44 rfl
  · refine (ev_iconst dX5_takeFirst_7 (w := (-1)) (by decide)).trans ?_
    exact ev_ireturn dX5_takeFirst_8 rfl
/-! X5_copyFrom -/
theorem B42_0 {C : Nat → List AV → Mem → Res → Prop} {μ : Mem} {res : Res} {r0 o0 r1 o1 : Nat} : EvE C 42 0 [some (.inr (r0, 3, o0)), some (.inr (r1, 3, o1))] [] μ res ↔ res = (none, (mset (mset (mset (mset (mrow (mrow (mrow (mrow μ r0 4 o0 (va_cpy (μ r1 4 o1) (μ r0 4 o0) 0 0 10)) r0 5 o0 (va_cpy (μ r1 5 o1) (μ r0 5 o0) 0 0 7)) r0 6 o0 (va_cpy (μ r1 6 o1) (μ r0 6 o0) 0 0 8)) r0 7 o0 (va_cpy (μ r1 7 o1) (μ r0 7 o0) 0 0 20)) r0 3 o0 4 (μ r1 3 o1 4)) r0 3 o0 5 (μ r1 3 o1 5)) r0 3 o0 6 (μ r1 3 o1 6)) r0 3 o0 7 (μ r1 3 o1 7))) := by
  refine (ev_aload_n dX5_copyFrom_0 rfl).trans ?_
  refine (ev_getR dX5_copyFrom_1 f_5_9 rfl).trans ((and_iff_right (by decide)).trans ?_)
  refine (ev_iconst dX5_copyFrom_4 (w := 0) (by decide)).trans ?_
  refine (ev_aload_n dX5_copyFrom_5 rfl).trans ?_
  refine (ev_getR dX5_copyFrom_6 f_5_9 rfl).trans ((and_iff_right (by decide)).trans ?_)
  refine (ev_iconst dX5_copyFrom_9 (w := 0) (by decide)).trans ?_
  refine (ev_bipush dX5_copyFrom_10 (w := 10) (by decide)).trans ?_
  refine (ev_acpy2 dX5_copyFrom_12 c_5_40 (by decide) (by decide) (Nat.le_of_ble_eq_true rfl) (f := (μ r1 4 o1)) (g := (μ r0 4 o0)) (rfl) (rfl)).trans ((and_iff_right (by decide)).trans ?_)
  refine (ev_aload_n dX5_copyFrom_15 rfl).trans ?_
  refine (ev_getR dX5_copyFrom_16 f_5_15 rfl).trans ((and_iff_right (by decide)).trans ?_)
  refine (ev_iconst dX5_copyFrom_19 (w := 0) (by decide)).trans ?_
  refine (ev_aload_n dX5_copyFrom_20 rfl).trans ?_
  refine (ev_getR dX5_copyFrom_21 f_5_15 rfl).trans ((and_iff_right (by decide)).trans ?_)
  refine (ev_iconst dX5_copyFrom_24 (w := 0) (by decide)).trans ?_
  refine (ev_bipush dX5_copyFrom_25 (w := 7) (by decide)).trans ?_
  refine (ev_acpy2 dX5_copyFrom_27 c_5_40 (by decide) (by decide) (Nat.le_of_ble_eq_true rfl) (f := (μ r1 5 o1)) (g := (μ r0 5 o0)) ((mrgetR_a (by decide)).trans (rfl)) ((mrgetR_a (by decide)).trans (rfl))).trans ((and_iff_right (by decide)).trans ?_)
  refine (ev_aload_n dX5_copyFrom_30 rfl).trans ?_
  refine (ev_getR dX5_copyFrom_31 f_5_18 rfl).trans ((and_iff_right (by decide)).trans ?_)
  refine (ev_iconst dX5_copyFrom_34 (w := 0) (by decide)).trans ?_
  refine (ev_aload_n dX5_copyFrom_35 rfl).trans ?_
  refine (ev_getR dX5_copyFrom_36 f_5_18 rfl).trans ((and_iff_right (by decide)).trans ?_)
  refine (ev_iconst dX5_copyFrom_39 (w := 0) (by decide)).trans ?_
  refine (ev_bipush dX5_copyFrom_40 (w := 8) (by decide)).trans ?_
  refine (ev_acpy2 dX5_copyFrom_42 c_5_40 (by decide) (by decide) (Nat.le_of_ble_eq_true rfl) (f := (μ r1 6 o1)) (g := (μ r0 6 o0)) ((mrgetR_a (by decide)).trans ((mrgetR_a (by decide)).trans (rfl))) ((mrgetR_a (by decide)).trans ((mrgetR_a (by decide)).trans (rfl)))).trans ((and_iff_right (by decide)).trans ?_)
  refine (ev_aload_n dX5_copyFrom_45 rfl).trans ?_
  refine (ev_getR dX5_copyFrom_46 f_5_21 rfl).trans ((and_iff_right (by decide)).trans ?_)
  refine (ev_iconst dX5_copyFrom_49 (w := 0) (by decide)).trans ?_
  refine (ev_aload_n dX5_copyFrom_50 rfl).trans ?_
  refine (ev_getR dX5_copyFrom_51 f_5_21 rfl).trans ((and_iff_right (by decide)).trans ?_)
  refine (ev_iconst dX5_copyFrom_54 (w := 0) (by decide)).trans ?_
  refine (ev_bipush dX5_copyFrom_55 (w := 20) (by decide)).trans ?_
  refine (ev_acpy2 dX5_copyFrom_57 c_5_40 (by decide) (by decide) (Nat.le_of_ble_eq_true rfl) (f := (μ r1 7 o1)) (g := (μ r0 7 o0)) ((mrgetR_a (by decide)).trans ((mrgetR_a (by decide)).trans ((mrgetR_a (by decide)).trans (rfl)))) ((mrgetR_a (by decide)).trans ((mrgetR_a (by decide)).trans ((mrgetR_a (by decide)).trans (rfl))))).trans ((and_iff_right (by decide)).trans ?_)
  refine (ev_aload_n dX5_copyFrom_60 rfl).trans ?_
  refine (ev_aload_n dX5_copyFrom_61 rfl).trans ?_
  refine (ev_getI2 dX5_copyFrom_62 f_5_24 rfl (v := (μ r1 3 o1 4)) ((mrget_a (by decide)).trans ((mrget_a (by decide)).trans ((mrget_a (by decide)).trans ((mrget_a (by decide)).trans (rfl)))))).trans ((and_iff_right (by decide)).trans ?_)
  refine (ev_put dX5_copyFrom_65 f_5_24 rfl (by decide)).trans ((and_iff_right (by decide)).trans ?_)
  refine (ev_aload_n dX5_copyFrom_68 rfl).trans ?_
  refine (ev_aload_n dX5_copyFrom_69 rfl).trans ?_
  refine (ev_getI2 dX5_copyFrom_70 f_5_28 rfl (v := (μ r1 3 o1 5)) ((mget_i (by decide)).trans ((mrget_a (by decide)).trans ((mrget_a (by decide)).trans ((mrget_a (by decide)).trans ((mrget_a (by decide)).trans (rfl))))))).trans ((and_iff_right (by decide)).trans ?_)
  refine (ev_put dX5_copyFrom_73 f_5_28 rfl (by decide)).trans ((and_iff_right (by decide)).trans ?_)
  refine (ev_aload_n dX5_copyFrom_76 rfl).trans ?_
  refine (ev_aload_n dX5_copyFrom_77 rfl).trans ?_
  refine (ev_getI2 dX5_copyFrom_78 f_5_31 rfl (v := (μ r1 3 o1 6)) ((mget_i (by decide)).trans ((mget_i (by decide)).trans ((mrget_a (by decide)).trans ((mrget_a (by decide)).trans ((mrget_a (by decide)).trans ((mrget_a (by decide)).trans (rfl)))))))).trans ((and_iff_right (by decide)).trans ?_)
  refine (ev_put dX5_copyFrom_81 f_5_31 rfl (by decide)).trans ((and_iff_right (by decide)).trans ?_)
  refine (ev_aload_n dX5_copyFrom_84 rfl).trans ?_
  refine (ev_aload_n dX5_copyFrom_85 rfl).trans ?_
  refine (ev_getI2 dX5_copyFrom_86 f_5_34 rfl (v := (μ r1 3 o1 7)) ((mget_i (by decide)).trans ((mget_i (by decide)).trans ((mget_i (by decide)).trans ((mrget_a (by decide)).trans ((mrget_a (by decide)).trans ((mrget_a (by decide)).trans ((mrget_a (by decide)).trans (rfl))))))))).trans ((and_iff_right (by decide)).trans ?_)
  refine (ev_put dX5_copyFrom_89 f_5_34 rfl (by decide)).trans ((and_iff_right (by decide)).trans ?_)
  exact ev_return dX5_copyFrom_92 rfl
/-! X6_add -/
theorem B43_0 {C : Nat → List AV → Mem → Res → Prop} {μ : Mem} {res : Res} {x1 x2 x3 : Int32} {r0 o0 : Nat} : EvE C 43 0 [some (.inr (r0, 28, o0)), some (.inl x1), some (.inl x2), some (.inl x3)] [] μ res ↔ ((40 ≤ (μ r0 28 o0 3) → EvE C 43 49 [some (.inr (r0, 28, o0)), some (.inl x1), some (.inl x2), some (.inl x3)] [] μ res) ∧ (¬ (40 ≤ (μ r0 28 o0 3)) → vp_in (μ r0 28 o0 3) 40 ∧ vp_in (μ r0 28 o0 3) 40 ∧ vp_in (μ r0 28 o0 3) 40 ∧ EvE C 43 49 [some (.inr (r0, 28, o0)), some (.inl x1), some (.inl x2), some (.inl x3)] [] (mset (mset (mset (mset μ r0 29 o0 (μ r0 28 o0 3).toNatClampNeg x1) r0 30 o0 (μ r0 28 o0 3).toNatClampNeg x2) r0 31 o0 (μ r0 28 o0 3).toNatClampNeg x3) r0 28 o0 3 ((μ r0 28 o0 3) + 1)) res)) := by
  refine (ev_aload_n dX6_add_0 rfl).trans ?_
  refine (ev_getI2 dX6_add_1 f_6_21 rfl (v := (μ r0 28 o0 3)) (rfl)).trans ((and_iff_right (by decide)).trans ?_)
  refine (ev_bipush dX6_add_4 (w := 40) (by decide)).trans ?_
  refine (ev_icmp dX6_add_6 (t := 49) (by decide)).trans (and_congr (imp_congr Iff.rfl ?_) (imp_congr Iff.rfl ?_))
  · exact Iff.rfl
  · refine (ev_aload_n dX6_add_9 rfl).trans ?_
    refine (ev_getR dX6_add_10 f_6_9 rfl).trans ((and_iff_right (by decide)).trans ?_)
    refine (ev_aload_n dX6_add_13 rfl).trans ?_
    refine (ev_getI2 dX6_add_14 f_6_21 rfl (v := (μ r0 28 o0 3)) (rfl)).trans ((and_iff_right (by decide)).trans ?_)
    refine (ev_iload_n dX6_add_17 rfl).trans ?_
    refine (ev_iast dX6_add_18 (by decide)).trans (and_congr_right fun _ => ?_)
    refine (ev_aload_n dX6_add_19 rfl).trans ?_
    refine (ev_getR dX6_add_20 f_6_15 rfl).trans ((and_iff_right (by decide)).trans ?_)
    refine (ev_aload_n dX6_add_23 rfl).trans ?_
    refine (ev_getI2 dX6_add_24 f_6_21 rfl (v := (μ r0 28 o0 3)) ((mget_a (by decide)).trans (rfl))).trans ((and_iff_right (by decide)).trans ?_)
    refine (ev_iload_n dX6_add_27 rfl).trans ?_
    refine (ev_iast dX6_add_28 (by decide)).trans (and_congr_right fun _ => ?_)
    refine (ev_aload_n dX6_add_29 rfl).trans ?_
    refine (ev_getR dX6_add_30 f_6_18 rfl).trans ((and_iff_right (by decide)).trans ?_)
    refine (ev_aload_n dX6_add_33 rfl).trans ?_
    refine (ev_getI2 dX6_add_34 f_6_21 rfl (v := (μ r0 28 o0 3)) ((mget_a (by decide)).trans ((mget_a (by decide)).trans (rfl)))).trans ((and_iff_right (by decide)).trans ?_)
    refine (ev_iload_n dX6_add_37 rfl).trans ?_
    refine (ev_iast dX6_add_38 (by decide)).trans (and_congr_right fun _ => ?_)
    refine (ev_aload_n dX6_add_39 rfl).trans ?_
    refine (ev_dup dX6_add_40).trans ?_
    refine (ev_getI2 dX6_add_41 f_6_21 rfl (v := (μ r0 28 o0 3)) ((mget_a (by decide)).trans ((mget_a (by decide)).trans ((mget_a (by decide)).trans (rfl))))).trans ((and_iff_right (by decide)).trans ?_)
    refine (ev_iconst dX6_add_44 (w := 1) (by decide)).trans ?_
    refine (ev_iadd dX6_add_45).trans ?_
    refine (ev_put dX6_add_46 f_6_21 rfl (by decide)).trans ((and_iff_right (by decide)).trans ?_)
    exact Iff.rfl
theorem B43_49 {C : Nat → List AV → Mem → Res → Prop} {μ : Mem} {res : Res} {x1 x2 x3 : Int32} {r0 o0 : Nat} : EvE C 43 49 [some (.inr (r0, 28, o0)), some (.inl x1), some (.inl x2), some (.inl x3)] [] μ res ↔ res = (none, μ) := by
  exact ev_return dX6_add_49 rfl
/-! X6_manyFor -/
theorem B44_0 {C : Nat → List AV → Mem → Res → Prop} {μ : Mem} {res : Res} {x1 x2 : Int32} {r0 o0 : Nat} : EvE C 44 0 [some (.inr (r0, 28, o0)), some (.inl x1), some (.inl x2)] [] μ res ↔ ((x2 < 0 → EvE C 44 31 [some (.inr (r0, 28, o0)), some (.inl x1), some (.inl x2)] [] μ res) ∧ (¬ (x2 < 0) → (((μ r0 28 o0 3) ≤ x2 → EvE C 44 31 [some (.inr (r0, 28, o0)), some (.inl x1), some (.inl x2)] [] μ res) ∧ (¬ ((μ r0 28 o0 3) ≤ x2) → vp_in x2 40 ∧ ((¬ (μ r0 29 o0 x2.toNatClampNeg) = x1 → EvE C 44 31 [some (.inr (r0, 28, o0)), some (.inl x1), some (.inl x2)] [] μ res) ∧ (¬ (¬ (μ r0 29 o0 x2.toNatClampNeg) = x1) → vp_in x2 40 ∧ EvE C 44 32 [some (.inr (r0, 28, o0)), some (.inl x1), some (.inl x2)] [.inl (μ r0 31 o0 x2.toNatClampNeg)] μ res)))))) := by
  refine (ev_iload_n dX6_manyFor_0 rfl).trans ?_
  refine (ev_ifc dX6_manyFor_1 (t := 31) (by decide)).trans (and_congr (imp_congr Iff.rfl ?_) (imp_congr Iff.rfl ?_))
  · exact Iff.rfl
  · refine (ev_iload_n dX6_manyFor_4 rfl).trans ?_
    refine (ev_aload_n dX6_manyFor_5 rfl).trans ?_
    refine (ev_getI2 dX6_manyFor_6 f_6_21 rfl (v := (μ r0 28 o0 3)) (rfl)).trans ((and_iff_right (by decide)).trans ?_)
    refine (ev_icmp dX6_manyFor_9 (t := 31) (by decide)).trans (and_congr (imp_congr Iff.rfl ?_) (imp_congr Iff.rfl ?_))
    · exact Iff.rfl
    · refine (ev_aload_n dX6_manyFor_12 rfl).trans ?_
      refine (ev_getR dX6_manyFor_13 f_6_9 rfl).trans ((and_iff_right (by decide)).trans ?_)
      refine (ev_iload_n dX6_manyFor_16 rfl).trans ?_
      refine (ev_iald2 dX6_manyFor_17 (by decide) (v := (μ r0 29 o0 x2.toNatClampNeg)) (rfl)).trans (and_congr_right fun _ => ?_)
      refine (ev_iload_n dX6_manyFor_18 rfl).trans ?_
      refine (ev_icmp dX6_manyFor_19 (t := 31) (by decide)).trans (and_congr (imp_congr Iff.rfl ?_) (imp_congr Iff.rfl ?_))
      · exact Iff.rfl
      · refine (ev_aload_n dX6_manyFor_22 rfl).trans ?_
        refine (ev_getR dX6_manyFor_23 f_6_18 rfl).trans ((and_iff_right (by decide)).trans ?_)
        refine (ev_iload_n dX6_manyFor_26 rfl).trans ?_
        refine (ev_iald2 dX6_manyFor_27 (by decide) (v := (μ r0 31 o0 x2.toNatClampNeg)) (rfl)).trans (and_congr_right fun _ => ?_)
        refine (ev_goto dX6_manyFor_28 (t := 32) (by decide)).trans ?_
        exact Iff.rfl
theorem B44_31 {C : Nat → List AV → Mem → Res → Prop} {μ : Mem} {res : Res} {x1 x2 : Int32} {r0 o0 : Nat} : EvE C 44 31 [some (.inr (r0, 28, o0)), some (.inl x1), some (.inl x2)] [] μ res ↔ EvE C 44 32 [some (.inr (r0, 28, o0)), some (.inl x1), some (.inl x2)] [.inl 0] μ res := by
  refine (ev_iconst dX6_manyFor_31 (w := 0) (by decide)).trans ?_
  exact Iff.rfl
theorem B44_32 {C : Nat → List AV → Mem → Res → Prop} {μ : Mem} {res : Res} {x1 x2 w0 : Int32} {r0 o0 : Nat} : EvE C 44 32 [some (.inr (r0, 28, o0)), some (.inl x1), some (.inl x2)] [.inl w0] μ res ↔ res = (some w0, μ) := by
  exact ev_ireturn dX6_manyFor_32 rfl
/-! X6_forget -/
theorem B45_0 {C : Nat → List AV → Mem → Res → Prop} {μ : Mem} {res : Res} {x1 : Int32} {r0 o0 : Nat} : EvE C 45 0 [some (.inr (r0, 28, o0)), some (.inl x1), none, none] [] μ res ↔ EvE C 45 4 [some (.inr (r0, 28, o0)), some (.inl x1), some (.inl 0), some (.inl 0)] [] μ res := by
  refine (ev_iconst dX6_forget_0 (w := 0) (by decide)).trans ?_
  refine (ev_istore_n dX6_forget_1 (Nat.le_of_ble_eq_true rfl) rfl).trans ?_
  refine (ev_iconst dX6_forget_2 (w := 0) (by decide)).trans ?_
  refine (ev_istore_n dX6_forget_3 (Nat.le_of_ble_eq_true rfl) rfl).trans ?_
  exact Iff.rfl
theorem B45_4 {C : Nat → List AV → Mem → Res → Prop} {μ : Mem} {res : Res} {x1 x2 x3 : Int32} {r0 o0 : Nat} : EvE C 45 4 [some (.inr (r0, 28, o0)), some (.inl x1), some (.inl x2), some (.inl x3)] [] μ res ↔ (((μ r0 28 o0 3) ≤ x3 → res = (none, (mset μ r0 28 o0 3 x2))) ∧ (¬ ((μ r0 28 o0 3) ≤ x3) → vp_in x3 40 ∧ (((μ r0 29 o0 x3.toNatClampNeg) = x1 → EvE C 45 61 [some (.inr (r0, 28, o0)), some (.inl x1), some (.inl x2), some (.inl x3)] [] μ res) ∧ (¬ ((μ r0 29 o0 x3.toNatClampNeg) = x1) → vp_in x3 40 ∧ vp_in x2 40 ∧ vp_in x3 40 ∧ vp_in x2 40 ∧ vp_in x3 40 ∧ vp_in x2 40 ∧ EvE C 45 61 [some (.inr (r0, 28, o0)), some (.inl x1), some (.inl (x2 + 1)), some (.inl x3)] [] (mset (mset (mset μ r0 29 o0 x2.toNatClampNeg (μ r0 29 o0 x3.toNatClampNeg)) r0 30 o0 x2.toNatClampNeg (μ r0 30 o0 x3.toNatClampNeg)) r0 31 o0 x2.toNatClampNeg (μ r0 31 o0 x3.toNatClampNeg)) res)))) := by
  refine (ev_iload_n dX6_forget_4 rfl).trans ?_
  refine (ev_aload_n dX6_forget_5 rfl).trans ?_
  refine (ev_getI2 dX6_forget_6 f_6_21 rfl (v := (μ r0 28 o0 3)) (rfl)).trans ((and_iff_right (by decide)).trans ?_)
  refine (ev_icmp dX6_forget_9 (t := 67) (by decide)).trans (and_congr (imp_congr Iff.rfl ?_) (imp_congr Iff.rfl ?_))
  · refine (ev_aload_n dX6_forget_67 rfl).trans ?_
    refine (ev_iload_n dX6_forget_68 rfl).trans ?_
    refine (ev_put dX6_forget_69 f_6_21 rfl (by decide)).trans ((and_iff_right (by decide)).trans ?_)
    exact ev_return dX6_forget_72 rfl
  · refine (ev_aload_n dX6_forget_12 rfl).trans ?_
    refine (ev_getR dX6_forget_13 f_6_9 rfl).trans ((and_iff_right (by decide)).trans ?_)
    refine (ev_iload_n dX6_forget_16 rfl).trans ?_
    refine (ev_iald2 dX6_forget_17 (by decide) (v := (μ r0 29 o0 x3.toNatClampNeg)) (rfl)).trans (and_congr_right fun _ => ?_)
    refine (ev_iload_n dX6_forget_18 rfl).trans ?_
    refine (ev_icmp dX6_forget_19 (t := 61) (by decide)).trans (and_congr (imp_congr Iff.rfl ?_) (imp_congr Iff.rfl ?_))
    · exact Iff.rfl
    · refine (ev_aload_n dX6_forget_22 rfl).trans ?_
      refine (ev_getR dX6_forget_23 f_6_9 rfl).trans ((and_iff_right (by decide)).trans ?_)
      refine (ev_iload_n dX6_forget_26 rfl).trans ?_
      refine (ev_aload_n dX6_forget_27 rfl).trans ?_
      refine (ev_getR dX6_forget_28 f_6_9 rfl).trans ((and_iff_right (by decide)).trans ?_)
      refine (ev_iload_n dX6_forget_31 rfl).trans ?_
      refine (ev_iald2 dX6_forget_32 (by decide) (v := (μ r0 29 o0 x3.toNatClampNeg)) (rfl)).trans (and_congr_right fun _ => ?_)
      refine (ev_iast dX6_forget_33 (by decide)).trans (and_congr_right fun _ => ?_)
      refine (ev_aload_n dX6_forget_34 rfl).trans ?_
      refine (ev_getR dX6_forget_35 f_6_15 rfl).trans ((and_iff_right (by decide)).trans ?_)
      refine (ev_iload_n dX6_forget_38 rfl).trans ?_
      refine (ev_aload_n dX6_forget_39 rfl).trans ?_
      refine (ev_getR dX6_forget_40 f_6_15 rfl).trans ((and_iff_right (by decide)).trans ?_)
      refine (ev_iload_n dX6_forget_43 rfl).trans ?_
      refine (ev_iald2 dX6_forget_44 (by decide) (v := (μ r0 30 o0 x3.toNatClampNeg)) ((mget_a (by decide)).trans (rfl))).trans (and_congr_right fun _ => ?_)
      refine (ev_iast dX6_forget_45 (by decide)).trans (and_congr_right fun _ => ?_)
      refine (ev_aload_n dX6_forget_46 rfl).trans ?_
      refine (ev_getR dX6_forget_47 f_6_18 rfl).trans ((and_iff_right (by decide)).trans ?_)
      refine (ev_iload_n dX6_forget_50 rfl).trans ?_
      refine (ev_aload_n dX6_forget_51 rfl).trans ?_
      refine (ev_getR dX6_forget_52 f_6_18 rfl).trans ((and_iff_right (by decide)).trans ?_)
      refine (ev_iload_n dX6_forget_55 rfl).trans ?_
      refine (ev_iald2 dX6_forget_56 (by decide) (v := (μ r0 31 o0 x3.toNatClampNeg)) ((mget_a (by decide)).trans ((mget_a (by decide)).trans (rfl)))).trans (and_congr_right fun _ => ?_)
      refine (ev_iast dX6_forget_57 (by decide)).trans (and_congr_right fun _ => ?_)
      refine (ev_iinc dX6_forget_58 rfl (w := 1) (by decide) rfl).trans ?_
      exact Iff.rfl
theorem B45_61 {C : Nat → List AV → Mem → Res → Prop} {μ : Mem} {res : Res} {x1 x2 x3 : Int32} {r0 o0 : Nat} : EvE C 45 61 [some (.inr (r0, 28, o0)), some (.inl x1), some (.inl x2), some (.inl x3)] [] μ res ↔ EvE C 45 4 [some (.inr (r0, 28, o0)), some (.inl x1), some (.inl x2), some (.inl (x3 + 1))] [] μ res := by
  refine (ev_iinc dX6_forget_61 rfl (w := 1) (by decide) rfl).trans ?_
  refine (ev_goto dX6_forget_64 (t := 4) (by decide)).trans ?_
  exact Iff.rfl
/-! X7_service -/
theorem B46_0 {C : Nat → List AV → Mem → Res → Prop} {μ : Mem} {res : Res} {x1 x2 x3 : Int32} {r0 o0 : Nat} : EvE C 46 0 [some (.inr (r0, 0, o0)), some (.inl x1), some (.inl x2), some (.inl x3)] [] μ res ↔ ∃ v1 μ1, C 71 [.inl 7, .inl x1] μ (some v1, μ1) ∧ ((v1 = 0 → EvE C 46 27 [some (.inr (r0, 0, o0)), some (.inl x1), some (.inl x2), some (.inl x3)] [] μ1 res) ∧ (¬ (v1 = 0) → ∃ v2 μ2, C 71 [.inl 9, .inl x2] μ1 (some v2, μ2) ∧ ((v2 = 0 → EvE C 46 27 [some (.inr (r0, 0, o0)), some (.inl x1), some (.inl x2), some (.inl x3)] [] μ2 res) ∧ (¬ (v2 = 0) → ∃ v3 μ3, C 71 [.inl 8, .inl x3] μ2 (some v3, μ3) ∧ ((¬ v3 = 0 → (((μ3 (r0 + 1) 1 o0 1) < 6 → (((μ3 (r0 + 1) 1 o0 2) = 0 → ∃ v4 μ4, C 2 [.inr ((r0 + 1), 1, o0), .inl x1, .inl x2, .inl x3] μ3 (some v4, μ4) ∧ res = (some v4, μ4)) ∧ (¬ ((μ3 (r0 + 1) 1 o0 2) = 0) → res = (some (-3), μ3)))) ∧ (¬ ((μ3 (r0 + 1) 1 o0 1) < 6) → res = (some (-2), μ3)))) ∧ (¬ (¬ v3 = 0) → EvE C 46 27 [some (.inr (r0, 0, o0)), some (.inl x1), some (.inl x2), some (.inl x3)] [] μ3 res)))))) := by
  refine (ev_bipush dX7_service_0 (w := 7) (by decide)).trans ?_
  refine (ev_iload_n dX7_service_2 rfl).trans ?_
  refine (ev_staI dX7_service_3 c_7_23 (by decide) (As := [.inl 7, .inl x1]) rfl rfl (by decide) rfl (Nat.le_of_ble_eq_true rfl)).trans (exists_congr fun v1 => exists_congr fun μ1 => and_congr_right fun _ => ?_)
  refine (ev_ifc dX7_service_6 (t := 27) (by decide)).trans (and_congr (imp_congr Iff.rfl ?_) (imp_congr Iff.rfl ?_))
  · exact Iff.rfl
  · refine (ev_bipush dX7_service_9 (w := 9) (by decide)).trans ?_
    refine (ev_iload_n dX7_service_11 rfl).trans ?_
    refine (ev_staI dX7_service_12 c_7_23 (by decide) (As := [.inl 9, .inl x2]) rfl rfl (by decide) rfl (Nat.le_of_ble_eq_true rfl)).trans (exists_congr fun v2 => exists_congr fun μ2 => and_congr_right fun _ => ?_)
    refine (ev_ifc dX7_service_15 (t := 27) (by decide)).trans (and_congr (imp_congr Iff.rfl ?_) (imp_congr Iff.rfl ?_))
    · exact Iff.rfl
    · refine (ev_bipush dX7_service_18 (w := 8) (by decide)).trans ?_
      refine (ev_iload_n dX7_service_20 rfl).trans ?_
      refine (ev_staI dX7_service_21 c_7_23 (by decide) (As := [.inl 8, .inl x3]) rfl rfl (by decide) rfl (Nat.le_of_ble_eq_true rfl)).trans (exists_congr fun v3 => exists_congr fun μ3 => and_congr_right fun _ => ?_)
      refine (ev_ifc dX7_service_24 (t := 29) (by decide)).trans (and_congr (imp_congr Iff.rfl ?_) (imp_congr Iff.rfl ?_))
      · refine (ev_aload_n dX7_service_29 rfl).trans ?_
        refine (ev_getR dX7_service_30 f_7_10 rfl).trans ((and_iff_right (by decide)).trans ?_)
        refine (ev_getI2 dX7_service_33 f_7_27 rfl (v := (μ3 (r0 + 1) 1 o0 1)) (rfl)).trans ((and_iff_right (by decide)).trans ?_)
        refine (ev_bipush dX7_service_36 (w := 6) (by decide)).trans ?_
        refine (ev_icmp dX7_service_38 (t := 44) (by decide)).trans (and_congr (imp_congr Iff.rfl ?_) (imp_congr Iff.rfl ?_))
        · refine (ev_aload_n dX7_service_44 rfl).trans ?_
          refine (ev_getR dX7_service_45 f_7_10 rfl).trans ((and_iff_right (by decide)).trans ?_)
          refine (ev_getI2 dX7_service_48 f_7_30 rfl (v := (μ3 (r0 + 1) 1 o0 2)) (rfl)).trans ((and_iff_right (by decide)).trans ?_)
          refine (ev_ifc dX7_service_51 (t := 57) (by decide)).trans (and_congr (imp_congr Iff.rfl ?_) (imp_congr Iff.rfl ?_))
          · refine (ev_aload_n dX7_service_57 rfl).trans ?_
            refine (ev_getR dX7_service_58 f_7_10 rfl).trans ((and_iff_right (by decide)).trans ?_)
            refine (ev_iload_n dX7_service_61 rfl).trans ?_
            refine (ev_iload_n dX7_service_62 rfl).trans ?_
            refine (ev_iload_n dX7_service_63 rfl).trans ?_
            refine (ev_virI dX7_service_64 c_7_33 (by decide) (As := [.inl x1, .inl x2, .inl x3]) rfl rfl (by decide) rfl (Nat.le_of_ble_eq_true rfl)).trans ((and_iff_right (by decide)).trans (exists_congr fun v4 => exists_congr fun μ4 => and_congr_right fun _ => ?_))
            exact ev_ireturn dX7_service_67 rfl
          · refine (ev_bipush dX7_service_54 (w := (-3)) (by decide)).trans ?_
            exact ev_ireturn dX7_service_56 rfl
        · refine (ev_bipush dX7_service_41 (w := (-2)) (by decide)).trans ?_
          exact ev_ireturn dX7_service_43 rfl
      · exact Iff.rfl
theorem B46_27 {C : Nat → List AV → Mem → Res → Prop} {μ : Mem} {res : Res} {x1 x2 x3 : Int32} {r0 o0 : Nat} : EvE C 46 27 [some (.inr (r0, 0, o0)), some (.inl x1), some (.inl x2), some (.inl x3)] [] μ res ↔ res = (some (-1), μ) := by
  refine (ev_iconst dX7_service_27 (w := (-1)) (by decide)).trans ?_
  exact ev_ireturn dX7_service_28 rfl
/-! X7_rule -/
theorem B47_0 {C : Nat → List AV → Mem → Res → Prop} {μ : Mem} {res : Res} {x1 x2 x3 : Int32} {r0 o0 : Nat} : EvE C 47 0 [some (.inr (r0, 0, o0)), some (.inl x1), some (.inl x2), some (.inl x3), none] [] μ res ↔ ∃ v1 μ1, C 68 [.inr (r0, 0, o0), .inl x1] μ (some v1, μ1) ∧ ((v1 = 0 → EvE C 47 26 [some (.inr (r0, 0, o0)), some (.inl x1), some (.inl x2), some (.inl x3), none] [] μ1 res) ∧ (¬ (v1 = 0) → ∃ v2 μ2, C 72 [.inl x2, .inl 0, .inl 8] μ1 (some v2, μ2) ∧ ((v2 = 0 → EvE C 47 26 [some (.inr (r0, 0, o0)), some (.inl x1), some (.inl x2), some (.inl x3), none] [] μ2 res) ∧ (¬ (v2 = 0) → ∃ v3 μ3, C 71 [.inl x2, .inl x3] μ2 (some v3, μ3) ∧ ((¬ v3 = 0 → vp_in x1 6 ∧ vp_in x2 10 ∧ vp_in x1 6 ∧ vp_in x2 10 ∧ res = (some (μ3 (r0 + 1) 4 x1.toNatClampNeg x2.toNatClampNeg), (mset μ3 (r0 + 1) 4 x1.toNatClampNeg x2.toNatClampNeg x3))) ∧ (¬ (¬ v3 = 0) → EvE C 47 26 [some (.inr (r0, 0, o0)), some (.inl x1), some (.inl x2), some (.inl x3), none] [] μ3 res)))))) := by
  refine (ev_aload_n dX7_rule_0 rfl).trans ?_
  refine (ev_iload_n dX7_rule_1 rfl).trans ?_
  refine (ev_virI dX7_rule_2 c_7_37 (by decide) (As := [.inl x1]) rfl rfl (by decide) rfl (Nat.le_of_ble_eq_true rfl)).trans ((and_iff_right (by decide)).trans (exists_congr fun v1 => exists_congr fun μ1 => and_congr_right fun _ => ?_))
  refine (ev_ifc dX7_rule_5 (t := 26) (by decide)).trans (and_congr (imp_congr Iff.rfl ?_) (imp_congr Iff.rfl ?_))
  · exact Iff.rfl
  · refine (ev_iload_n dX7_rule_8 rfl).trans ?_
    refine (ev_iconst dX7_rule_9 (w := 0) (by decide)).trans ?_
    refine (ev_bipush dX7_rule_10 (w := 8) (by decide)).trans ?_
    refine (ev_staI dX7_rule_12 c_7_41 (by decide) (As := [.inl x2, .inl 0, .inl 8]) rfl rfl (by decide) rfl (Nat.le_of_ble_eq_true rfl)).trans (exists_congr fun v2 => exists_congr fun μ2 => and_congr_right fun _ => ?_)
    refine (ev_ifc dX7_rule_15 (t := 26) (by decide)).trans (and_congr (imp_congr Iff.rfl ?_) (imp_congr Iff.rfl ?_))
    · exact Iff.rfl
    · refine (ev_iload_n dX7_rule_18 rfl).trans ?_
      refine (ev_iload_n dX7_rule_19 rfl).trans ?_
      refine (ev_staI dX7_rule_20 c_7_23 (by decide) (As := [.inl x2, .inl x3]) rfl rfl (by decide) rfl (Nat.le_of_ble_eq_true rfl)).trans (exists_congr fun v3 => exists_congr fun μ3 => and_congr_right fun _ => ?_)
      refine (ev_ifc dX7_rule_23 (t := 28) (by decide)).trans (and_congr (imp_congr Iff.rfl ?_) (imp_congr Iff.rfl ?_))
      · refine (ev_aload_n dX7_rule_28 rfl).trans ?_
        refine (ev_getR dX7_rule_29 f_7_10 rfl).trans ((and_iff_right (by decide)).trans ?_)
        refine (ev_getR dX7_rule_32 f_7_45 rfl).trans ((and_iff_right (by decide)).trans ?_)
        refine (ev_iload_n dX7_rule_35 rfl).trans ?_
        refine (ev_aald dX7_rule_36 (by decide)).trans (and_congr_right fun _ => ?_)
        refine (ev_getR dX7_rule_37 f_7_49 rfl).trans ((and_iff_right (by decide)).trans ?_)
        refine (ev_iload_n dX7_rule_40 rfl).trans ?_
        refine (ev_iald2 dX7_rule_41 (by decide) (v := (μ3 (r0 + 1) 4 x1.toNatClampNeg x2.toNatClampNeg)) (rfl)).trans (and_congr_right fun _ => ?_)
        refine (ev_istore dX7_rule_42 (Nat.le_of_ble_eq_true rfl) rfl).trans ?_
        refine (ev_aload_n dX7_rule_44 rfl).trans ?_
        refine (ev_getR dX7_rule_45 f_7_10 rfl).trans ((and_iff_right (by decide)).trans ?_)
        refine (ev_getR dX7_rule_48 f_7_45 rfl).trans ((and_iff_right (by decide)).trans ?_)
        refine (ev_iload_n dX7_rule_51 rfl).trans ?_
        refine (ev_aald dX7_rule_52 (by decide)).trans (and_congr_right fun _ => ?_)
        refine (ev_getR dX7_rule_53 f_7_49 rfl).trans ((and_iff_right (by decide)).trans ?_)
        refine (ev_iload_n dX7_rule_56 rfl).trans ?_
        refine (ev_iload_n dX7_rule_57 rfl).trans ?_
        refine (ev_iast dX7_rule_58 (by decide)).trans (and_congr_right fun _ => ?_)
        refine (ev_iload dX7_rule_59 rfl).trans ?_
        exact ev_ireturn dX7_rule_61 rfl
      · exact Iff.rfl
theorem B47_26 {C : Nat → List AV → Mem → Res → Prop} {μ : Mem} {res : Res} {x1 x2 x3 : Int32} {r0 o0 : Nat} {u4 : Option AV} : EvE C 47 26 [some (.inr (r0, 0, o0)), some (.inl x1), some (.inl x2), some (.inl x3), u4] [] μ res ↔ res = (some (-1), μ) := by
  refine (ev_iconst dX7_rule_26 (w := (-1)) (by decide)).trans ?_
  exact ev_ireturn dX7_rule_27 rfl
/-! X7_guests -/
theorem B48_0 {C : Nat → List AV → Mem → Res → Prop} {μ : Mem} {res : Res} {x1 x2 : Int32} {r0 o0 : Nat} : EvE C 48 0 [some (.inr (r0, 0, o0)), some (.inl x1), some (.inl x2), none] [] μ res ↔ ((¬ x1 = 0 → EvE C 48 39 [some (.inr (r0, 0, o0)), some (.inl x1), some (.inl x2), none] [] μ res) ∧ (¬ (¬ x1 = 0) → ∃ v1 μ1, C 72 [.inl x2, .inl 1, .inl 60] μ (some v1, μ1) ∧ ((v1 = 0 → EvE C 48 39 [some (.inr (r0, 0, o0)), some (.inl x1), some (.inl x2), none] [] μ1 res) ∧ (¬ (v1 = 0) → EvE C 48 80 [some (.inr (r0, 0, o0)), some (.inl x1), some (.inl x2), some (.inl (μ1 (r0 + 1) 20 o0 5))] [] (mset μ1 (r0 + 1) 20 o0 5 x2) res)))) := by
  refine (ev_iload_n dX7_guests_0 rfl).trans ?_
  refine (ev_ifc dX7_guests_1 (t := 39) (by decide)).trans (and_congr (imp_congr Iff.rfl ?_) (imp_congr Iff.rfl ?_))
  · exact Iff.rfl
  · refine (ev_iload_n dX7_guests_4 rfl).trans ?_
    refine (ev_iconst dX7_guests_5 (w := 1) (by decide)).trans ?_
    refine (ev_bipush dX7_guests_6 (w := 60) (by decide)).trans ?_
    refine (ev_staI dX7_guests_8 c_7_41 (by decide) (As := [.inl x2, .inl 1, .inl 60]) rfl rfl (by decide) rfl (Nat.le_of_ble_eq_true rfl)).trans (exists_congr fun v1 => exists_congr fun μ1 => and_congr_right fun _ => ?_)
    refine (ev_ifc dX7_guests_11 (t := 39) (by decide)).trans (and_congr (imp_congr Iff.rfl ?_) (imp_congr Iff.rfl ?_))
    · exact Iff.rfl
    · refine (ev_aload_n dX7_guests_14 rfl).trans ?_
      refine (ev_getR dX7_guests_15 f_7_10 rfl).trans ((and_iff_right (by decide)).trans ?_)
      refine (ev_getR dX7_guests_18 f_7_55 rfl).trans ((and_iff_right (by decide)).trans ?_)
      refine (ev_getI2 dX7_guests_21 f_7_59 rfl (v := (μ1 (r0 + 1) 20 o0 5)) (rfl)).trans ((and_iff_right (by decide)).trans ?_)
      refine (ev_istore_n dX7_guests_24 (Nat.le_of_ble_eq_true rfl) rfl).trans ?_
      refine (ev_aload_n dX7_guests_25 rfl).trans ?_
      refine (ev_getR dX7_guests_26 f_7_10 rfl).trans ((and_iff_right (by decide)).trans ?_)
      refine (ev_getR dX7_guests_29 f_7_55 rfl).trans ((and_iff_right (by decide)).trans ?_)
      refine (ev_iload_n dX7_guests_32 rfl).trans ?_
      refine (ev_put dX7_guests_33 f_7_59 rfl (by decide)).trans ((and_iff_right (by decide)).trans ?_)
      refine (ev_goto dX7_guests_36 (t := 80) (by decide)).trans ?_
      exact Iff.rfl
theorem B48_39 {C : Nat → List AV → Mem → Res → Prop} {μ : Mem} {res : Res} {x1 x2 : Int32} {r0 o0 : Nat} {u3 : Option AV} : EvE C 48 39 [some (.inr (r0, 0, o0)), some (.inl x1), some (.inl x2), u3] [] μ res ↔ ((¬ x1 = 1 → EvE C 48 78 [some (.inr (r0, 0, o0)), some (.inl x1), some (.inl x2), u3] [] μ res) ∧ (¬ (¬ x1 = 1) → ∃ v1 μ1, C 72 [.inl x2, .inl 0, .inl 3] μ (some v1, μ1) ∧ ((v1 = 0 → EvE C 48 78 [some (.inr (r0, 0, o0)), some (.inl x1), some (.inl x2), u3] [] μ1 res) ∧ (¬ (v1 = 0) → EvE C 48 80 [some (.inr (r0, 0, o0)), some (.inl x1), some (.inl x2), some (.inl (μ1 (r0 + 1) 20 o0 6))] [] (mset μ1 (r0 + 1) 20 o0 6 x2) res)))) := by
  refine (ev_iload_n dX7_guests_39 rfl).trans ?_
  refine (ev_iconst dX7_guests_40 (w := 1) (by decide)).trans ?_
  refine (ev_icmp dX7_guests_41 (t := 78) (by decide)).trans (and_congr (imp_congr Iff.rfl ?_) (imp_congr Iff.rfl ?_))
  · exact Iff.rfl
  · refine (ev_iload_n dX7_guests_44 rfl).trans ?_
    refine (ev_iconst dX7_guests_45 (w := 0) (by decide)).trans ?_
    refine (ev_iconst dX7_guests_46 (w := 3) (by decide)).trans ?_
    refine (ev_staI dX7_guests_47 c_7_41 (by decide) (As := [.inl x2, .inl 0, .inl 3]) rfl rfl (by decide) rfl (Nat.le_of_ble_eq_true rfl)).trans (exists_congr fun v1 => exists_congr fun μ1 => and_congr_right fun _ => ?_)
    refine (ev_ifc dX7_guests_50 (t := 78) (by decide)).trans (and_congr (imp_congr Iff.rfl ?_) (imp_congr Iff.rfl ?_))
    · exact Iff.rfl
    · refine (ev_aload_n dX7_guests_53 rfl).trans ?_
      refine (ev_getR dX7_guests_54 f_7_10 rfl).trans ((and_iff_right (by decide)).trans ?_)
      refine (ev_getR dX7_guests_57 f_7_55 rfl).trans ((and_iff_right (by decide)).trans ?_)
      refine (ev_getI2 dX7_guests_60 f_7_64 rfl (v := (μ1 (r0 + 1) 20 o0 6)) (rfl)).trans ((and_iff_right (by decide)).trans ?_)
      refine (ev_istore_n dX7_guests_63 (Nat.le_of_ble_eq_true rfl) rfl).trans ?_
      refine (ev_aload_n dX7_guests_64 rfl).trans ?_
      refine (ev_getR dX7_guests_65 f_7_10 rfl).trans ((and_iff_right (by decide)).trans ?_)
      refine (ev_getR dX7_guests_68 f_7_55 rfl).trans ((and_iff_right (by decide)).trans ?_)
      refine (ev_iload_n dX7_guests_71 rfl).trans ?_
      refine (ev_put dX7_guests_72 f_7_64 rfl (by decide)).trans ((and_iff_right (by decide)).trans ?_)
      refine (ev_goto dX7_guests_75 (t := 80) (by decide)).trans ?_
      exact Iff.rfl
theorem B48_78 {C : Nat → List AV → Mem → Res → Prop} {μ : Mem} {res : Res} {x1 x2 : Int32} {r0 o0 : Nat} {u3 : Option AV} : EvE C 48 78 [some (.inr (r0, 0, o0)), some (.inl x1), some (.inl x2), u3] [] μ res ↔ EvE C 48 80 [some (.inr (r0, 0, o0)), some (.inl x1), some (.inl x2), some (.inl (-1))] [] μ res := by
  refine (ev_iconst dX7_guests_78 (w := (-1)) (by decide)).trans ?_
  refine (ev_istore_n dX7_guests_79 (Nat.le_of_ble_eq_true rfl) rfl).trans ?_
  exact Iff.rfl
theorem B48_80 {C : Nat → List AV → Mem → Res → Prop} {μ : Mem} {res : Res} {x1 x2 x3 : Int32} {r0 o0 : Nat} : EvE C 48 80 [some (.inr (r0, 0, o0)), some (.inl x1), some (.inl x2), some (.inl x3)] [] μ res ↔ res = (some x3, μ) := by
  refine (ev_iload_n dX7_guests_80 rfl).trans ?_
  exact ev_ireturn dX7_guests_81 rfl
/-! X7_crowd -/
theorem B49_0 {C : Nat → List AV → Mem → Res → Prop} {μ : Mem} {res : Res} {x1 x2 x3 : Int32} {r0 o0 : Nat} : EvE C 49 0 [some (.inr (r0, 0, o0)), some (.inl x1), some (.inl x2), some (.inl x3)] [] μ res ↔ ((x1 ≤ (μ (r0 + 1) 1 o0 2) → EvE C 49 34 [some (.inr (r0, 0, o0)), some (.inl x1), some (.inl x2), some (.inl x3)] [] μ res) ∧ (¬ (x1 ≤ (μ (r0 + 1) 1 o0 2)) → ((100000 < x1 → EvE C 49 34 [some (.inr (r0, 0, o0)), some (.inl x1), some (.inl x2), some (.inl x3)] [] μ res) ∧ (¬ (100000 < x1) → ∃ v1 μ1, C 69 [.inl x2] μ (some v1, μ1) ∧ ((v1 = 0 → EvE C 49 34 [some (.inr (r0, 0, o0)), some (.inl x1), some (.inl x2), some (.inl x3)] [] μ1 res) ∧ (¬ (v1 = 0) → ∃ v2 μ2, C 72 [.inl x3, .inl 1, .inl 30] μ1 (some v2, μ2) ∧ ((¬ v2 = 0 → (((μ2 (r0 + 1) 28 o0 3) < 40 → ∃ μ3, C 43 [.inr ((r0 + 1), 28, o0), .inl x1, .inl x2, .inl x3] μ2 (none, μ3) ∧ res = (some (μ3 (r0 + 1) 28 o0 3), μ3)) ∧ (¬ ((μ2 (r0 + 1) 28 o0 3) < 40) → res = (some (-2), μ2)))) ∧ (¬ (¬ v2 = 0) → EvE C 49 34 [some (.inr (r0, 0, o0)), some (.inl x1), some (.inl x2), some (.inl x3)] [] μ2 res)))))))) := by
  refine (ev_iload_n dX7_crowd_0 rfl).trans ?_
  refine (ev_aload_n dX7_crowd_1 rfl).trans ?_
  refine (ev_getR dX7_crowd_2 f_7_10 rfl).trans ((and_iff_right (by decide)).trans ?_)
  refine (ev_getI2 dX7_crowd_5 f_7_30 rfl (v := (μ (r0 + 1) 1 o0 2)) (rfl)).trans ((and_iff_right (by decide)).trans ?_)
  refine (ev_icmp dX7_crowd_8 (t := 34) (by decide)).trans (and_congr (imp_congr Iff.rfl ?_) (imp_congr Iff.rfl ?_))
  · exact Iff.rfl
  · refine (ev_iload_n dX7_crowd_11 rfl).trans ?_
    refine (ev_ldc dX7_crowd_12 (w := 100000) (by decide)).trans ?_
    refine (ev_icmp dX7_crowd_14 (t := 34) (by decide)).trans (and_congr (imp_congr Iff.rfl ?_) (imp_congr Iff.rfl ?_))
    · exact Iff.rfl
    · refine (ev_iload_n dX7_crowd_17 rfl).trans ?_
      refine (ev_staI dX7_crowd_18 c_7_68 (by decide) (As := [.inl x2]) rfl rfl (by decide) rfl (Nat.le_of_ble_eq_true rfl)).trans (exists_congr fun v1 => exists_congr fun μ1 => and_congr_right fun _ => ?_)
      refine (ev_ifc dX7_crowd_21 (t := 34) (by decide)).trans (and_congr (imp_congr Iff.rfl ?_) (imp_congr Iff.rfl ?_))
      · exact Iff.rfl
      · refine (ev_iload_n dX7_crowd_24 rfl).trans ?_
        refine (ev_iconst dX7_crowd_25 (w := 1) (by decide)).trans ?_
        refine (ev_bipush dX7_crowd_26 (w := 30) (by decide)).trans ?_
        refine (ev_staI dX7_crowd_28 c_7_41 (by decide) (As := [.inl x3, .inl 1, .inl 30]) rfl rfl (by decide) rfl (Nat.le_of_ble_eq_true rfl)).trans (exists_congr fun v2 => exists_congr fun μ2 => and_congr_right fun _ => ?_)
        refine (ev_ifc dX7_crowd_31 (t := 36) (by decide)).trans (and_congr (imp_congr Iff.rfl ?_) (imp_congr Iff.rfl ?_))
        · refine (ev_aload_n dX7_crowd_36 rfl).trans ?_
          refine (ev_getR dX7_crowd_37 f_7_10 rfl).trans ((and_iff_right (by decide)).trans ?_)
          refine (ev_getR dX7_crowd_40 f_7_71 rfl).trans ((and_iff_right (by decide)).trans ?_)
          refine (ev_getI2 dX7_crowd_43 f_7_75 rfl (v := (μ2 (r0 + 1) 28 o0 3)) (rfl)).trans ((and_iff_right (by decide)).trans ?_)
          refine (ev_bipush dX7_crowd_46 (w := 40) (by decide)).trans ?_
          refine (ev_icmp dX7_crowd_48 (t := 54) (by decide)).trans (and_congr (imp_congr Iff.rfl ?_) (imp_congr Iff.rfl ?_))
          · refine (ev_aload_n dX7_crowd_54 rfl).trans ?_
            refine (ev_getR dX7_crowd_55 f_7_10 rfl).trans ((and_iff_right (by decide)).trans ?_)
            refine (ev_getR dX7_crowd_58 f_7_71 rfl).trans ((and_iff_right (by decide)).trans ?_)
            refine (ev_iload_n dX7_crowd_61 rfl).trans ?_
            refine (ev_iload_n dX7_crowd_62 rfl).trans ?_
            refine (ev_iload_n dX7_crowd_63 rfl).trans ?_
            refine (ev_virV dX7_crowd_64 c_7_80 (by decide) (As := [.inl x1, .inl x2, .inl x3]) rfl rfl rfl rfl (Nat.le_of_ble_eq_true rfl)).trans ((and_iff_right (by decide)).trans (exists_congr fun μ3 => and_congr_right fun _ => ?_))
            refine (ev_aload_n dX7_crowd_67 rfl).trans ?_
            refine (ev_getR dX7_crowd_68 f_7_10 rfl).trans ((and_iff_right (by decide)).trans ?_)
            refine (ev_getR dX7_crowd_71 f_7_71 rfl).trans ((and_iff_right (by decide)).trans ?_)
            refine (ev_getI2 dX7_crowd_74 f_7_75 rfl (v := (μ3 (r0 + 1) 28 o0 3)) (rfl)).trans ((and_iff_right (by decide)).trans ?_)
            exact ev_ireturn dX7_crowd_77 rfl
          · refine (ev_bipush dX7_crowd_51 (w := (-2)) (by decide)).trans ?_
            exact ev_ireturn dX7_crowd_53 rfl
        · exact Iff.rfl
theorem B49_34 {C : Nat → List AV → Mem → Res → Prop} {μ : Mem} {res : Res} {x1 x2 x3 : Int32} {r0 o0 : Nat} : EvE C 49 34 [some (.inr (r0, 0, o0)), some (.inl x1), some (.inl x2), some (.inl x3)] [] μ res ↔ res = (some (-1), μ) := by
  refine (ev_iconst dX7_crowd_34 (w := (-1)) (by decide)).trans ?_
  exact ev_ireturn dX7_crowd_35 rfl
/-! X7_usual -/
theorem B50_0 {C : Nat → List AV → Mem → Res → Prop} {μ : Mem} {res : Res} {x1 : Int32} {r0 o0 : Nat} : EvE C 50 0 [some (.inr (r0, 0, o0)), some (.inl x1)] [] μ res ↔ ∃ v1 μ1, C 72 [.inl x1, .inl 1, .inl 12] μ (some v1, μ1) ∧ ((¬ v1 = 0 → ∃ μ2, C 34 [.inr ((r0 + 1), 32, o0), .inl x1] μ1 (none, μ2) ∧ res = (some 1, μ2)) ∧ (¬ (¬ v1 = 0) → res = (some (-1), μ1))) := by
  refine (ev_iload_n dX7_usual_0 rfl).trans ?_
  refine (ev_iconst dX7_usual_1 (w := 1) (by decide)).trans ?_
  refine (ev_bipush dX7_usual_2 (w := 12) (by decide)).trans ?_
  refine (ev_staI dX7_usual_4 c_7_41 (by decide) (As := [.inl x1, .inl 1, .inl 12]) rfl rfl (by decide) rfl (Nat.le_of_ble_eq_true rfl)).trans (exists_congr fun v1 => exists_congr fun μ1 => and_congr_right fun _ => ?_)
  refine (ev_ifc dX7_usual_7 (t := 12) (by decide)).trans (and_congr (imp_congr Iff.rfl ?_) (imp_congr Iff.rfl ?_))
  · refine (ev_aload_n dX7_usual_12 rfl).trans ?_
    refine (ev_getR dX7_usual_13 f_7_10 rfl).trans ((and_iff_right (by decide)).trans ?_)
    refine (ev_getR dX7_usual_16 f_7_84 rfl).trans ((and_iff_right (by decide)).trans ?_)
    refine (ev_iload_n dX7_usual_19 rfl).trans ?_
    refine (ev_virV dX7_usual_20 c_7_88 (by decide) (As := [.inl x1]) rfl rfl rfl rfl (Nat.le_of_ble_eq_true rfl)).trans ((and_iff_right (by decide)).trans (exists_congr fun μ2 => and_congr_right fun _ => ?_))
    refine (ev_iconst dX7_usual_23 (w := 1) (by decide)).trans ?_
    exact ev_ireturn dX7_usual_24 rfl
  · refine (ev_iconst dX7_usual_10 (w := (-1)) (by decide)).trans ?_
    exact ev_ireturn dX7_usual_11 rfl
/-! X7_place -/
theorem B51_0 {C : Nat → List AV → Mem → Res → Prop} {μ : Mem} {res : Res} {x1 x2 x3 : Int32} {r0 o0 : Nat} : EvE C 51 0 [some (.inr (r0, 0, o0)), some (.inl x1), some (.inl x2), some (.inl x3)] [] μ res ↔ ∃ v1 μ1, C 72 [.inl x1, .inl 0, .inl ((μ (r0 + 1) 32 o0 2) - 1)] μ (some v1, μ1) ∧ ((v1 = 0 → EvE C 51 36 [some (.inr (r0, 0, o0)), some (.inl x1), some (.inl x2), some (.inl x3)] [] μ1 res) ∧ (¬ (v1 = 0) → ∃ v2 μ2, C 69 [.inl x2] μ1 (some v2, μ2) ∧ ((v2 = 0 → EvE C 51 36 [some (.inr (r0, 0, o0)), some (.inl x1), some (.inl x2), some (.inl x3)] [] μ2 res) ∧ (¬ (v2 = 0) → ∃ v3 μ3, C 72 [.inl x3, .inl 0, .inl 5] μ2 (some v3, μ3) ∧ ((¬ v3 = 0 → vp_in x1 12 ∧ vp_in x1 12 ∧ res = (some 1, (mset (mset μ3 (r0 + 1) 33 o0 x1.toNatClampNeg x2) (r0 + 1) 34 o0 x1.toNatClampNeg x3))) ∧ (¬ (¬ v3 = 0) → EvE C 51 36 [some (.inr (r0, 0, o0)), some (.inl x1), some (.inl x2), some (.inl x3)] [] μ3 res)))))) := by
  refine (ev_iload_n dX7_place_0 rfl).trans ?_
  refine (ev_iconst dX7_place_1 (w := 0) (by decide)).trans ?_
  refine (ev_aload_n dX7_place_2 rfl).trans ?_
  refine (ev_getR dX7_place_3 f_7_10 rfl).trans ((and_iff_right (by decide)).trans ?_)
  refine (ev_getR dX7_place_6 f_7_84 rfl).trans ((and_iff_right (by decide)).trans ?_)
  refine (ev_getI2 dX7_place_9 f_7_94 rfl (v := (μ (r0 + 1) 32 o0 2)) (rfl)).trans ((and_iff_right (by decide)).trans ?_)
  refine (ev_iconst dX7_place_12 (w := 1) (by decide)).trans ?_
  refine (ev_isub dX7_place_13).trans ?_
  refine (ev_staI dX7_place_14 c_7_41 (by decide) (As := [.inl x1, .inl 0, .inl ((μ (r0 + 1) 32 o0 2) - 1)]) rfl rfl (by decide) rfl (Nat.le_of_ble_eq_true rfl)).trans (exists_congr fun v1 => exists_congr fun μ1 => and_congr_right fun _ => ?_)
  refine (ev_ifc dX7_place_17 (t := 36) (by decide)).trans (and_congr (imp_congr Iff.rfl ?_) (imp_congr Iff.rfl ?_))
  · exact Iff.rfl
  · refine (ev_iload_n dX7_place_20 rfl).trans ?_
    refine (ev_staI dX7_place_21 c_7_68 (by decide) (As := [.inl x2]) rfl rfl (by decide) rfl (Nat.le_of_ble_eq_true rfl)).trans (exists_congr fun v2 => exists_congr fun μ2 => and_congr_right fun _ => ?_)
    refine (ev_ifc dX7_place_24 (t := 36) (by decide)).trans (and_congr (imp_congr Iff.rfl ?_) (imp_congr Iff.rfl ?_))
    · exact Iff.rfl
    · refine (ev_iload_n dX7_place_27 rfl).trans ?_
      refine (ev_iconst dX7_place_28 (w := 0) (by decide)).trans ?_
      refine (ev_iconst dX7_place_29 (w := 5) (by decide)).trans ?_
      refine (ev_staI dX7_place_30 c_7_41 (by decide) (As := [.inl x3, .inl 0, .inl 5]) rfl rfl (by decide) rfl (Nat.le_of_ble_eq_true rfl)).trans (exists_congr fun v3 => exists_congr fun μ3 => and_congr_right fun _ => ?_)
      refine (ev_ifc dX7_place_33 (t := 38) (by decide)).trans (and_congr (imp_congr Iff.rfl ?_) (imp_congr Iff.rfl ?_))
      · refine (ev_aload_n dX7_place_38 rfl).trans ?_
        refine (ev_getR dX7_place_39 f_7_10 rfl).trans ((and_iff_right (by decide)).trans ?_)
        refine (ev_getR dX7_place_42 f_7_84 rfl).trans ((and_iff_right (by decide)).trans ?_)
        refine (ev_getR dX7_place_45 f_7_97 rfl).trans ((and_iff_right (by decide)).trans ?_)
        refine (ev_iload_n dX7_place_48 rfl).trans ?_
        refine (ev_iload_n dX7_place_49 rfl).trans ?_
        refine (ev_iast dX7_place_50 (by decide)).trans (and_congr_right fun _ => ?_)
        refine (ev_aload_n dX7_place_51 rfl).trans ?_
        refine (ev_getR dX7_place_52 f_7_10 rfl).trans ((and_iff_right (by decide)).trans ?_)
        refine (ev_getR dX7_place_55 f_7_84 rfl).trans ((and_iff_right (by decide)).trans ?_)
        refine (ev_getR dX7_place_58 f_7_100 rfl).trans ((and_iff_right (by decide)).trans ?_)
        refine (ev_iload_n dX7_place_61 rfl).trans ?_
        refine (ev_iload_n dX7_place_62 rfl).trans ?_
        refine (ev_iast dX7_place_63 (by decide)).trans (and_congr_right fun _ => ?_)
        refine (ev_iconst dX7_place_64 (w := 1) (by decide)).trans ?_
        exact ev_ireturn dX7_place_65 rfl
      · exact Iff.rfl
theorem B51_36 {C : Nat → List AV → Mem → Res → Prop} {μ : Mem} {res : Res} {x1 x2 x3 : Int32} {r0 o0 : Nat} : EvE C 51 36 [some (.inr (r0, 0, o0)), some (.inl x1), some (.inl x2), some (.inl x3)] [] μ res ↔ res = (some (-1), μ) := by
  refine (ev_iconst dX7_place_36 (w := (-1)) (by decide)).trans ?_
  exact ev_ireturn dX7_place_37 rfl
/-! X7_ticks -/
theorem B52_0 {C : Nat → List AV → Mem → Res → Prop} {μ : Mem} {res : Res} {x1 : Int32} {r0 o0 : Nat} : EvE C 52 0 [some (.inr (r0, 0, o0)), some (.inl x1), none] [] μ res ↔ ∃ v1 μ1, C 72 [.inl x1, .inl 1, .inl 500] μ (some v1, μ1) ∧ ((v1 = 0 → EvE C 52 25 [some (.inr (r0, 0, o0)), some (.inl x1), none] [] μ1 res) ∧ (¬ (v1 = 0) → ((((μ1 (r0 + 1) 1 o0 2) + x1) ≤ 100000 → ((¬ (μ1 (r0 + 1) 1 o0 1) = 0 → EvE C 52 42 [some (.inr (r0, 0, o0)), some (.inl x1), some (.inl 0)] [] μ1 res) ∧ (¬ (¬ (μ1 (r0 + 1) 1 o0 1) = 0) → res = (some (-3), μ1)))) ∧ (¬ (((μ1 (r0 + 1) 1 o0 2) + x1) ≤ 100000) → EvE C 52 25 [some (.inr (r0, 0, o0)), some (.inl x1), none] [] μ1 res)))) := by
  refine (ev_iload_n dX7_ticks_0 rfl).trans ?_
  refine (ev_iconst dX7_ticks_1 (w := 1) (by decide)).trans ?_
  refine (ev_sipush dX7_ticks_2 (w := 500) (by decide)).trans ?_
  refine (ev_staI dX7_ticks_5 c_7_41 (by decide) (As := [.inl x1, .inl 1, .inl 500]) rfl rfl (by decide) rfl (Nat.le_of_ble_eq_true rfl)).trans (exists_congr fun v1 => exists_congr fun μ1 => and_congr_right fun _ => ?_)
  refine (ev_ifc dX7_ticks_8 (t := 25) (by decide)).trans (and_congr (imp_congr Iff.rfl ?_) (imp_congr Iff.rfl ?_))
  · exact Iff.rfl
  · refine (ev_aload_n dX7_ticks_11 rfl).trans ?_
    refine (ev_getR dX7_ticks_12 f_7_10 rfl).trans ((and_iff_right (by decide)).trans ?_)
    refine (ev_getI2 dX7_ticks_15 f_7_30 rfl (v := (μ1 (r0 + 1) 1 o0 2)) (rfl)).trans ((and_iff_right (by decide)).trans ?_)
    refine (ev_iload_n dX7_ticks_18 rfl).trans ?_
    refine (ev_iadd dX7_ticks_19).trans ?_
    refine (ev_ldc dX7_ticks_20 (w := 100000) (by decide)).trans ?_
    refine (ev_icmp dX7_ticks_22 (t := 27) (by decide)).trans (and_congr (imp_congr Iff.rfl ?_) (imp_congr Iff.rfl ?_))
    · refine (ev_aload_n dX7_ticks_27 rfl).trans ?_
      refine (ev_getR dX7_ticks_28 f_7_10 rfl).trans ((and_iff_right (by decide)).trans ?_)
      refine (ev_getI2 dX7_ticks_31 f_7_27 rfl (v := (μ1 (r0 + 1) 1 o0 1)) (rfl)).trans ((and_iff_right (by decide)).trans ?_)
      refine (ev_ifc dX7_ticks_34 (t := 40) (by decide)).trans (and_congr (imp_congr Iff.rfl ?_) (imp_congr Iff.rfl ?_))
      · refine (ev_iconst dX7_ticks_40 (w := 0) (by decide)).trans ?_
        refine (ev_istore_n dX7_ticks_41 (Nat.le_of_ble_eq_true rfl) rfl).trans ?_
        exact Iff.rfl
      · refine (ev_bipush dX7_ticks_37 (w := (-3)) (by decide)).trans ?_
        exact ev_ireturn dX7_ticks_39 rfl
    · exact Iff.rfl
theorem B52_25 {C : Nat → List AV → Mem → Res → Prop} {μ : Mem} {res : Res} {x1 : Int32} {r0 o0 : Nat} {u2 : Option AV} : EvE C 52 25 [some (.inr (r0, 0, o0)), some (.inl x1), u2] [] μ res ↔ res = (some (-1), μ) := by
  refine (ev_iconst dX7_ticks_25 (w := (-1)) (by decide)).trans ?_
  exact ev_ireturn dX7_ticks_26 rfl
theorem B52_42 {C : Nat → List AV → Mem → Res → Prop} {μ : Mem} {res : Res} {x1 x2 : Int32} {r0 o0 : Nat} : EvE C 52 42 [some (.inr (r0, 0, o0)), some (.inl x1), some (.inl x2)] [] μ res ↔ ((x1 ≤ x2 → res = (some (μ (r0 + 1) 1 o0 2), μ)) ∧ (¬ (x1 ≤ x2) → ∃ μ1, C 3 [.inr ((r0 + 1), 1, o0)] μ (none, μ1) ∧ EvE C 52 42 [some (.inr (r0, 0, o0)), some (.inl x1), some (.inl (x2 + 1))] [] μ1 res)) := by
  refine (ev_iload_n dX7_ticks_42 rfl).trans ?_
  refine (ev_iload_n dX7_ticks_43 rfl).trans ?_
  refine (ev_icmp dX7_ticks_44 (t := 60) (by decide)).trans (and_congr (imp_congr Iff.rfl ?_) (imp_congr Iff.rfl ?_))
  · refine (ev_aload_n dX7_ticks_60 rfl).trans ?_
    refine (ev_getR dX7_ticks_61 f_7_10 rfl).trans ((and_iff_right (by decide)).trans ?_)
    refine (ev_getI2 dX7_ticks_64 f_7_30 rfl (v := (μ (r0 + 1) 1 o0 2)) (rfl)).trans ((and_iff_right (by decide)).trans ?_)
    exact ev_ireturn dX7_ticks_67 rfl
  · refine (ev_aload_n dX7_ticks_47 rfl).trans ?_
    refine (ev_getR dX7_ticks_48 f_7_10 rfl).trans ((and_iff_right (by decide)).trans ?_)
    refine (ev_virV dX7_ticks_51 c_7_103 (by decide) (As := []) rfl rfl rfl rfl (Nat.le_of_ble_eq_true rfl)).trans ((and_iff_right (by decide)).trans (exists_congr fun μ1 => and_congr_right fun _ => ?_))
    refine (ev_iinc dX7_ticks_54 rfl (w := 1) (by decide) rfl).trans ?_
    refine (ev_goto dX7_ticks_57 (t := 42) (by decide)).trans ?_
    exact Iff.rfl
/-! X7_about -/
theorem B53_0 {C : Nat → List AV → Mem → Res → Prop} {μ : Mem} {res : Res} {x1 x2 : Int32} {r0 o0 : Nat} : EvE C 53 0 [some (.inr (r0, 0, o0)), some (.inl x1), some (.inl x2), none] [] μ res ↔ ∃ v1 μ1, C 68 [.inr (r0, 0, o0), .inl x1] μ (some v1, μ1) ∧ ((v1 = 0 → EvE C 53 18 [some (.inr (r0, 0, o0)), some (.inl x1), some (.inl x2), none] [] μ1 res) ∧ (¬ (v1 = 0) → ∃ v2 μ2, C 72 [.inl x2, .inl 0, .inl 12] μ1 (some v2, μ2) ∧ ((¬ v2 = 0 → vp_in x1 6 ∧ ((x2 < 6 → ((x2 = 4 → EvE C 53 72 [some (.inr (r0, 0, o0)), some (.inl x1), some (.inl x2), some (.inr ((r0 + 1), 3, x1.toNatClampNeg))] [] μ2 res) ∧ (x2 = 5 → EvE C 53 95 [some (.inr (r0, 0, o0)), some (.inl x1), some (.inl x2), some (.inr ((r0 + 1), 3, x1.toNatClampNeg))] [] μ2 res) ∧ (¬ x2 = 4 → ¬ x2 = 5 → EvE C 53 100 [some (.inr (r0, 0, o0)), some (.inl x1), some (.inl x2), some (.inr ((r0 + 1), 3, x1.toNatClampNeg))] [] μ2 res))) ∧ (¬ (x2 < 6) → vp_in (x2 - 6) 7 ∧ res = (some (μ2 (r0 + 1) 5 x1.toNatClampNeg (x2 - 6).toNatClampNeg), μ2)))) ∧ (¬ (¬ v2 = 0) → EvE C 53 18 [some (.inr (r0, 0, o0)), some (.inl x1), some (.inl x2), none] [] μ2 res)))) := by
  refine (ev_aload_n dX7_about_0 rfl).trans ?_
  refine (ev_iload_n dX7_about_1 rfl).trans ?_
  refine (ev_virI dX7_about_2 c_7_37 (by decide) (As := [.inl x1]) rfl rfl (by decide) rfl (Nat.le_of_ble_eq_true rfl)).trans ((and_iff_right (by decide)).trans (exists_congr fun v1 => exists_congr fun μ1 => and_congr_right fun _ => ?_))
  refine (ev_ifc dX7_about_5 (t := 18) (by decide)).trans (and_congr (imp_congr Iff.rfl ?_) (imp_congr Iff.rfl ?_))
  · exact Iff.rfl
  · refine (ev_iload_n dX7_about_8 rfl).trans ?_
    refine (ev_iconst dX7_about_9 (w := 0) (by decide)).trans ?_
    refine (ev_bipush dX7_about_10 (w := 12) (by decide)).trans ?_
    refine (ev_staI dX7_about_12 c_7_41 (by decide) (As := [.inl x2, .inl 0, .inl 12]) rfl rfl (by decide) rfl (Nat.le_of_ble_eq_true rfl)).trans (exists_congr fun v2 => exists_congr fun μ2 => and_congr_right fun _ => ?_)
    refine (ev_ifc dX7_about_15 (t := 20) (by decide)).trans (and_congr (imp_congr Iff.rfl ?_) (imp_congr Iff.rfl ?_))
    · refine (ev_aload_n dX7_about_20 rfl).trans ?_
      refine (ev_getR dX7_about_21 f_7_10 rfl).trans ((and_iff_right (by decide)).trans ?_)
      refine (ev_getR dX7_about_24 f_7_45 rfl).trans ((and_iff_right (by decide)).trans ?_)
      refine (ev_iload_n dX7_about_27 rfl).trans ?_
      refine (ev_aald dX7_about_28 (by decide)).trans (and_congr_right fun _ => ?_)
      refine (ev_astore_n dX7_about_29 (Nat.le_of_ble_eq_true rfl) rfl).trans ?_
      refine (ev_iload_n dX7_about_30 rfl).trans ?_
      refine (ev_bipush dX7_about_31 (w := 6) (by decide)).trans ?_
      refine (ev_icmp dX7_about_33 (t := 46) (by decide)).trans (and_congr (imp_congr Iff.rfl ?_) (imp_congr Iff.rfl ?_))
      · refine (ev_iload_n dX7_about_46 rfl).trans ?_
        exact ev_look dX7_about_47 (by decide) (by decide) (by decide) (by decide)
      · refine (ev_aload_n dX7_about_36 rfl).trans ?_
        refine (ev_getR dX7_about_37 f_7_106 rfl).trans ((and_iff_right (by decide)).trans ?_)
        refine (ev_iload_n dX7_about_40 rfl).trans ?_
        refine (ev_bipush dX7_about_41 (w := 6) (by decide)).trans ?_
        refine (ev_isub dX7_about_43).trans ?_
        refine (ev_iald2 dX7_about_44 (by decide) (v := (μ2 (r0 + 1) 5 x1.toNatClampNeg (x2 - 6).toNatClampNeg)) (rfl)).trans (and_congr_right fun _ => ?_)
        exact ev_ireturn dX7_about_45 rfl
    · exact Iff.rfl
theorem B53_18 {C : Nat → List AV → Mem → Res → Prop} {μ : Mem} {res : Res} {x1 x2 : Int32} {r0 o0 : Nat} {u3 : Option AV} : EvE C 53 18 [some (.inr (r0, 0, o0)), some (.inl x1), some (.inl x2), u3] [] μ res ↔ res = (some (-1), μ) := by
  refine (ev_iconst dX7_about_18 (w := (-1)) (by decide)).trans ?_
  exact ev_ireturn dX7_about_19 rfl
theorem B53_72 {C : Nat → List AV → Mem → Res → Prop} {μ : Mem} {res : Res} {x1 x2 : Int32} {r0 o0 r3 o3 : Nat} : EvE C 53 72 [some (.inr (r0, 0, o0)), some (.inl x1), some (.inl x2), some (.inr (r3, 3, o3))] [] μ res ↔ ∃ v1 μ1, C 38 [.inr (r3, 3, o3), .inl (μ (r0 + 1) 1 o0 2)] μ (some v1, μ1) ∧ ((v1 = 0 → EvE C 53 94 [some (.inr (r0, 0, o0)), some (.inl x1), some (.inl x2), some (.inr (r3, 3, o3))] [.inl (-1)] μ1 res) ∧ (¬ (v1 = 0) → EvE C 53 94 [some (.inr (r0, 0, o0)), some (.inl x1), some (.inl x2), some (.inr (r3, 3, o3))] [.inl (μ1 r3 3 o3 6)] μ1 res)) := by
  refine (ev_aload_n dX7_about_72 rfl).trans ?_
  refine (ev_aload_n dX7_about_73 rfl).trans ?_
  refine (ev_getR dX7_about_74 f_7_10 rfl).trans ((and_iff_right (by decide)).trans ?_)
  refine (ev_getI2 dX7_about_77 f_7_30 rfl (v := (μ (r0 + 1) 1 o0 2)) (rfl)).trans ((and_iff_right (by decide)).trans ?_)
  refine (ev_virI dX7_about_80 c_7_109 (by decide) (As := [.inl (μ (r0 + 1) 1 o0 2)]) rfl rfl (by decide) rfl (Nat.le_of_ble_eq_true rfl)).trans ((and_iff_right (by decide)).trans (exists_congr fun v1 => exists_congr fun μ1 => and_congr_right fun _ => ?_))
  refine (ev_ifc dX7_about_83 (t := 93) (by decide)).trans (and_congr (imp_congr Iff.rfl ?_) (imp_congr Iff.rfl ?_))
  · refine (ev_iconst dX7_about_93 (w := (-1)) (by decide)).trans ?_
    exact Iff.rfl
  · refine (ev_aload_n dX7_about_86 rfl).trans ?_
    refine (ev_getI2 dX7_about_87 f_7_112 rfl (v := (μ1 r3 3 o3 6)) (rfl)).trans ((and_iff_right (by decide)).trans ?_)
    refine (ev_goto dX7_about_90 (t := 94) (by decide)).trans ?_
    exact Iff.rfl
theorem B53_94 {C : Nat → List AV → Mem → Res → Prop} {μ : Mem} {res : Res} {x1 x2 w0 : Int32} {r0 o0 r3 o3 : Nat} : EvE C 53 94 [some (.inr (r0, 0, o0)), some (.inl x1), some (.inl x2), some (.inr (r3, 3, o3))] [.inl w0] μ res ↔ res = (some w0, μ) := by
  exact ev_ireturn dX7_about_94 rfl
theorem B53_95 {C : Nat → List AV → Mem → Res → Prop} {μ : Mem} {res : Res} {x1 x2 : Int32} {r0 o0 r3 o3 : Nat} : EvE C 53 95 [some (.inr (r0, 0, o0)), some (.inl x1), some (.inl x2), some (.inr (r3, 3, o3))] [] μ res ↔ res = (some (μ r3 3 o3 7), μ) := by
  refine (ev_aload_n dX7_about_95 rfl).trans ?_
  refine (ev_getI2 dX7_about_96 f_7_115 rfl (v := (μ r3 3 o3 7)) (rfl)).trans ((and_iff_right (by decide)).trans ?_)
  exact ev_ireturn dX7_about_99 rfl
theorem B53_100 {C : Nat → List AV → Mem → Res → Prop} {μ : Mem} {res : Res} {x1 x2 : Int32} {r0 o0 r3 o3 : Nat} : EvE C 53 100 [some (.inr (r0, 0, o0)), some (.inl x1), some (.inl x2), some (.inr (r3, 3, o3))] [] μ res ↔ ∃ v1 μ1, C 28 [.inr ((r0 + 1), 8, o0), .inl x1, .inl x2] μ (some v1, μ1) ∧ res = (some v1, μ1) := by
  refine (ev_aload_n dX7_about_100 rfl).trans ?_
  refine (ev_getR dX7_about_101 f_7_10 rfl).trans ((and_iff_right (by decide)).trans ?_)
  refine (ev_getR dX7_about_104 f_7_118 rfl).trans ((and_iff_right (by decide)).trans ?_)
  refine (ev_iload_n dX7_about_107 rfl).trans ?_
  refine (ev_iload_n dX7_about_108 rfl).trans ?_
  refine (ev_virI dX7_about_109 c_7_122 (by decide) (As := [.inl x1, .inl x2]) rfl rfl (by decide) rfl (Nat.le_of_ble_eq_true rfl)).trans ((and_iff_right (by decide)).trans (exists_congr fun v1 => exists_congr fun μ1 => and_congr_right fun _ => ?_))
  exact ev_ireturn dX7_about_112 rfl
/-! X7_ruleOf -/
theorem B54_0 {C : Nat → List AV → Mem → Res → Prop} {μ : Mem} {res : Res} {x1 x2 : Int32} {r0 o0 : Nat} : EvE C 54 0 [some (.inr (r0, 0, o0)), some (.inl x1), some (.inl x2)] [] μ res ↔ ∃ v1 μ1, C 68 [.inr (r0, 0, o0), .inl x1] μ (some v1, μ1) ∧ ((v1 = 0 → EvE C 54 18 [some (.inr (r0, 0, o0)), some (.inl x1), some (.inl x2)] [] μ1 res) ∧ (¬ (v1 = 0) → ∃ v2 μ2, C 72 [.inl x2, .inl 0, .inl 9] μ1 (some v2, μ2) ∧ ((¬ v2 = 0 → vp_in x1 6 ∧ vp_in x2 10 ∧ res = (some (μ2 (r0 + 1) 4 x1.toNatClampNeg x2.toNatClampNeg), μ2)) ∧ (¬ (¬ v2 = 0) → EvE C 54 18 [some (.inr (r0, 0, o0)), some (.inl x1), some (.inl x2)] [] μ2 res)))) := by
  refine (ev_aload_n dX7_ruleOf_0 rfl).trans ?_
  refine (ev_iload_n dX7_ruleOf_1 rfl).trans ?_
  refine (ev_virI dX7_ruleOf_2 c_7_37 (by decide) (As := [.inl x1]) rfl rfl (by decide) rfl (Nat.le_of_ble_eq_true rfl)).trans ((and_iff_right (by decide)).trans (exists_congr fun v1 => exists_congr fun μ1 => and_congr_right fun _ => ?_))
  refine (ev_ifc dX7_ruleOf_5 (t := 18) (by decide)).trans (and_congr (imp_congr Iff.rfl ?_) (imp_congr Iff.rfl ?_))
  · exact Iff.rfl
  · refine (ev_iload_n dX7_ruleOf_8 rfl).trans ?_
    refine (ev_iconst dX7_ruleOf_9 (w := 0) (by decide)).trans ?_
    refine (ev_bipush dX7_ruleOf_10 (w := 9) (by decide)).trans ?_
    refine (ev_staI dX7_ruleOf_12 c_7_41 (by decide) (As := [.inl x2, .inl 0, .inl 9]) rfl rfl (by decide) rfl (Nat.le_of_ble_eq_true rfl)).trans (exists_congr fun v2 => exists_congr fun μ2 => and_congr_right fun _ => ?_)
    refine (ev_ifc dX7_ruleOf_15 (t := 20) (by decide)).trans (and_congr (imp_congr Iff.rfl ?_) (imp_congr Iff.rfl ?_))
    · refine (ev_aload_n dX7_ruleOf_20 rfl).trans ?_
      refine (ev_getR dX7_ruleOf_21 f_7_10 rfl).trans ((and_iff_right (by decide)).trans ?_)
      refine (ev_getR dX7_ruleOf_24 f_7_45 rfl).trans ((and_iff_right (by decide)).trans ?_)
      refine (ev_iload_n dX7_ruleOf_27 rfl).trans ?_
      refine (ev_aald dX7_ruleOf_28 (by decide)).trans (and_congr_right fun _ => ?_)
      refine (ev_getR dX7_ruleOf_29 f_7_49 rfl).trans ((and_iff_right (by decide)).trans ?_)
      refine (ev_iload_n dX7_ruleOf_32 rfl).trans ?_
      refine (ev_iald2 dX7_ruleOf_33 (by decide) (v := (μ2 (r0 + 1) 4 x1.toNatClampNeg x2.toNatClampNeg)) (rfl)).trans (and_congr_right fun _ => ?_)
      exact ev_ireturn dX7_ruleOf_34 rfl
    · exact Iff.rfl
theorem B54_18 {C : Nat → List AV → Mem → Res → Prop} {μ : Mem} {res : Res} {x1 x2 : Int32} {r0 o0 : Nat} : EvE C 54 18 [some (.inr (r0, 0, o0)), some (.inl x1), some (.inl x2)] [] μ res ↔ res = (some (-1), μ) := by
  refine (ev_iconst dX7_ruleOf_18 (w := (-1)) (by decide)).trans ?_
  exact ev_ireturn dX7_ruleOf_19 rfl
/-! X7_kept -/
theorem B55_0 {C : Nat → List AV → Mem → Res → Prop} {μ : Mem} {res : Res} {x1 x2 : Int32} {r0 o0 : Nat} : EvE C 55 0 [some (.inr (r0, 0, o0)), some (.inl x1), some (.inl x2), none] [] μ res ↔ ∃ v1 μ1, C 68 [.inr (r0, 0, o0), .inl x1] μ (some v1, μ1) ∧ ((v1 = 0 → EvE C 55 15 [some (.inr (r0, 0, o0)), some (.inl x1), some (.inl x2), none] [] μ1 res) ∧ (¬ (v1 = 0) → ∃ v2 μ2, C 69 [.inl x2] μ1 (some v2, μ2) ∧ ((¬ v2 = 0 → vp_in x1 6 ∧ ∃ v3 μ3, C 37 [.inr ((r0 + 1), 3, x1.toNatClampNeg), .inl x2, .inl (μ2 (r0 + 1) 1 o0 2)] μ2 (some v3, μ3) ∧ ((v3 = 0 → EvE C 55 53 [some (.inr (r0, 0, o0)), some (.inl x1), some (.inl x2), some (.inr ((r0 + 1), 3, x1.toNatClampNeg))] [.inl (-4)] μ3 res) ∧ (¬ (v3 = 0) → vp_in x2 8 ∧ EvE C 55 53 [some (.inr (r0, 0, o0)), some (.inl x1), some (.inl x2), some (.inr ((r0 + 1), 3, x1.toNatClampNeg))] [.inl (μ3 (r0 + 1) 6 x1.toNatClampNeg x2.toNatClampNeg)] μ3 res))) ∧ (¬ (¬ v2 = 0) → EvE C 55 15 [some (.inr (r0, 0, o0)), some (.inl x1), some (.inl x2), none] [] μ2 res)))) := by
  refine (ev_aload_n dX7_kept_0 rfl).trans ?_
  refine (ev_iload_n dX7_kept_1 rfl).trans ?_
  refine (ev_virI dX7_kept_2 c_7_37 (by decide) (As := [.inl x1]) rfl rfl (by decide) rfl (Nat.le_of_ble_eq_true rfl)).trans ((and_iff_right (by decide)).trans (exists_congr fun v1 => exists_congr fun μ1 => and_congr_right fun _ => ?_))
  refine (ev_ifc dX7_kept_5 (t := 15) (by decide)).trans (and_congr (imp_congr Iff.rfl ?_) (imp_congr Iff.rfl ?_))
  · exact Iff.rfl
  · refine (ev_iload_n dX7_kept_8 rfl).trans ?_
    refine (ev_staI dX7_kept_9 c_7_68 (by decide) (As := [.inl x2]) rfl rfl (by decide) rfl (Nat.le_of_ble_eq_true rfl)).trans (exists_congr fun v2 => exists_congr fun μ2 => and_congr_right fun _ => ?_)
    refine (ev_ifc dX7_kept_12 (t := 17) (by decide)).trans (and_congr (imp_congr Iff.rfl ?_) (imp_congr Iff.rfl ?_))
    · refine (ev_aload_n dX7_kept_17 rfl).trans ?_
      refine (ev_getR dX7_kept_18 f_7_10 rfl).trans ((and_iff_right (by decide)).trans ?_)
      refine (ev_getR dX7_kept_21 f_7_45 rfl).trans ((and_iff_right (by decide)).trans ?_)
      refine (ev_iload_n dX7_kept_24 rfl).trans ?_
      refine (ev_aald dX7_kept_25 (by decide)).trans (and_congr_right fun _ => ?_)
      refine (ev_astore_n dX7_kept_26 (Nat.le_of_ble_eq_true rfl) rfl).trans ?_
      refine (ev_aload_n dX7_kept_27 rfl).trans ?_
      refine (ev_iload_n dX7_kept_28 rfl).trans ?_
      refine (ev_aload_n dX7_kept_29 rfl).trans ?_
      refine (ev_getR dX7_kept_30 f_7_10 rfl).trans ((and_iff_right (by decide)).trans ?_)
      refine (ev_getI2 dX7_kept_33 f_7_30 rfl (v := (μ2 (r0 + 1) 1 o0 2)) (rfl)).trans ((and_iff_right (by decide)).trans ?_)
      refine (ev_virI dX7_kept_36 c_7_128 (by decide) (As := [.inl x2, .inl (μ2 (r0 + 1) 1 o0 2)]) rfl rfl (by decide) rfl (Nat.le_of_ble_eq_true rfl)).trans ((and_iff_right (by decide)).trans (exists_congr fun v3 => exists_congr fun μ3 => and_congr_right fun _ => ?_))
      refine (ev_ifc dX7_kept_39 (t := 51) (by decide)).trans (and_congr (imp_congr Iff.rfl ?_) (imp_congr Iff.rfl ?_))
      · refine (ev_bipush dX7_kept_51 (w := (-4)) (by decide)).trans ?_
        exact Iff.rfl
      · refine (ev_aload_n dX7_kept_42 rfl).trans ?_
        refine (ev_getR dX7_kept_43 f_7_131 rfl).trans ((and_iff_right (by decide)).trans ?_)
        refine (ev_iload_n dX7_kept_46 rfl).trans ?_
        refine (ev_iald2 dX7_kept_47 (by decide) (v := (μ3 (r0 + 1) 6 x1.toNatClampNeg x2.toNatClampNeg)) (rfl)).trans (and_congr_right fun _ => ?_)
        refine (ev_goto dX7_kept_48 (t := 53) (by decide)).trans ?_
        exact Iff.rfl
    · exact Iff.rfl
theorem B55_15 {C : Nat → List AV → Mem → Res → Prop} {μ : Mem} {res : Res} {x1 x2 : Int32} {r0 o0 : Nat} {u3 : Option AV} : EvE C 55 15 [some (.inr (r0, 0, o0)), some (.inl x1), some (.inl x2), u3] [] μ res ↔ res = (some (-1), μ) := by
  refine (ev_iconst dX7_kept_15 (w := (-1)) (by decide)).trans ?_
  exact ev_ireturn dX7_kept_16 rfl
theorem B55_53 {C : Nat → List AV → Mem → Res → Prop} {μ : Mem} {res : Res} {x1 x2 w0 : Int32} {r0 o0 r3 o3 : Nat} : EvE C 55 53 [some (.inr (r0, 0, o0)), some (.inl x1), some (.inl x2), some (.inr (r3, 3, o3))] [.inl w0] μ res ↔ res = (some w0, μ) := by
  exact ev_ireturn dX7_kept_53 rfl
/-! X7_job -/
theorem B56_0 {C : Nat → List AV → Mem → Res → Prop} {μ : Mem} {res : Res} {x1 x2 : Int32} {r0 o0 : Nat} : EvE C 56 0 [some (.inr (r0, 0, o0)), some (.inl x1), some (.inl x2), none, none] [] μ res ↔ ∃ v1 μ1, C 32 [.inr ((r0 + 1), 9, o0), .inl x1] μ (some v1, μ1) ∧ ((¬ v1 = (-1) → ((∀ k t : Nat, ([68, 76, 84, 92, 100, 107, 115] : List Nat)[k]? = some t → x2 = nI k → EvE C 56 t [some (.inr (r0, 0, o0)), some (.inl x1), some (.inl x2), some (.inr ((r0 + 1), 8, o0)), some (.inl v1)] [] μ1 res) ∧ ((∀ k : Nat, k < 7 → ¬ x2 = nI k) → EvE C 56 123 [some (.inr (r0, 0, o0)), some (.inl x1), some (.inl x2), some (.inr ((r0 + 1), 8, o0)), some (.inl v1)] [] μ1 res))) ∧ (¬ (¬ v1 = (-1)) → res = (some (-1), μ1))) := by
  refine (ev_aload_n dX7_job_0 rfl).trans ?_
  refine (ev_getR dX7_job_1 f_7_10 rfl).trans ((and_iff_right (by decide)).trans ?_)
  refine (ev_getR dX7_job_4 f_7_118 rfl).trans ((and_iff_right (by decide)).trans ?_)
  refine (ev_astore_n dX7_job_7 (Nat.le_of_ble_eq_true rfl) rfl).trans ?_
  refine (ev_aload_n dX7_job_8 rfl).trans ?_
  refine (ev_getR dX7_job_9 f_7_134 rfl).trans ((and_iff_right (by decide)).trans ?_)
  refine (ev_iload_n dX7_job_12 rfl).trans ?_
  refine (ev_virI dX7_job_13 c_7_138 (by decide) (As := [.inl x1]) rfl rfl (by decide) rfl (Nat.le_of_ble_eq_true rfl)).trans ((and_iff_right (by decide)).trans (exists_congr fun v1 => exists_congr fun μ1 => and_congr_right fun _ => ?_))
  refine (ev_istore dX7_job_16 (Nat.le_of_ble_eq_true rfl) rfl).trans ?_
  refine (ev_iload dX7_job_18 rfl).trans ?_
  refine (ev_iconst dX7_job_20 (w := (-1)) (by decide)).trans ?_
  refine (ev_icmp dX7_job_21 (t := 26) (by decide)).trans (and_congr (imp_congr Iff.rfl ?_) (imp_congr Iff.rfl ?_))
  · refine (ev_iload_n dX7_job_26 rfl).trans ?_
    exact ev_tab dX7_job_27 (ts := [68, 76, 84, 92, 100, 107, 115]) (td := 123) (by decide) (by decide) (by decide) (by decide)
  · refine (ev_iconst dX7_job_24 (w := (-1)) (by decide)).trans ?_
    exact ev_ireturn dX7_job_25 rfl
theorem B56_68 {C : Nat → List AV → Mem → Res → Prop} {μ : Mem} {res : Res} {x1 x2 x4 : Int32} {r0 o0 r3 o3 : Nat} : EvE C 56 68 [some (.inr (r0, 0, o0)), some (.inl x1), some (.inl x2), some (.inr (r3, 8, o3)), some (.inl x4)] [] μ res ↔ vp_in x4 120 ∧ res = (some (μ r3 12 o3 x4.toNatClampNeg), μ) := by
  refine (ev_aload_n dX7_job_68 rfl).trans ?_
  refine (ev_getR dX7_job_69 f_7_144 rfl).trans ((and_iff_right (by decide)).trans ?_)
  refine (ev_iload dX7_job_72 rfl).trans ?_
  refine (ev_iald2 dX7_job_74 (by decide) (v := (μ r3 12 o3 x4.toNatClampNeg)) (rfl)).trans (and_congr_right fun _ => ?_)
  exact ev_ireturn dX7_job_75 rfl
theorem B56_76 {C : Nat → List AV → Mem → Res → Prop} {μ : Mem} {res : Res} {x1 x2 x4 : Int32} {r0 o0 r3 o3 : Nat} : EvE C 56 76 [some (.inr (r0, 0, o0)), some (.inl x1), some (.inl x2), some (.inr (r3, 8, o3)), some (.inl x4)] [] μ res ↔ vp_in x4 120 ∧ res = (some (μ r3 13 o3 x4.toNatClampNeg), μ) := by
  refine (ev_aload_n dX7_job_76 rfl).trans ?_
  refine (ev_getR dX7_job_77 f_7_147 rfl).trans ((and_iff_right (by decide)).trans ?_)
  refine (ev_iload dX7_job_80 rfl).trans ?_
  refine (ev_iald2 dX7_job_82 (by decide) (v := (μ r3 13 o3 x4.toNatClampNeg)) (rfl)).trans (and_congr_right fun _ => ?_)
  exact ev_ireturn dX7_job_83 rfl
theorem B56_84 {C : Nat → List AV → Mem → Res → Prop} {μ : Mem} {res : Res} {x1 x2 x4 : Int32} {r0 o0 r3 o3 : Nat} : EvE C 56 84 [some (.inr (r0, 0, o0)), some (.inl x1), some (.inl x2), some (.inr (r3, 8, o3)), some (.inl x4)] [] μ res ↔ vp_in x4 120 ∧ res = (some (μ r3 14 o3 x4.toNatClampNeg), μ) := by
  refine (ev_aload_n dX7_job_84 rfl).trans ?_
  refine (ev_getR dX7_job_85 f_7_150 rfl).trans ((and_iff_right (by decide)).trans ?_)
  refine (ev_iload dX7_job_88 rfl).trans ?_
  refine (ev_iald2 dX7_job_90 (by decide) (v := (μ r3 14 o3 x4.toNatClampNeg)) (rfl)).trans (and_congr_right fun _ => ?_)
  exact ev_ireturn dX7_job_91 rfl
theorem B56_92 {C : Nat → List AV → Mem → Res → Prop} {μ : Mem} {res : Res} {x1 x2 x4 : Int32} {r0 o0 r3 o3 : Nat} : EvE C 56 92 [some (.inr (r0, 0, o0)), some (.inl x1), some (.inl x2), some (.inr (r3, 8, o3)), some (.inl x4)] [] μ res ↔ vp_in x4 120 ∧ res = (some (μ r3 15 o3 x4.toNatClampNeg), μ) := by
  refine (ev_aload_n dX7_job_92 rfl).trans ?_
  refine (ev_getR dX7_job_93 f_7_153 rfl).trans ((and_iff_right (by decide)).trans ?_)
  refine (ev_iload dX7_job_96 rfl).trans ?_
  refine (ev_iald2 dX7_job_98 (by decide) (v := (μ r3 15 o3 x4.toNatClampNeg)) (rfl)).trans (and_congr_right fun _ => ?_)
  exact ev_ireturn dX7_job_99 rfl
theorem B56_100 {C : Nat → List AV → Mem → Res → Prop} {μ : Mem} {res : Res} {x1 x2 x4 : Int32} {r0 o0 r3 o3 : Nat} : EvE C 56 100 [some (.inr (r0, 0, o0)), some (.inl x1), some (.inl x2), some (.inr (r3, 8, o3)), some (.inl x4)] [] μ res ↔ ∃ v1 μ1, C 67 [.inr (r0, 0, o0), .inl x4] μ (some v1, μ1) ∧ res = (some v1, μ1) := by
  refine (ev_aload_n dX7_job_100 rfl).trans ?_
  refine (ev_iload dX7_job_101 rfl).trans ?_
  refine (ev_virI dX7_job_103 c_7_156 (by decide) (As := [.inl x4]) rfl rfl (by decide) rfl (Nat.le_of_ble_eq_true rfl)).trans ((and_iff_right (by decide)).trans (exists_congr fun v1 => exists_congr fun μ1 => and_congr_right fun _ => ?_))
  exact ev_ireturn dX7_job_106 rfl
theorem B56_107 {C : Nat → List AV → Mem → Res → Prop} {μ : Mem} {res : Res} {x1 x2 x4 : Int32} {r0 o0 r3 o3 : Nat} : EvE C 56 107 [some (.inr (r0, 0, o0)), some (.inl x1), some (.inl x2), some (.inr (r3, 8, o3)), some (.inl x4)] [] μ res ↔ vp_in x4 120 ∧ res = (some (μ r3 18 o3 x4.toNatClampNeg), μ) := by
  refine (ev_aload_n dX7_job_107 rfl).trans ?_
  refine (ev_getR dX7_job_108 f_7_159 rfl).trans ((and_iff_right (by decide)).trans ?_)
  refine (ev_iload dX7_job_111 rfl).trans ?_
  refine (ev_iald2 dX7_job_113 (by decide) (v := (μ r3 18 o3 x4.toNatClampNeg)) (rfl)).trans (and_congr_right fun _ => ?_)
  exact ev_ireturn dX7_job_114 rfl
theorem B56_115 {C : Nat → List AV → Mem → Res → Prop} {μ : Mem} {res : Res} {x1 x2 x4 : Int32} {r0 o0 r3 o3 : Nat} : EvE C 56 115 [some (.inr (r0, 0, o0)), some (.inl x1), some (.inl x2), some (.inr (r3, 8, o3)), some (.inl x4)] [] μ res ↔ vp_in x4 120 ∧ res = (some (μ r3 19 o3 x4.toNatClampNeg), μ) := by
  refine (ev_aload_n dX7_job_115 rfl).trans ?_
  refine (ev_getR dX7_job_116 f_7_162 rfl).trans ((and_iff_right (by decide)).trans ?_)
  refine (ev_iload dX7_job_119 rfl).trans ?_
  refine (ev_iald2 dX7_job_121 (by decide) (v := (μ r3 19 o3 x4.toNatClampNeg)) (rfl)).trans (and_congr_right fun _ => ?_)
  exact ev_ireturn dX7_job_122 rfl
theorem B56_123 {C : Nat → List AV → Mem → Res → Prop} {μ : Mem} {res : Res} {x1 x2 x4 : Int32} {r0 o0 r3 o3 : Nat} : EvE C 56 123 [some (.inr (r0, 0, o0)), some (.inl x1), some (.inl x2), some (.inr (r3, 8, o3)), some (.inl x4)] [] μ res ↔ res = (some (-1), μ) := by
  refine (ev_iconst dX7_job_123 (w := (-1)) (by decide)).trans ?_
  exact ev_ireturn dX7_job_124 rfl
/-! X7_row -/
theorem B57_0 {C : Nat → List AV → Mem → Res → Prop} {μ : Mem} {res : Res} {x1 x2 : Int32} {r0 o0 : Nat} : EvE C 57 0 [some (.inr (r0, 0, o0)), some (.inl x1), some (.inl x2)] [] μ res ↔ ∃ v1 μ1, C 68 [.inr (r0, 0, o0), .inl x1] μ (some v1, μ1) ∧ ((v1 = 0 → EvE C 57 30 [some (.inr (r0, 0, o0)), some (.inl x1), some (.inl x2)] [] μ1 res) ∧ (¬ (v1 = 0) → vp_in x1 6 ∧ ∃ v2 μ2, C 72 [.inl x2, .inl 0, .inl ((μ1 (r0 + 1) 3 x1.toNatClampNeg 4) - 1)] μ1 (some v2, μ2) ∧ ((¬ v2 = 0 → vp_in x1 6 ∧ vp_in x2 20 ∧ vp_in (μ2 (r0 + 1) 7 x1.toNatClampNeg x2.toNatClampNeg) 120 ∧ res = (some (μ2 (r0 + 1) 12 o0 (μ2 (r0 + 1) 7 x1.toNatClampNeg x2.toNatClampNeg).toNatClampNeg), μ2)) ∧ (¬ (¬ v2 = 0) → EvE C 57 30 [some (.inr (r0, 0, o0)), some (.inl x1), some (.inl x2)] [] μ2 res)))) := by
  refine (ev_aload_n dX7_row_0 rfl).trans ?_
  refine (ev_iload_n dX7_row_1 rfl).trans ?_
  refine (ev_virI dX7_row_2 c_7_37 (by decide) (As := [.inl x1]) rfl rfl (by decide) rfl (Nat.le_of_ble_eq_true rfl)).trans ((and_iff_right (by decide)).trans (exists_congr fun v1 => exists_congr fun μ1 => and_congr_right fun _ => ?_))
  refine (ev_ifc dX7_row_5 (t := 30) (by decide)).trans (and_congr (imp_congr Iff.rfl ?_) (imp_congr Iff.rfl ?_))
  · exact Iff.rfl
  · refine (ev_iload_n dX7_row_8 rfl).trans ?_
    refine (ev_iconst dX7_row_9 (w := 0) (by decide)).trans ?_
    refine (ev_aload_n dX7_row_10 rfl).trans ?_
    refine (ev_getR dX7_row_11 f_7_10 rfl).trans ((and_iff_right (by decide)).trans ?_)
    refine (ev_getR dX7_row_14 f_7_45 rfl).trans ((and_iff_right (by decide)).trans ?_)
    refine (ev_iload_n dX7_row_17 rfl).trans ?_
    refine (ev_aald dX7_row_18 (by decide)).trans (and_congr_right fun _ => ?_)
    refine (ev_getI2 dX7_row_19 f_7_165 rfl (v := (μ1 (r0 + 1) 3 x1.toNatClampNeg 4)) (rfl)).trans ((and_iff_right (by decide)).trans ?_)
    refine (ev_iconst dX7_row_22 (w := 1) (by decide)).trans ?_
    refine (ev_isub dX7_row_23).trans ?_
    refine (ev_staI dX7_row_24 c_7_41 (by decide) (As := [.inl x2, .inl 0, .inl ((μ1 (r0 + 1) 3 x1.toNatClampNeg 4) - 1)]) rfl rfl (by decide) rfl (Nat.le_of_ble_eq_true rfl)).trans (exists_congr fun v2 => exists_congr fun μ2 => and_congr_right fun _ => ?_)
    refine (ev_ifc dX7_row_27 (t := 32) (by decide)).trans (and_congr (imp_congr Iff.rfl ?_) (imp_congr Iff.rfl ?_))
    · refine (ev_aload_n dX7_row_32 rfl).trans ?_
      refine (ev_getR dX7_row_33 f_7_10 rfl).trans ((and_iff_right (by decide)).trans ?_)
      refine (ev_getR dX7_row_36 f_7_118 rfl).trans ((and_iff_right (by decide)).trans ?_)
      refine (ev_getR dX7_row_39 f_7_144 rfl).trans ((and_iff_right (by decide)).trans ?_)
      refine (ev_aload_n dX7_row_42 rfl).trans ?_
      refine (ev_getR dX7_row_43 f_7_10 rfl).trans ((and_iff_right (by decide)).trans ?_)
      refine (ev_getR dX7_row_46 f_7_45 rfl).trans ((and_iff_right (by decide)).trans ?_)
      refine (ev_iload_n dX7_row_49 rfl).trans ?_
      refine (ev_aald dX7_row_50 (by decide)).trans (and_congr_right fun _ => ?_)
      refine (ev_getR dX7_row_51 f_7_168 rfl).trans ((and_iff_right (by decide)).trans ?_)
      refine (ev_iload_n dX7_row_54 rfl).trans ?_
      refine (ev_iald2 dX7_row_55 (by decide) (v := (μ2 (r0 + 1) 7 x1.toNatClampNeg x2.toNatClampNeg)) (rfl)).trans (and_congr_right fun _ => ?_)
      refine (ev_iald2 dX7_row_56 (by decide) (v := (μ2 (r0 + 1) 12 o0 (μ2 (r0 + 1) 7 x1.toNatClampNeg x2.toNatClampNeg).toNatClampNeg)) (rfl)).trans (and_congr_right fun _ => ?_)
      exact ev_ireturn dX7_row_57 rfl
    · exact Iff.rfl
theorem B57_30 {C : Nat → List AV → Mem → Res → Prop} {μ : Mem} {res : Res} {x1 x2 : Int32} {r0 o0 : Nat} : EvE C 57 30 [some (.inr (r0, 0, o0)), some (.inl x1), some (.inl x2)] [] μ res ↔ res = (some (-1), μ) := by
  refine (ev_iconst dX7_row_30 (w := (-1)) (by decide)).trans ?_
  exact ev_ireturn dX7_row_31 rfl
/-! X7_guest -/
theorem B58_0 {C : Nat → List AV → Mem → Res → Prop} {μ : Mem} {res : Res} {x1 x2 : Int32} {r0 o0 : Nat} : EvE C 58 0 [some (.inr (r0, 0, o0)), some (.inl x1), some (.inl x2), none, none] [] μ res ↔ ∃ v1 μ1, C 32 [.inr ((r0 + 1), 21, o0), .inl x1] μ (some v1, μ1) ∧ ((¬ v1 = (-1) → ((∀ k t : Nat, ([56, 64, 99, 107] : List Nat)[k]? = some t → x2 = nI k → EvE C 58 t [some (.inr (r0, 0, o0)), some (.inl x1), some (.inl x2), some (.inr ((r0 + 1), 20, o0)), some (.inl v1)] [] μ1 res) ∧ ((∀ k : Nat, k < 4 → ¬ x2 = nI k) → EvE C 58 115 [some (.inr (r0, 0, o0)), some (.inl x1), some (.inl x2), some (.inr ((r0 + 1), 20, o0)), some (.inl v1)] [] μ1 res))) ∧ (¬ (¬ v1 = (-1)) → res = (some (-1), μ1))) := by
  refine (ev_aload_n dX7_guest_0 rfl).trans ?_
  refine (ev_getR dX7_guest_1 f_7_10 rfl).trans ((and_iff_right (by decide)).trans ?_)
  refine (ev_getR dX7_guest_4 f_7_55 rfl).trans ((and_iff_right (by decide)).trans ?_)
  refine (ev_astore_n dX7_guest_7 (Nat.le_of_ble_eq_true rfl) rfl).trans ?_
  refine (ev_aload_n dX7_guest_8 rfl).trans ?_
  refine (ev_getR dX7_guest_9 f_7_171 rfl).trans ((and_iff_right (by decide)).trans ?_)
  refine (ev_iload_n dX7_guest_12 rfl).trans ?_
  refine (ev_virI dX7_guest_13 c_7_138 (by decide) (As := [.inl x1]) rfl rfl (by decide) rfl (Nat.le_of_ble_eq_true rfl)).trans ((and_iff_right (by decide)).trans (exists_congr fun v1 => exists_congr fun μ1 => and_congr_right fun _ => ?_))
  refine (ev_istore dX7_guest_16 (Nat.le_of_ble_eq_true rfl) rfl).trans ?_
  refine (ev_iload dX7_guest_18 rfl).trans ?_
  refine (ev_iconst dX7_guest_20 (w := (-1)) (by decide)).trans ?_
  refine (ev_icmp dX7_guest_21 (t := 26) (by decide)).trans (and_congr (imp_congr Iff.rfl ?_) (imp_congr Iff.rfl ?_))
  · refine (ev_iload_n dX7_guest_26 rfl).trans ?_
    exact ev_tab dX7_guest_27 (ts := [56, 64, 99, 107]) (td := 115) (by decide) (by decide) (by decide) (by decide)
  · refine (ev_iconst dX7_guest_24 (w := (-1)) (by decide)).trans ?_
    exact ev_ireturn dX7_guest_25 rfl
theorem B58_56 {C : Nat → List AV → Mem → Res → Prop} {μ : Mem} {res : Res} {x1 x2 x4 : Int32} {r0 o0 r3 o3 : Nat} : EvE C 58 56 [some (.inr (r0, 0, o0)), some (.inl x1), some (.inl x2), some (.inr (r3, 20, o3)), some (.inl x4)] [] μ res ↔ vp_in x4 100 ∧ res = (some (μ r3 24 o3 x4.toNatClampNeg), μ) := by
  refine (ev_aload_n dX7_guest_56 rfl).trans ?_
  refine (ev_getR dX7_guest_57 f_7_172 rfl).trans ((and_iff_right (by decide)).trans ?_)
  refine (ev_iload dX7_guest_60 rfl).trans ?_
  refine (ev_iald2 dX7_guest_62 (by decide) (v := (μ r3 24 o3 x4.toNatClampNeg)) (rfl)).trans (and_congr_right fun _ => ?_)
  exact ev_ireturn dX7_guest_63 rfl
theorem B58_64 {C : Nat → List AV → Mem → Res → Prop} {μ : Mem} {res : Res} {x1 x2 x4 : Int32} {r0 o0 r3 o3 : Nat} : EvE C 58 64 [some (.inr (r0, 0, o0)), some (.inl x1), some (.inl x2), some (.inr (r3, 20, o3)), some (.inl x4)] [] μ res ↔ vp_in x4 100 ∧ ((¬ (μ r3 25 o3 x4.toNatClampNeg) = (-1) → vp_in x4 100 ∧ vp_in (μ r3 25 o3 x4.toNatClampNeg) 120 ∧ EvE C 58 98 [some (.inr (r0, 0, o0)), some (.inl x1), some (.inl x2), some (.inr (r3, 20, o3)), some (.inl x4)] [.inl (μ (r0 + 1) 12 o0 (μ r3 25 o3 x4.toNatClampNeg).toNatClampNeg)] μ res) ∧ (¬ (¬ (μ r3 25 o3 x4.toNatClampNeg) = (-1)) → EvE C 58 98 [some (.inr (r0, 0, o0)), some (.inl x1), some (.inl x2), some (.inr (r3, 20, o3)), some (.inl x4)] [.inl (-3)] μ res)) := by
  refine (ev_aload_n dX7_guest_64 rfl).trans ?_
  refine (ev_getR dX7_guest_65 f_7_173 rfl).trans ((and_iff_right (by decide)).trans ?_)
  refine (ev_iload dX7_guest_68 rfl).trans ?_
  refine (ev_iald2 dX7_guest_70 (by decide) (v := (μ r3 25 o3 x4.toNatClampNeg)) (rfl)).trans (and_congr_right fun _ => ?_)
  refine (ev_iconst dX7_guest_71 (w := (-1)) (by decide)).trans ?_
  refine (ev_icmp dX7_guest_72 (t := 80) (by decide)).trans (and_congr (imp_congr Iff.rfl ?_) (imp_congr Iff.rfl ?_))
  · refine (ev_aload_n dX7_guest_80 rfl).trans ?_
    refine (ev_getR dX7_guest_81 f_7_10 rfl).trans ((and_iff_right (by decide)).trans ?_)
    refine (ev_getR dX7_guest_84 f_7_118 rfl).trans ((and_iff_right (by decide)).trans ?_)
    refine (ev_getR dX7_guest_87 f_7_144 rfl).trans ((and_iff_right (by decide)).trans ?_)
    refine (ev_aload_n dX7_guest_90 rfl).trans ?_
    refine (ev_getR dX7_guest_91 f_7_173 rfl).trans ((and_iff_right (by decide)).trans ?_)
    refine (ev_iload dX7_guest_94 rfl).trans ?_
    refine (ev_iald2 dX7_guest_96 (by decide) (v := (μ r3 25 o3 x4.toNatClampNeg)) (rfl)).trans (and_congr_right fun _ => ?_)
    refine (ev_iald2 dX7_guest_97 (by decide) (v := (μ (r0 + 1) 12 o0 (μ r3 25 o3 x4.toNatClampNeg).toNatClampNeg)) (rfl)).trans (and_congr_right fun _ => ?_)
    exact Iff.rfl
  · refine (ev_bipush dX7_guest_75 (w := (-3)) (by decide)).trans ?_
    refine (ev_goto dX7_guest_77 (t := 98) (by decide)).trans ?_
    exact Iff.rfl
theorem B58_98 {C : Nat → List AV → Mem → Res → Prop} {μ : Mem} {res : Res} {x1 x2 x4 w0 : Int32} {r0 o0 r3 o3 : Nat} : EvE C 58 98 [some (.inr (r0, 0, o0)), some (.inl x1), some (.inl x2), some (.inr (r3, 20, o3)), some (.inl x4)] [.inl w0] μ res ↔ res = (some w0, μ) := by
  exact ev_ireturn dX7_guest_98 rfl
theorem B58_99 {C : Nat → List AV → Mem → Res → Prop} {μ : Mem} {res : Res} {x1 x2 x4 : Int32} {r0 o0 r3 o3 : Nat} : EvE C 58 99 [some (.inr (r0, 0, o0)), some (.inl x1), some (.inl x2), some (.inr (r3, 20, o3)), some (.inl x4)] [] μ res ↔ vp_in x4 100 ∧ res = (some (μ r3 26 o3 x4.toNatClampNeg), μ) := by
  refine (ev_aload_n dX7_guest_99 rfl).trans ?_
  refine (ev_getR dX7_guest_100 f_7_176 rfl).trans ((and_iff_right (by decide)).trans ?_)
  refine (ev_iload dX7_guest_103 rfl).trans ?_
  refine (ev_iald2 dX7_guest_105 (by decide) (v := (μ r3 26 o3 x4.toNatClampNeg)) (rfl)).trans (and_congr_right fun _ => ?_)
  exact ev_ireturn dX7_guest_106 rfl
theorem B58_107 {C : Nat → List AV → Mem → Res → Prop} {μ : Mem} {res : Res} {x1 x2 x4 : Int32} {r0 o0 r3 o3 : Nat} : EvE C 58 107 [some (.inr (r0, 0, o0)), some (.inl x1), some (.inl x2), some (.inr (r3, 20, o3)), some (.inl x4)] [] μ res ↔ vp_in x4 100 ∧ res = (some (μ r3 27 o3 x4.toNatClampNeg), μ) := by
  refine (ev_aload_n dX7_guest_107 rfl).trans ?_
  refine (ev_getR dX7_guest_108 f_7_179 rfl).trans ((and_iff_right (by decide)).trans ?_)
  refine (ev_iload dX7_guest_111 rfl).trans ?_
  refine (ev_iald2 dX7_guest_113 (by decide) (v := (μ r3 27 o3 x4.toNatClampNeg)) (rfl)).trans (and_congr_right fun _ => ?_)
  exact ev_ireturn dX7_guest_114 rfl
theorem B58_115 {C : Nat → List AV → Mem → Res → Prop} {μ : Mem} {res : Res} {x1 x2 x4 : Int32} {r0 o0 r3 o3 : Nat} : EvE C 58 115 [some (.inr (r0, 0, o0)), some (.inl x1), some (.inl x2), some (.inr (r3, 20, o3)), some (.inl x4)] [] μ res ↔ res = (some (-1), μ) := by
  refine (ev_iconst dX7_guest_115 (w := (-1)) (by decide)).trans ?_
  exact ev_ireturn dX7_guest_116 rfl
/-! X7_count -/
theorem B59_0 {C : Nat → List AV → Mem → Res → Prop} {μ : Mem} {res : Res} {x1 : Int32} {r0 o0 : Nat} : EvE C 59 0 [some (.inr (r0, 0, o0)), some (.inl x1)] [] μ res ↔ ((∀ k t : Nat, ([64, 72, 80, 94, 108, 119, 130, 141, 152, 160, 171, 182] : List Nat)[k]? = some t → x1 = nI k → EvE C 59 t [some (.inr (r0, 0, o0)), some (.inl x1)] [] μ res) ∧ ((∀ k : Nat, k < 12 → ¬ x1 = nI k) → EvE C 59 198 [some (.inr (r0, 0, o0)), some (.inl x1)] [] μ res)) := by
  refine (ev_iload_n dX7_count_0 rfl).trans ?_
  exact ev_tab dX7_count_1 (ts := [64, 72, 80, 94, 108, 119, 130, 141, 152, 160, 171, 182]) (td := 198) (by decide) (by decide) (by decide) (by decide)
theorem B59_64 {C : Nat → List AV → Mem → Res → Prop} {μ : Mem} {res : Res} {x1 : Int32} {r0 o0 : Nat} : EvE C 59 64 [some (.inr (r0, 0, o0)), some (.inl x1)] [] μ res ↔ res = (some (μ (r0 + 1) 1 o0 1), μ) := by
  refine (ev_aload_n dX7_count_64 rfl).trans ?_
  refine (ev_getR dX7_count_65 f_7_10 rfl).trans ((and_iff_right (by decide)).trans ?_)
  refine (ev_getI2 dX7_count_68 f_7_27 rfl (v := (μ (r0 + 1) 1 o0 1)) (rfl)).trans ((and_iff_right (by decide)).trans ?_)
  exact ev_ireturn dX7_count_71 rfl
theorem B59_72 {C : Nat → List AV → Mem → Res → Prop} {μ : Mem} {res : Res} {x1 : Int32} {r0 o0 : Nat} : EvE C 59 72 [some (.inr (r0, 0, o0)), some (.inl x1)] [] μ res ↔ res = (some (μ (r0 + 1) 1 o0 2), μ) := by
  refine (ev_aload_n dX7_count_72 rfl).trans ?_
  refine (ev_getR dX7_count_73 f_7_10 rfl).trans ((and_iff_right (by decide)).trans ?_)
  refine (ev_getI2 dX7_count_76 f_7_30 rfl (v := (μ (r0 + 1) 1 o0 2)) (rfl)).trans ((and_iff_right (by decide)).trans ?_)
  exact ev_ireturn dX7_count_79 rfl
theorem B59_80 {C : Nat → List AV → Mem → Res → Prop} {μ : Mem} {res : Res} {x1 : Int32} {r0 o0 : Nat} : EvE C 59 80 [some (.inr (r0, 0, o0)), some (.inl x1)] [] μ res ↔ res = (some (μ (r0 + 1) 9 o0 5), μ) := by
  refine (ev_aload_n dX7_count_80 rfl).trans ?_
  refine (ev_getR dX7_count_81 f_7_10 rfl).trans ((and_iff_right (by decide)).trans ?_)
  refine (ev_getR dX7_count_84 f_7_118 rfl).trans ((and_iff_right (by decide)).trans ?_)
  refine (ev_getR dX7_count_87 f_7_134 rfl).trans ((and_iff_right (by decide)).trans ?_)
  refine (ev_getI2 dX7_count_90 f_7_180 rfl (v := (μ (r0 + 1) 9 o0 5)) (rfl)).trans ((and_iff_right (by decide)).trans ?_)
  exact ev_ireturn dX7_count_93 rfl
theorem B59_94 {C : Nat → List AV → Mem → Res → Prop} {μ : Mem} {res : Res} {x1 : Int32} {r0 o0 : Nat} : EvE C 59 94 [some (.inr (r0, 0, o0)), some (.inl x1)] [] μ res ↔ res = (some (μ (r0 + 1) 21 o0 5), μ) := by
  refine (ev_aload_n dX7_count_94 rfl).trans ?_
  refine (ev_getR dX7_count_95 f_7_10 rfl).trans ((and_iff_right (by decide)).trans ?_)
  refine (ev_getR dX7_count_98 f_7_55 rfl).trans ((and_iff_right (by decide)).trans ?_)
  refine (ev_getR dX7_count_101 f_7_171 rfl).trans ((and_iff_right (by decide)).trans ?_)
  refine (ev_getI2 dX7_count_104 f_7_180 rfl (v := (μ (r0 + 1) 21 o0 5)) (rfl)).trans ((and_iff_right (by decide)).trans ?_)
  exact ev_ireturn dX7_count_107 rfl
theorem B59_108 {C : Nat → List AV → Mem → Res → Prop} {μ : Mem} {res : Res} {x1 : Int32} {r0 o0 : Nat} : EvE C 59 108 [some (.inr (r0, 0, o0)), some (.inl x1)] [] μ res ↔ res = (some (μ (r0 + 1) 20 o0 7), μ) := by
  refine (ev_aload_n dX7_count_108 rfl).trans ?_
  refine (ev_getR dX7_count_109 f_7_10 rfl).trans ((and_iff_right (by decide)).trans ?_)
  refine (ev_getR dX7_count_112 f_7_55 rfl).trans ((and_iff_right (by decide)).trans ?_)
  refine (ev_getI2 dX7_count_115 f_7_181 rfl (v := (μ (r0 + 1) 20 o0 7)) (rfl)).trans ((and_iff_right (by decide)).trans ?_)
  exact ev_ireturn dX7_count_118 rfl
theorem B59_119 {C : Nat → List AV → Mem → Res → Prop} {μ : Mem} {res : Res} {x1 : Int32} {r0 o0 : Nat} : EvE C 59 119 [some (.inr (r0, 0, o0)), some (.inl x1)] [] μ res ↔ res = (some (μ (r0 + 1) 20 o0 8), μ) := by
  refine (ev_aload_n dX7_count_119 rfl).trans ?_
  refine (ev_getR dX7_count_120 f_7_10 rfl).trans ((and_iff_right (by decide)).trans ?_)
  refine (ev_getR dX7_count_123 f_7_55 rfl).trans ((and_iff_right (by decide)).trans ?_)
  refine (ev_getI2 dX7_count_126 f_7_184 rfl (v := (μ (r0 + 1) 20 o0 8)) (rfl)).trans ((and_iff_right (by decide)).trans ?_)
  exact ev_ireturn dX7_count_129 rfl
theorem B59_130 {C : Nat → List AV → Mem → Res → Prop} {μ : Mem} {res : Res} {x1 : Int32} {r0 o0 : Nat} : EvE C 59 130 [some (.inr (r0, 0, o0)), some (.inl x1)] [] μ res ↔ res = (some (μ (r0 + 1) 20 o0 9), μ) := by
  refine (ev_aload_n dX7_count_130 rfl).trans ?_
  refine (ev_getR dX7_count_131 f_7_10 rfl).trans ((and_iff_right (by decide)).trans ?_)
  refine (ev_getR dX7_count_134 f_7_55 rfl).trans ((and_iff_right (by decide)).trans ?_)
  refine (ev_getI2 dX7_count_137 f_7_187 rfl (v := (μ (r0 + 1) 20 o0 9)) (rfl)).trans ((and_iff_right (by decide)).trans ?_)
  exact ev_ireturn dX7_count_140 rfl
theorem B59_141 {C : Nat → List AV → Mem → Res → Prop} {μ : Mem} {res : Res} {x1 : Int32} {r0 o0 : Nat} : EvE C 59 141 [some (.inr (r0, 0, o0)), some (.inl x1)] [] μ res ↔ res = (some (μ (r0 + 1) 20 o0 10), μ) := by
  refine (ev_aload_n dX7_count_141 rfl).trans ?_
  refine (ev_getR dX7_count_142 f_7_10 rfl).trans ((and_iff_right (by decide)).trans ?_)
  refine (ev_getR dX7_count_145 f_7_55 rfl).trans ((and_iff_right (by decide)).trans ?_)
  refine (ev_getI2 dX7_count_148 f_7_190 rfl (v := (μ (r0 + 1) 20 o0 10)) (rfl)).trans ((and_iff_right (by decide)).trans ?_)
  exact ev_ireturn dX7_count_151 rfl
theorem B59_152 {C : Nat → List AV → Mem → Res → Prop} {μ : Mem} {res : Res} {x1 : Int32} {r0 o0 : Nat} : EvE C 59 152 [some (.inr (r0, 0, o0)), some (.inl x1)] [] μ res ↔ res = (some (μ (r0 + 1) 1 o0 4), μ) := by
  refine (ev_aload_n dX7_count_152 rfl).trans ?_
  refine (ev_getR dX7_count_153 f_7_10 rfl).trans ((and_iff_right (by decide)).trans ?_)
  refine (ev_getI2 dX7_count_156 f_7_193 rfl (v := (μ (r0 + 1) 1 o0 4)) (rfl)).trans ((and_iff_right (by decide)).trans ?_)
  exact ev_ireturn dX7_count_159 rfl
theorem B59_160 {C : Nat → List AV → Mem → Res → Prop} {μ : Mem} {res : Res} {x1 : Int32} {r0 o0 : Nat} : EvE C 59 160 [some (.inr (r0, 0, o0)), some (.inl x1)] [] μ res ↔ res = (some (μ (r0 + 1) 28 o0 3), μ) := by
  refine (ev_aload_n dX7_count_160 rfl).trans ?_
  refine (ev_getR dX7_count_161 f_7_10 rfl).trans ((and_iff_right (by decide)).trans ?_)
  refine (ev_getR dX7_count_164 f_7_71 rfl).trans ((and_iff_right (by decide)).trans ?_)
  refine (ev_getI2 dX7_count_167 f_7_75 rfl (v := (μ (r0 + 1) 28 o0 3)) (rfl)).trans ((and_iff_right (by decide)).trans ?_)
  exact ev_ireturn dX7_count_170 rfl
theorem B59_171 {C : Nat → List AV → Mem → Res → Prop} {μ : Mem} {res : Res} {x1 : Int32} {r0 o0 : Nat} : EvE C 59 171 [some (.inr (r0, 0, o0)), some (.inl x1)] [] μ res ↔ res = (some (μ (r0 + 1) 8 o0 9), μ) := by
  refine (ev_aload_n dX7_count_171 rfl).trans ?_
  refine (ev_getR dX7_count_172 f_7_10 rfl).trans ((and_iff_right (by decide)).trans ?_)
  refine (ev_getR dX7_count_175 f_7_118 rfl).trans ((and_iff_right (by decide)).trans ?_)
  refine (ev_getI2 dX7_count_178 f_7_196 rfl (v := (μ (r0 + 1) 8 o0 9)) (rfl)).trans ((and_iff_right (by decide)).trans ?_)
  exact ev_ireturn dX7_count_181 rfl
theorem B59_182 {C : Nat → List AV → Mem → Res → Prop} {μ : Mem} {res : Res} {x1 : Int32} {r0 o0 : Nat} : EvE C 59 182 [some (.inr (r0, 0, o0)), some (.inl x1)] [] μ res ↔ (((μ (r0 + 1) 1 o0 3) = 0 → EvE C 59 197 [some (.inr (r0, 0, o0)), some (.inl x1)] [.inl 0] μ res) ∧ (¬ ((μ (r0 + 1) 1 o0 3) = 0) → EvE C 59 197 [some (.inr (r0, 0, o0)), some (.inl x1)] [.inl 1] μ res)) := by
  refine (ev_aload_n dX7_count_182 rfl).trans ?_
  refine (ev_getR dX7_count_183 f_7_10 rfl).trans ((and_iff_right (by decide)).trans ?_)
  refine (ev_getI2 dX7_count_186 f_7_197 rfl (v := (μ (r0 + 1) 1 o0 3)) (rfl)).trans ((and_iff_right (by decide)).trans ?_)
  refine (ev_ifc dX7_count_189 (t := 196) (by decide)).trans (and_congr (imp_congr Iff.rfl ?_) (imp_congr Iff.rfl ?_))
  · refine (ev_iconst dX7_count_196 (w := 0) (by decide)).trans ?_
    exact Iff.rfl
  · refine (ev_iconst dX7_count_192 (w := 1) (by decide)).trans ?_
    refine (ev_goto dX7_count_193 (t := 197) (by decide)).trans ?_
    exact Iff.rfl
theorem B59_197 {C : Nat → List AV → Mem → Res → Prop} {μ : Mem} {res : Res} {x1 w0 : Int32} {r0 o0 : Nat} : EvE C 59 197 [some (.inr (r0, 0, o0)), some (.inl x1)] [.inl w0] μ res ↔ res = (some w0, μ) := by
  exact ev_ireturn dX7_count_197 rfl
theorem B59_198 {C : Nat → List AV → Mem → Res → Prop} {μ : Mem} {res : Res} {x1 : Int32} {r0 o0 : Nat} : EvE C 59 198 [some (.inr (r0, 0, o0)), some (.inl x1)] [] μ res ↔ res = (some (-1), μ) := by
  refine (ev_iconst dX7_count_198 (w := (-1)) (by decide)).trans ?_
  exact ev_ireturn dX7_count_199 rfl
/-! X7_rest -/
theorem B60_0 {C : Nat → List AV → Mem → Res → Prop} {μ : Mem} {res : Res} {x1 : Int32} {r0 o0 : Nat} : EvE C 60 0 [some (.inr (r0, 0, o0)), some (.inl x1)] [] μ res ↔ ∃ v1 μ1, C 70 [.inl x1] μ (some v1, μ1) ∧ ((¬ v1 = 0 → ((¬ (μ1 (r0 + 1) 1 o0 1) = 0 → ∃ μ2, C 64 [.inr (r0, 0, o0), .inl 0, .inl 0] μ1 (none, μ2) ∧ ∃ v3 μ3, C 65 [.inr (r0, 0, o0), .inl x1, .inl 0] μ2 (some v3, μ3) ∧ res = (some v3, μ3)) ∧ (¬ (¬ (μ1 (r0 + 1) 1 o0 1) = 0) → res = (some (-3), μ1)))) ∧ (¬ (¬ v1 = 0) → res = (some (-1), μ1))) := by
  refine (ev_iload_n dX7_rest_0 rfl).trans ?_
  refine (ev_staI dX7_rest_1 c_7_201 (by decide) (As := [.inl x1]) rfl rfl (by decide) rfl (Nat.le_of_ble_eq_true rfl)).trans (exists_congr fun v1 => exists_congr fun μ1 => and_congr_right fun _ => ?_)
  refine (ev_ifc dX7_rest_4 (t := 9) (by decide)).trans (and_congr (imp_congr Iff.rfl ?_) (imp_congr Iff.rfl ?_))
  · refine (ev_aload_n dX7_rest_9 rfl).trans ?_
    refine (ev_getR dX7_rest_10 f_7_10 rfl).trans ((and_iff_right (by decide)).trans ?_)
    refine (ev_getI2 dX7_rest_13 f_7_27 rfl (v := (μ1 (r0 + 1) 1 o0 1)) (rfl)).trans ((and_iff_right (by decide)).trans ?_)
    refine (ev_ifc dX7_rest_16 (t := 22) (by decide)).trans (and_congr (imp_congr Iff.rfl ?_) (imp_congr Iff.rfl ?_))
    · refine (ev_aload_n dX7_rest_22 rfl).trans ?_
      refine (ev_iconst dX7_rest_23 (w := 0) (by decide)).trans ?_
      refine (ev_iconst dX7_rest_24 (w := 0) (by decide)).trans ?_
      refine (ev_virV dX7_rest_25 c_7_204 (by decide) (As := [.inl 0, .inl 0]) rfl rfl rfl rfl (Nat.le_of_ble_eq_true rfl)).trans ((and_iff_right (by decide)).trans (exists_congr fun μ2 => and_congr_right fun _ => ?_))
      refine (ev_aload_n dX7_rest_28 rfl).trans ?_
      refine (ev_iload_n dX7_rest_29 rfl).trans ?_
      refine (ev_iconst dX7_rest_30 (w := 0) (by decide)).trans ?_
      refine (ev_virI dX7_rest_31 c_7_208 (by decide) (As := [.inl x1, .inl 0]) rfl rfl (by decide) rfl (Nat.le_of_ble_eq_true rfl)).trans ((and_iff_right (by decide)).trans (exists_congr fun v3 => exists_congr fun μ3 => and_congr_right fun _ => ?_))
      exact ev_ireturn dX7_rest_34 rfl
    · refine (ev_bipush dX7_rest_19 (w := (-3)) (by decide)).trans ?_
      exact ev_ireturn dX7_rest_21 rfl
  · refine (ev_iconst dX7_rest_7 (w := (-1)) (by decide)).trans ?_
    exact ev_ireturn dX7_rest_8 rfl
/-! X7_bears -/
theorem B61_0 {C : Nat → List AV → Mem → Res → Prop} {μ : Mem} {res : Res} {x1 x2 : Int32} {r0 o0 : Nat} : EvE C 61 0 [some (.inr (r0, 0, o0)), some (.inl x1), some (.inl x2), none, none] [] μ res ↔ ∃ v1 μ1, C 69 [.inl x1] μ (some v1, μ1) ∧ ((v1 = 0 → EvE C 61 14 [some (.inr (r0, 0, o0)), some (.inl x1), some (.inl x2), none, none] [] μ1 res) ∧ (¬ (v1 = 0) → ∃ v2 μ2, C 70 [.inl x2] μ1 (some v2, μ2) ∧ ((¬ v2 = 0 → ((¬ (μ2 (r0 + 1) 1 o0 1) = 0 → EvE C 61 35 [some (.inr (r0, 0, o0)), some (.inl x1), some (.inl x2), some (.inl (-4)), some (.inl 0)] [] μ2 res) ∧ (¬ (¬ (μ2 (r0 + 1) 1 o0 1) = 0) → res = (some (-3), μ2)))) ∧ (¬ (¬ v2 = 0) → EvE C 61 14 [some (.inr (r0, 0, o0)), some (.inl x1), some (.inl x2), none, none] [] μ2 res)))) := by
  refine (ev_iload_n dX7_bears_0 rfl).trans ?_
  refine (ev_staI dX7_bears_1 c_7_68 (by decide) (As := [.inl x1]) rfl rfl (by decide) rfl (Nat.le_of_ble_eq_true rfl)).trans (exists_congr fun v1 => exists_congr fun μ1 => and_congr_right fun _ => ?_)
  refine (ev_ifc dX7_bears_4 (t := 14) (by decide)).trans (and_congr (imp_congr Iff.rfl ?_) (imp_congr Iff.rfl ?_))
  · exact Iff.rfl
  · refine (ev_iload_n dX7_bears_7 rfl).trans ?_
    refine (ev_staI dX7_bears_8 c_7_201 (by decide) (As := [.inl x2]) rfl rfl (by decide) rfl (Nat.le_of_ble_eq_true rfl)).trans (exists_congr fun v2 => exists_congr fun μ2 => and_congr_right fun _ => ?_)
    refine (ev_ifc dX7_bears_11 (t := 16) (by decide)).trans (and_congr (imp_congr Iff.rfl ?_) (imp_congr Iff.rfl ?_))
    · refine (ev_aload_n dX7_bears_16 rfl).trans ?_
      refine (ev_getR dX7_bears_17 f_7_10 rfl).trans ((and_iff_right (by decide)).trans ?_)
      refine (ev_getI2 dX7_bears_20 f_7_27 rfl (v := (μ2 (r0 + 1) 1 o0 1)) (rfl)).trans ((and_iff_right (by decide)).trans ?_)
      refine (ev_ifc dX7_bears_23 (t := 29) (by decide)).trans (and_congr (imp_congr Iff.rfl ?_) (imp_congr Iff.rfl ?_))
      · refine (ev_bipush dX7_bears_29 (w := (-4)) (by decide)).trans ?_
        refine (ev_istore_n dX7_bears_31 (Nat.le_of_ble_eq_true rfl) rfl).trans ?_
        refine (ev_iconst dX7_bears_32 (w := 0) (by decide)).trans ?_
        refine (ev_istore dX7_bears_33 (Nat.le_of_ble_eq_true rfl) rfl).trans ?_
        exact Iff.rfl
      · refine (ev_bipush dX7_bears_26 (w := (-3)) (by decide)).trans ?_
        exact ev_ireturn dX7_bears_28 rfl
    · exact Iff.rfl
theorem B61_14 {C : Nat → List AV → Mem → Res → Prop} {μ : Mem} {res : Res} {x1 x2 : Int32} {r0 o0 : Nat} {u3 u4 : Option AV} : EvE C 61 14 [some (.inr (r0, 0, o0)), some (.inl x1), some (.inl x2), u3, u4] [] μ res ↔ res = (some (-1), μ) := by
  refine (ev_iconst dX7_bears_14 (w := (-1)) (by decide)).trans ?_
  exact ev_ireturn dX7_bears_15 rfl
theorem B61_35 {C : Nat → List AV → Mem → Res → Prop} {μ : Mem} {res : Res} {x1 x2 x3 x4 : Int32} {r0 o0 : Nat} : EvE C 61 35 [some (.inr (r0, 0, o0)), some (.inl x1), some (.inl x2), some (.inl x3), some (.inl x4)] [] μ res ↔ ((30 < x4 → EvE C 61 72 [some (.inr (r0, 0, o0)), some (.inl x1), some (.inl x2), some (.inl x3), some (.inl x4)] [] μ res) ∧ (¬ (30 < x4) → ∃ μ1, C 64 [.inr (r0, 0, o0), .inl x1, .inl x4] μ (none, μ1) ∧ ∃ v2 μ2, C 65 [.inr (r0, 0, o0), .inl x2, .inl 0] μ1 (some v2, μ2) ∧ ((¬ v2 = (-4) → EvE C 61 35 [some (.inr (r0, 0, o0)), some (.inl x1), some (.inl x2), some (.inl x4), some (.inl (x4 + 1))] [] μ2 res) ∧ (¬ (¬ v2 = (-4)) → EvE C 61 72 [some (.inr (r0, 0, o0)), some (.inl x1), some (.inl x2), some (.inl x3), some (.inl x4)] [] μ2 res)))) := by
  refine (ev_iload dX7_bears_35 rfl).trans ?_
  refine (ev_bipush dX7_bears_37 (w := 30) (by decide)).trans ?_
  refine (ev_icmp dX7_bears_39 (t := 72) (by decide)).trans (and_congr (imp_congr Iff.rfl ?_) (imp_congr Iff.rfl ?_))
  · exact Iff.rfl
  · refine (ev_aload_n dX7_bears_42 rfl).trans ?_
    refine (ev_iload_n dX7_bears_43 rfl).trans ?_
    refine (ev_iload dX7_bears_44 rfl).trans ?_
    refine (ev_virV dX7_bears_46 c_7_204 (by decide) (As := [.inl x1, .inl x4]) rfl rfl rfl rfl (Nat.le_of_ble_eq_true rfl)).trans ((and_iff_right (by decide)).trans (exists_congr fun μ1 => and_congr_right fun _ => ?_))
    refine (ev_aload_n dX7_bears_49 rfl).trans ?_
    refine (ev_iload_n dX7_bears_50 rfl).trans ?_
    refine (ev_iconst dX7_bears_51 (w := 0) (by decide)).trans ?_
    refine (ev_virI dX7_bears_52 c_7_208 (by decide) (As := [.inl x2, .inl 0]) rfl rfl (by decide) rfl (Nat.le_of_ble_eq_true rfl)).trans ((and_iff_right (by decide)).trans (exists_congr fun v2 => exists_congr fun μ2 => and_congr_right fun _ => ?_))
    refine (ev_bipush dX7_bears_55 (w := (-4)) (by decide)).trans ?_
    refine (ev_icmp dX7_bears_57 (t := 63) (by decide)).trans (and_congr (imp_congr Iff.rfl ?_) (imp_congr Iff.rfl ?_))
    · refine (ev_iload dX7_bears_63 rfl).trans ?_
      refine (ev_istore_n dX7_bears_65 (Nat.le_of_ble_eq_true rfl) rfl).trans ?_
      refine (ev_iinc dX7_bears_66 rfl (w := 1) (by decide) rfl).trans ?_
      refine (ev_goto dX7_bears_69 (t := 35) (by decide)).trans ?_
      exact Iff.rfl
    · refine (ev_goto dX7_bears_60 (t := 72) (by decide)).trans ?_
      exact Iff.rfl
theorem B61_72 {C : Nat → List AV → Mem → Res → Prop} {μ : Mem} {res : Res} {x1 x2 x3 x4 : Int32} {r0 o0 : Nat} : EvE C 61 72 [some (.inr (r0, 0, o0)), some (.inl x1), some (.inl x2), some (.inl x3), some (.inl x4)] [] μ res ↔ res = (some x3, μ) := by
  refine (ev_iload_n dX7_bears_72 rfl).trans ?_
  exact ev_ireturn dX7_bears_73 rfl
/-! X7_best -/
theorem B62_0 {C : Nat → List AV → Mem → Res → Prop} {μ : Mem} {res : Res} {x1 x2 x3 x4 : Int32} {r0 o0 : Nat} : EvE C 62 0 [some (.inr (r0, 0, o0)), some (.inl x1), some (.inl x2), some (.inl x3), some (.inl x4), none, none, none, none, none, none] [] μ res ↔ ∃ v1 μ1, C 68 [.inr (r0, 0, o0), .inl x1] μ (some v1, μ1) ∧ ((v1 = 0 → EvE C 62 33 [some (.inr (r0, 0, o0)), some (.inl x1), some (.inl x2), some (.inl x3), some (.inl x4), none, none, none, none, none, none] [] μ1 res) ∧ (¬ (v1 = 0) → ∃ v2 μ2, C 69 [.inl x2] μ1 (some v2, μ2) ∧ ((v2 = 0 → EvE C 62 33 [some (.inr (r0, 0, o0)), some (.inl x1), some (.inl x2), some (.inl x3), some (.inl x4), none, none, none, none, none, none] [] μ2 res) ∧ (¬ (v2 = 0) → ∃ v3 μ3, C 72 [.inl x3, .inl 0, .inl 30] μ2 (some v3, μ3) ∧ ((v3 = 0 → EvE C 62 33 [some (.inr (r0, 0, o0)), some (.inl x1), some (.inl x2), some (.inl x3), some (.inl x4), none, none, none, none, none, none] [] μ3 res) ∧ (¬ (v3 = 0) → ∃ v4 μ4, C 70 [.inl x4] μ3 (some v4, μ4) ∧ ((¬ v4 = 0 → EvE C 62 45 [some (.inr (r0, 0, o0)), some (.inl x1), some (.inl x2), some (.inl x3), some (.inl x4), some (.inl (-4)), some (.inl 0), some (.inl 0), none, none, none] [] μ4 res) ∧ (¬ (¬ v4 = 0) → EvE C 62 33 [some (.inr (r0, 0, o0)), some (.inl x1), some (.inl x2), some (.inl x3), some (.inl x4), none, none, none, none, none, none] [] μ4 res)))))))) := by
  refine (ev_aload_n dX7_best_0 rfl).trans ?_
  refine (ev_iload_n dX7_best_1 rfl).trans ?_
  refine (ev_virI dX7_best_2 c_7_37 (by decide) (As := [.inl x1]) rfl rfl (by decide) rfl (Nat.le_of_ble_eq_true rfl)).trans ((and_iff_right (by decide)).trans (exists_congr fun v1 => exists_congr fun μ1 => and_congr_right fun _ => ?_))
  refine (ev_ifc dX7_best_5 (t := 33) (by decide)).trans (and_congr (imp_congr Iff.rfl ?_) (imp_congr Iff.rfl ?_))
  · exact Iff.rfl
  · refine (ev_iload_n dX7_best_8 rfl).trans ?_
    refine (ev_staI dX7_best_9 c_7_68 (by decide) (As := [.inl x2]) rfl rfl (by decide) rfl (Nat.le_of_ble_eq_true rfl)).trans (exists_congr fun v2 => exists_congr fun μ2 => and_congr_right fun _ => ?_)
    refine (ev_ifc dX7_best_12 (t := 33) (by decide)).trans (and_congr (imp_congr Iff.rfl ?_) (imp_congr Iff.rfl ?_))
    · exact Iff.rfl
    · refine (ev_iload_n dX7_best_15 rfl).trans ?_
      refine (ev_iconst dX7_best_16 (w := 0) (by decide)).trans ?_
      refine (ev_bipush dX7_best_17 (w := 30) (by decide)).trans ?_
      refine (ev_staI dX7_best_19 c_7_41 (by decide) (As := [.inl x3, .inl 0, .inl 30]) rfl rfl (by decide) rfl (Nat.le_of_ble_eq_true rfl)).trans (exists_congr fun v3 => exists_congr fun μ3 => and_congr_right fun _ => ?_)
      refine (ev_ifc dX7_best_22 (t := 33) (by decide)).trans (and_congr (imp_congr Iff.rfl ?_) (imp_congr Iff.rfl ?_))
      · exact Iff.rfl
      · refine (ev_iload dX7_best_25 rfl).trans ?_
        refine (ev_staI dX7_best_27 c_7_201 (by decide) (As := [.inl x4]) rfl rfl (by decide) rfl (Nat.le_of_ble_eq_true rfl)).trans (exists_congr fun v4 => exists_congr fun μ4 => and_congr_right fun _ => ?_)
        refine (ev_ifc dX7_best_30 (t := 35) (by decide)).trans (and_congr (imp_congr Iff.rfl ?_) (imp_congr Iff.rfl ?_))
        · refine (ev_bipush dX7_best_35 (w := (-4)) (by decide)).trans ?_
          refine (ev_istore dX7_best_37 (Nat.le_of_ble_eq_true rfl) rfl).trans ?_
          refine (ev_iconst dX7_best_39 (w := 0) (by decide)).trans ?_
          refine (ev_istore dX7_best_40 (Nat.le_of_ble_eq_true rfl) rfl).trans ?_
          refine (ev_iconst dX7_best_42 (w := 0) (by decide)).trans ?_
          refine (ev_istore dX7_best_43 (Nat.le_of_ble_eq_true rfl) rfl).trans ?_
          exact Iff.rfl
        · exact Iff.rfl
theorem B62_33 {C : Nat → List AV → Mem → Res → Prop} {μ : Mem} {res : Res} {x1 x2 x3 x4 : Int32} {r0 o0 : Nat} {u5 u6 u7 u8 u9 u10 : Option AV} : EvE C 62 33 [some (.inr (r0, 0, o0)), some (.inl x1), some (.inl x2), some (.inl x3), some (.inl x4), u5, u6, u7, u8, u9, u10] [] μ res ↔ res = (some (-1), μ) := by
  refine (ev_iconst dX7_best_33 (w := (-1)) (by decide)).trans ?_
  exact ev_ireturn dX7_best_34 rfl
theorem B62_45 {C : Nat → List AV → Mem → Res → Prop} {μ : Mem} {res : Res} {x1 x2 x3 x4 x5 x6 x7 : Int32} {r0 o0 : Nat} {u8 u9 u10 : Option AV} : EvE C 62 45 [some (.inr (r0, 0, o0)), some (.inl x1), some (.inl x2), some (.inl x3), some (.inl x4), some (.inl x5), some (.inl x6), some (.inl x7), u8, u9, u10] [] μ res ↔ ((3 < x7 → ((x5 = (-4) → EvE C 62 181 [some (.inr (r0, 0, o0)), some (.inl x1), some (.inl x2), some (.inl x3), some (.inl x4), some (.inl x5), some (.inl x6), some (.inl x7), u8, u9, u10] [] μ res) ∧ (¬ (x5 = (-4)) → EvE C 62 181 [some (.inr (r0, 0, o0)), some (.inl x1), some (.inl x2), some (.inl x3), some (.inl x4), some (.inl x5), some (.inl x6), some (.inl x7), u8, u9, u10] [] (mset μ r0 0 o0 2 x6) res))) ∧ (¬ (3 < x7) → EvE C 62 54 [some (.inr (r0, 0, o0)), some (.inl x1), some (.inl x2), some (.inl x3), some (.inl x4), some (.inl x5), some (.inl x6), some (.inl x7), some (.inl 0), u9, u10] [] μ res)) := by
  refine (ev_iload dX7_best_45 rfl).trans ?_
  refine (ev_iconst dX7_best_47 (w := 3) (by decide)).trans ?_
  refine (ev_icmp dX7_best_48 (t := 168) (by decide)).trans (and_congr (imp_congr Iff.rfl ?_) (imp_congr Iff.rfl ?_))
  · refine (ev_iload dX7_best_168 rfl).trans ?_
    refine (ev_bipush dX7_best_170 (w := (-4)) (by decide)).trans ?_
    refine (ev_icmp dX7_best_172 (t := 181) (by decide)).trans (and_congr (imp_congr Iff.rfl ?_) (imp_congr Iff.rfl ?_))
    · exact Iff.rfl
    · refine (ev_aload_n dX7_best_175 rfl).trans ?_
      refine (ev_iload dX7_best_176 rfl).trans ?_
      refine (ev_put dX7_best_178 f_7_19 rfl (by decide)).trans ((and_iff_right (by decide)).trans ?_)
      exact Iff.rfl
  · refine (ev_iconst dX7_best_51 (w := 0) (by decide)).trans ?_
    refine (ev_istore dX7_best_52 (Nat.le_of_ble_eq_true rfl) rfl).trans ?_
    exact Iff.rfl
theorem B62_54 {C : Nat → List AV → Mem → Res → Prop} {μ : Mem} {res : Res} {x1 x2 x3 x4 x5 x6 x7 x8 : Int32} {r0 o0 : Nat} {u9 u10 : Option AV} : EvE C 62 54 [some (.inr (r0, 0, o0)), some (.inl x1), some (.inl x2), some (.inl x3), some (.inl x4), some (.inl x5), some (.inl x6), some (.inl x7), some (.inl x8), u9, u10] [] μ res ↔ ((3 < x8 → EvE C 62 45 [some (.inr (r0, 0, o0)), some (.inl x1), some (.inl x2), some (.inl x3), some (.inl x4), some (.inl x5), some (.inl x6), some (.inl (x7 + 1)), some (.inl x8), u9, u10] [] μ res) ∧ (¬ (3 < x8) → ∃ μ1, C 64 [.inr (r0, 0, o0), .inl x2, .inl x3] μ (none, μ1) ∧ vp_in x1 6 ∧ vp_in x1 6 ∧ ∃ v2 μ2, C 65 [.inr (r0, 0, o0), .inl x4, .inl 1] (mset (mset μ1 (r0 + 2) 4 x1.toNatClampNeg 1 x7) (r0 + 2) 4 x1.toNatClampNeg 2 x8) (some v2, μ2) ∧ ((v2 = (-4) → EvE C 62 115 [some (.inr (r0, 0, o0)), some (.inl x1), some (.inl x2), some (.inl x3), some (.inl x4), some (.inl x5), some (.inl x6), some (.inl x7), some (.inl x8), u9, u10] [.inl 0] μ2 res) ∧ (¬ (v2 = (-4)) → EvE C 62 115 [some (.inr (r0, 0, o0)), some (.inl x1), some (.inl x2), some (.inl x3), some (.inl x4), some (.inl x5), some (.inl x6), some (.inl x7), some (.inl x8), u9, u10] [.inl 1] μ2 res)))) := by
  refine (ev_iload dX7_best_54 rfl).trans ?_
  refine (ev_iconst dX7_best_56 (w := 3) (by decide)).trans ?_
  refine (ev_icmp dX7_best_57 (t := 162) (by decide)).trans (and_congr (imp_congr Iff.rfl ?_) (imp_congr Iff.rfl ?_))
  · refine (ev_iinc dX7_best_162 rfl (w := 1) (by decide) rfl).trans ?_
    refine (ev_goto dX7_best_165 (t := 45) (by decide)).trans ?_
    exact Iff.rfl
  · refine (ev_aload_n dX7_best_60 rfl).trans ?_
    refine (ev_iload_n dX7_best_61 rfl).trans ?_
    refine (ev_iload_n dX7_best_62 rfl).trans ?_
    refine (ev_virV dX7_best_63 c_7_204 (by decide) (As := [.inl x2, .inl x3]) rfl rfl rfl rfl (Nat.le_of_ble_eq_true rfl)).trans ((and_iff_right (by decide)).trans (exists_congr fun μ1 => and_congr_right fun _ => ?_))
    refine (ev_aload_n dX7_best_66 rfl).trans ?_
    refine (ev_getR dX7_best_67 f_7_16 rfl).trans ((and_iff_right (by decide)).trans ?_)
    refine (ev_getR dX7_best_70 f_7_45 rfl).trans ((and_iff_right (by decide)).trans ?_)
    refine (ev_iload_n dX7_best_73 rfl).trans ?_
    refine (ev_aald dX7_best_74 (by decide)).trans (and_congr_right fun _ => ?_)
    refine (ev_getR dX7_best_75 f_7_49 rfl).trans ((and_iff_right (by decide)).trans ?_)
    refine (ev_iconst dX7_best_78 (w := 1) (by decide)).trans ?_
    refine (ev_iload dX7_best_79 rfl).trans ?_
    refine (ev_iast dX7_best_81 (by decide)).trans ((and_iff_right (by unfold vp_in; decide)).trans ?_)
    refine (ev_aload_n dX7_best_82 rfl).trans ?_
    refine (ev_getR dX7_best_83 f_7_16 rfl).trans ((and_iff_right (by decide)).trans ?_)
    refine (ev_getR dX7_best_86 f_7_45 rfl).trans ((and_iff_right (by decide)).trans ?_)
    refine (ev_iload_n dX7_best_89 rfl).trans ?_
    refine (ev_aald dX7_best_90 (by decide)).trans (and_congr_right fun _ => ?_)
    refine (ev_getR dX7_best_91 f_7_49 rfl).trans ((and_iff_right (by decide)).trans ?_)
    refine (ev_iconst dX7_best_94 (w := 2) (by decide)).trans ?_
    refine (ev_iload dX7_best_95 rfl).trans ?_
    refine (ev_iast dX7_best_97 (by decide)).trans ((and_iff_right (by unfold vp_in; decide)).trans ?_)
    refine (ev_aload_n dX7_best_98 rfl).trans ?_
    refine (ev_iload dX7_best_99 rfl).trans ?_
    refine (ev_iconst dX7_best_101 (w := 1) (by decide)).trans ?_
    refine (ev_virI dX7_best_102 c_7_208 (by decide) (As := [.inl x4, .inl 1]) rfl rfl (by decide) rfl (Nat.le_of_ble_eq_true rfl)).trans ((and_iff_right (by decide)).trans (exists_congr fun v2 => exists_congr fun μ2 => and_congr_right fun _ => ?_))
    refine (ev_bipush dX7_best_105 (w := (-4)) (by decide)).trans ?_
    refine (ev_icmp dX7_best_107 (t := 114) (by decide)).trans (and_congr (imp_congr Iff.rfl ?_) (imp_congr Iff.rfl ?_))
    · refine (ev_iconst dX7_best_114 (w := 0) (by decide)).trans ?_
      exact Iff.rfl
    · refine (ev_iconst dX7_best_110 (w := 1) (by decide)).trans ?_
      refine (ev_goto dX7_best_111 (t := 115) (by decide)).trans ?_
      exact Iff.rfl
theorem B62_115 {C : Nat → List AV → Mem → Res → Prop} {μ : Mem} {res : Res} {x1 x2 x3 x4 x5 x6 x7 x8 w0 : Int32} {r0 o0 : Nat} {u9 u10 : Option AV} : EvE C 62 115 [some (.inr (r0, 0, o0)), some (.inl x1), some (.inl x2), some (.inl x3), some (.inl x4), some (.inl x5), some (.inl x6), some (.inl x7), some (.inl x8), u9, u10] [.inl w0] μ res ↔ ∃ v1 μ1, C 66 [.inr (r0, 0, o0)] μ (some v1, μ1) ∧ ((w0 = 0 → EvE C 62 156 [some (.inr (r0, 0, o0)), some (.inl x1), some (.inl x2), some (.inl x3), some (.inl x4), some (.inl x5), some (.inl x6), some (.inl x7), some (.inl x8), some (.inl w0), some (.inl v1)] [] μ1 res) ∧ (¬ (w0 = 0) → ((x5 = (-4) → EvE C 62 142 [some (.inr (r0, 0, o0)), some (.inl x1), some (.inl x2), some (.inl x3), some (.inl x4), some (.inl x5), some (.inl x6), some (.inl x7), some (.inl x8), some (.inl w0), some (.inl v1)] [] μ1 res) ∧ (¬ (x5 = (-4)) → ((x6 ≤ v1 → EvE C 62 156 [some (.inr (r0, 0, o0)), some (.inl x1), some (.inl x2), some (.inl x3), some (.inl x4), some (.inl x5), some (.inl x6), some (.inl x7), some (.inl x8), some (.inl w0), some (.inl v1)] [] μ1 res) ∧ (¬ (x6 ≤ v1) → EvE C 62 142 [some (.inr (r0, 0, o0)), some (.inl x1), some (.inl x2), some (.inl x3), some (.inl x4), some (.inl x5), some (.inl x6), some (.inl x7), some (.inl x8), some (.inl w0), some (.inl v1)] [] μ1 res)))))) := by
  refine (ev_istore dX7_best_115 (Nat.le_of_ble_eq_true rfl) rfl).trans ?_
  refine (ev_aload_n dX7_best_117 rfl).trans ?_
  refine (ev_virI dX7_best_118 c_7_212 (by decide) (As := []) rfl rfl (by decide) rfl (Nat.le_of_ble_eq_true rfl)).trans ((and_iff_right (by decide)).trans (exists_congr fun v1 => exists_congr fun μ1 => and_congr_right fun _ => ?_))
  refine (ev_istore dX7_best_121 (Nat.le_of_ble_eq_true rfl) rfl).trans ?_
  refine (ev_iload dX7_best_123 rfl).trans ?_
  refine (ev_ifc dX7_best_125 (t := 156) (by decide)).trans (and_congr (imp_congr Iff.rfl ?_) (imp_congr Iff.rfl ?_))
  · exact Iff.rfl
  · refine (ev_iload dX7_best_128 rfl).trans ?_
    refine (ev_bipush dX7_best_130 (w := (-4)) (by decide)).trans ?_
    refine (ev_icmp dX7_best_132 (t := 142) (by decide)).trans (and_congr (imp_congr Iff.rfl ?_) (imp_congr Iff.rfl ?_))
    · exact Iff.rfl
    · refine (ev_iload dX7_best_135 rfl).trans ?_
      refine (ev_iload dX7_best_137 rfl).trans ?_
      refine (ev_icmp dX7_best_139 (t := 156) (by decide)).trans (and_congr (imp_congr Iff.rfl ?_) (imp_congr Iff.rfl ?_))
      · exact Iff.rfl
      · exact Iff.rfl
theorem B62_142 {C : Nat → List AV → Mem → Res → Prop} {μ : Mem} {res : Res} {x1 x2 x3 x4 x5 x6 x7 x8 x9 x10 : Int32} {r0 o0 : Nat} : EvE C 62 142 [some (.inr (r0, 0, o0)), some (.inl x1), some (.inl x2), some (.inl x3), some (.inl x4), some (.inl x5), some (.inl x6), some (.inl x7), some (.inl x8), some (.inl x9), some (.inl x10)] [] μ res ↔ EvE C 62 156 [some (.inr (r0, 0, o0)), some (.inl x1), some (.inl x2), some (.inl x3), some (.inl x4), some (.inl ((10 * x7) + x8)), some (.inl x10), some (.inl x7), some (.inl x8), some (.inl x9), some (.inl x10)] [] μ res := by
  refine (ev_bipush dX7_best_142 (w := 10) (by decide)).trans ?_
  refine (ev_iload dX7_best_144 rfl).trans ?_
  refine (ev_imul dX7_best_146).trans ?_
  refine (ev_iload dX7_best_147 rfl).trans ?_
  refine (ev_iadd dX7_best_149).trans ?_
  refine (ev_istore dX7_best_150 (Nat.le_of_ble_eq_true rfl) rfl).trans ?_
  refine (ev_iload dX7_best_152 rfl).trans ?_
  refine (ev_istore dX7_best_154 (Nat.le_of_ble_eq_true rfl) rfl).trans ?_
  exact Iff.rfl
theorem B62_156 {C : Nat → List AV → Mem → Res → Prop} {μ : Mem} {res : Res} {x1 x2 x3 x4 x5 x6 x7 x8 x9 x10 : Int32} {r0 o0 : Nat} : EvE C 62 156 [some (.inr (r0, 0, o0)), some (.inl x1), some (.inl x2), some (.inl x3), some (.inl x4), some (.inl x5), some (.inl x6), some (.inl x7), some (.inl x8), some (.inl x9), some (.inl x10)] [] μ res ↔ EvE C 62 54 [some (.inr (r0, 0, o0)), some (.inl x1), some (.inl x2), some (.inl x3), some (.inl x4), some (.inl x5), some (.inl x6), some (.inl x7), some (.inl (x8 + 1)), some (.inl x9), some (.inl x10)] [] μ res := by
  refine (ev_iinc dX7_best_156 rfl (w := 1) (by decide) rfl).trans ?_
  refine (ev_goto dX7_best_159 (t := 54) (by decide)).trans ?_
  exact Iff.rfl
theorem B62_181 {C : Nat → List AV → Mem → Res → Prop} {μ : Mem} {res : Res} {x1 x2 x3 x4 x5 x6 x7 : Int32} {r0 o0 : Nat} {u8 u9 u10 : Option AV} : EvE C 62 181 [some (.inr (r0, 0, o0)), some (.inl x1), some (.inl x2), some (.inl x3), some (.inl x4), some (.inl x5), some (.inl x6), some (.inl x7), u8, u9, u10] [] μ res ↔ res = (some x5, μ) := by
  refine (ev_iload dX7_best_181 rfl).trans ?_
  exact ev_ireturn dX7_best_183 rfl
/-! X7_price -/
theorem B63_0 {C : Nat → List AV → Mem → Res → Prop} {μ : Mem} {res : Res} {r0 o0 : Nat} : EvE C 63 0 [some (.inr (r0, 0, o0))] [] μ res ↔ res = (some (μ r0 0 o0 2), μ) := by
  refine (ev_aload_n dX7_price_0 rfl).trans ?_
  refine (ev_getI2 dX7_price_1 f_7_19 rfl (v := (μ r0 0 o0 2)) (rfl)).trans ((and_iff_right (by decide)).trans ?_)
  exact ev_ireturn dX7_price_4 rfl
/-! X7_beginTrial -/
theorem B64_0 {C : Nat → List AV → Mem → Res → Prop} {μ : Mem} {res : Res} {x1 x2 : Int32} {r0 o0 : Nat} : EvE C 64 0 [some (.inr (r0, 0, o0)), some (.inl x1), some (.inl x2)] [] μ res ↔ ∃ μ1, C 23 [.inr ((r0 + 2), 1, o0), .inr ((r0 + 1), 1, o0)] μ (none, μ1) ∧ ((x2 ≤ 0 → EvE C 64 47 [some (.inr (r0, 0, o0)), some (.inl x1), some (.inl x2)] [] (mset μ1 (r0 + 2) 28 o0 3 0) res) ∧ (¬ (x2 ≤ 0) → ∃ μ2, C 43 [.inr ((r0 + 2), 28, o0), .inl ((μ1 (r0 + 2) 1 o0 2) + 1), .inl x1, .inl x2] (mset μ1 (r0 + 2) 28 o0 3 0) (none, μ2) ∧ EvE C 64 47 [some (.inr (r0, 0, o0)), some (.inl x1), some (.inl x2)] [] μ2 res)) := by
  refine (ev_aload_n dX7_beginTrial_0 rfl).trans ?_
  refine (ev_getR dX7_beginTrial_1 f_7_16 rfl).trans ((and_iff_right (by decide)).trans ?_)
  refine (ev_aload_n dX7_beginTrial_4 rfl).trans ?_
  refine (ev_getR dX7_beginTrial_5 f_7_10 rfl).trans ((and_iff_right (by decide)).trans ?_)
  refine (ev_virV dX7_beginTrial_8 c_7_216 (by decide) (As := [.inr ((r0 + 1), 1, o0)]) rfl rfl rfl rfl (Nat.le_of_ble_eq_true rfl)).trans ((and_iff_right (by decide)).trans (exists_congr fun μ1 => and_congr_right fun _ => ?_))
  refine (ev_aload_n dX7_beginTrial_11 rfl).trans ?_
  refine (ev_getR dX7_beginTrial_12 f_7_16 rfl).trans ((and_iff_right (by decide)).trans ?_)
  refine (ev_getR dX7_beginTrial_15 f_7_71 rfl).trans ((and_iff_right (by decide)).trans ?_)
  refine (ev_iconst dX7_beginTrial_18 (w := 0) (by decide)).trans ?_
  refine (ev_put dX7_beginTrial_19 f_7_75 rfl (by decide)).trans ((and_iff_right (by decide)).trans ?_)
  refine (ev_iload_n dX7_beginTrial_22 rfl).trans ?_
  refine (ev_ifc dX7_beginTrial_23 (t := 47) (by decide)).trans (and_congr (imp_congr Iff.rfl ?_) (imp_congr Iff.rfl ?_))
  · exact Iff.rfl
  · refine (ev_aload_n dX7_beginTrial_26 rfl).trans ?_
    refine (ev_getR dX7_beginTrial_27 f_7_16 rfl).trans ((and_iff_right (by decide)).trans ?_)
    refine (ev_getR dX7_beginTrial_30 f_7_71 rfl).trans ((and_iff_right (by decide)).trans ?_)
    refine (ev_aload_n dX7_beginTrial_33 rfl).trans ?_
    refine (ev_getR dX7_beginTrial_34 f_7_16 rfl).trans ((and_iff_right (by decide)).trans ?_)
    refine (ev_getI2 dX7_beginTrial_37 f_7_30 rfl (v := (μ1 (r0 + 2) 1 o0 2)) ((mget_a (by decide)).trans (rfl))).trans ((and_iff_right (by decide)).trans ?_)
    refine (ev_iconst dX7_beginTrial_40 (w := 1) (by decide)).trans ?_
    refine (ev_iadd dX7_beginTrial_41).trans ?_
    refine (ev_iload_n dX7_beginTrial_42 rfl).trans ?_
    refine (ev_iload_n dX7_beginTrial_43 rfl).trans ?_
    refine (ev_virV dX7_beginTrial_44 c_7_80 (by decide) (As := [.inl ((μ1 (r0 + 2) 1 o0 2) + 1), .inl x1, .inl x2]) rfl rfl rfl rfl (Nat.le_of_ble_eq_true rfl)).trans ((and_iff_right (by decide)).trans (exists_congr fun μ2 => and_congr_right fun _ => ?_))
    exact Iff.rfl
theorem B64_47 {C : Nat → List AV → Mem → Res → Prop} {μ : Mem} {res : Res} {x1 x2 : Int32} {r0 o0 : Nat} : EvE C 64 47 [some (.inr (r0, 0, o0)), some (.inl x1), some (.inl x2)] [] μ res ↔ res = (none, μ) := by
  exact ev_return dX7_beginTrial_47 rfl
/-! X7_firstOfRest -/
theorem B65_0 {C : Nat → List AV → Mem → Res → Prop} {μ : Mem} {res : Res} {x1 x2 : Int32} {r0 o0 : Nat} : EvE C 65 0 [some (.inr (r0, 0, o0)), some (.inl x1), some (.inl x2), none, none, none, none] [] μ res ↔ EvE C 65 9 [some (.inr (r0, 0, o0)), some (.inl x1), some (.inl x2), some (.inl (-4)), some (.inl 0), some (.inl 1), none] [] μ res := by
  refine (ev_bipush dX7_firstOfRest_0 (w := (-4)) (by decide)).trans ?_
  refine (ev_istore_n dX7_firstOfRest_2 (Nat.le_of_ble_eq_true rfl) rfl).trans ?_
  refine (ev_iconst dX7_firstOfRest_3 (w := 0) (by decide)).trans ?_
  refine (ev_istore dX7_firstOfRest_4 (Nat.le_of_ble_eq_true rfl) rfl).trans ?_
  refine (ev_iconst dX7_firstOfRest_6 (w := 1) (by decide)).trans ?_
  refine (ev_istore dX7_firstOfRest_7 (Nat.le_of_ble_eq_true rfl) rfl).trans ?_
  exact Iff.rfl
theorem B65_9 {C : Nat → List AV → Mem → Res → Prop} {μ : Mem} {res : Res} {x1 x2 x3 x4 x5 : Int32} {r0 o0 : Nat} {u6 : Option AV} : EvE C 65 9 [some (.inr (r0, 0, o0)), some (.inl x1), some (.inl x2), some (.inl x3), some (.inl x4), some (.inl x5), u6] [] μ res ↔ ((x1 < x5 → res = (some x3, μ)) ∧ (¬ (x1 < x5) → ∃ μ1, C 3 [.inr ((r0 + 2), 1, o0)] μ (none, μ1) ∧ (((μ1 (r0 + 2) 1 o0 3) = 0 → EvE C 65 40 [some (.inr (r0, 0, o0)), some (.inl x1), some (.inl x2), some (.inl x3), some (.inl x4), some (.inl x5), u6] [.inl 0] μ1 res) ∧ (¬ ((μ1 (r0 + 2) 1 o0 3) = 0) → EvE C 65 40 [some (.inr (r0, 0, o0)), some (.inl x1), some (.inl x2), some (.inl x3), some (.inl x4), some (.inl x5), u6] [.inl (x4 + 1)] μ1 res)))) := by
  refine (ev_iload dX7_firstOfRest_9 rfl).trans ?_
  refine (ev_iload_n dX7_firstOfRest_11 rfl).trans ?_
  refine (ev_icmp dX7_firstOfRest_12 (t := 111) (by decide)).trans (and_congr (imp_congr Iff.rfl ?_) (imp_congr Iff.rfl ?_))
  · refine (ev_iload_n dX7_firstOfRest_111 rfl).trans ?_
    exact ev_ireturn dX7_firstOfRest_112 rfl
  · refine (ev_aload_n dX7_firstOfRest_15 rfl).trans ?_
    refine (ev_getR dX7_firstOfRest_16 f_7_16 rfl).trans ((and_iff_right (by decide)).trans ?_)
    refine (ev_virV dX7_firstOfRest_19 c_7_103 (by decide) (As := []) rfl rfl rfl rfl (Nat.le_of_ble_eq_true rfl)).trans ((and_iff_right (by decide)).trans (exists_congr fun μ1 => and_congr_right fun _ => ?_))
    refine (ev_aload_n dX7_firstOfRest_22 rfl).trans ?_
    refine (ev_getR dX7_firstOfRest_23 f_7_16 rfl).trans ((and_iff_right (by decide)).trans ?_)
    refine (ev_getI2 dX7_firstOfRest_26 f_7_197 rfl (v := (μ1 (r0 + 2) 1 o0 3)) (rfl)).trans ((and_iff_right (by decide)).trans ?_)
    refine (ev_ifc dX7_firstOfRest_29 (t := 39) (by decide)).trans (and_congr (imp_congr Iff.rfl ?_) (imp_congr Iff.rfl ?_))
    · refine (ev_iconst dX7_firstOfRest_39 (w := 0) (by decide)).trans ?_
      exact Iff.rfl
    · refine (ev_iload dX7_firstOfRest_32 rfl).trans ?_
      refine (ev_iconst dX7_firstOfRest_34 (w := 1) (by decide)).trans ?_
      refine (ev_iadd dX7_firstOfRest_35).trans ?_
      refine (ev_goto dX7_firstOfRest_36 (t := 40) (by decide)).trans ?_
      exact Iff.rfl
theorem B65_40 {C : Nat → List AV → Mem → Res → Prop} {μ : Mem} {res : Res} {x1 x2 x3 x4 x5 w0 : Int32} {r0 o0 : Nat} {u6 : Option AV} : EvE C 65 40 [some (.inr (r0, 0, o0)), some (.inl x1), some (.inl x2), some (.inl x3), some (.inl x4), some (.inl x5), u6] [.inl w0] μ res ↔ ((¬ x3 = (-4) → EvE C 65 63 [some (.inr (r0, 0, o0)), some (.inl x1), some (.inl x2), some (.inl x3), some (.inl w0), some (.inl x5), u6] [] μ res) ∧ (¬ (¬ x3 = (-4)) → ((w0 < 24 → EvE C 65 63 [some (.inr (r0, 0, o0)), some (.inl x1), some (.inl x2), some (.inl x3), some (.inl w0), some (.inl x5), u6] [] μ res) ∧ (¬ (w0 < 24) → EvE C 65 63 [some (.inr (r0, 0, o0)), some (.inl x1), some (.inl x2), some (.inl ((x5 - 24) + 1)), some (.inl w0), some (.inl x5), u6] [] μ res)))) := by
  refine (ev_istore dX7_firstOfRest_40 (Nat.le_of_ble_eq_true rfl) rfl).trans ?_
  refine (ev_iload_n dX7_firstOfRest_42 rfl).trans ?_
  refine (ev_bipush dX7_firstOfRest_43 (w := (-4)) (by decide)).trans ?_
  refine (ev_icmp dX7_firstOfRest_45 (t := 63) (by decide)).trans (and_congr (imp_congr Iff.rfl ?_) (imp_congr Iff.rfl ?_))
  · exact Iff.rfl
  · refine (ev_iload dX7_firstOfRest_48 rfl).trans ?_
    refine (ev_bipush dX7_firstOfRest_50 (w := 24) (by decide)).trans ?_
    refine (ev_icmp dX7_firstOfRest_52 (t := 63) (by decide)).trans (and_congr (imp_congr Iff.rfl ?_) (imp_congr Iff.rfl ?_))
    · exact Iff.rfl
    · refine (ev_iload dX7_firstOfRest_55 rfl).trans ?_
      refine (ev_bipush dX7_firstOfRest_57 (w := 24) (by decide)).trans ?_
      refine (ev_isub dX7_firstOfRest_59).trans ?_
      refine (ev_iconst dX7_firstOfRest_60 (w := 1) (by decide)).trans ?_
      refine (ev_iadd dX7_firstOfRest_61).trans ?_
      refine (ev_istore_n dX7_firstOfRest_62 (Nat.le_of_ble_eq_true rfl) rfl).trans ?_
      exact Iff.rfl
theorem B65_63 {C : Nat → List AV → Mem → Res → Prop} {μ : Mem} {res : Res} {x1 x2 x3 x4 x5 : Int32} {r0 o0 : Nat} {u6 : Option AV} : EvE C 65 63 [some (.inr (r0, 0, o0)), some (.inl x1), some (.inl x2), some (.inl x3), some (.inl x4), some (.inl x5), u6] [] μ res ↔ ((¬ x3 = (-4) → EvE C 65 85 [some (.inr (r0, 0, o0)), some (.inl x1), some (.inl x2), some (.inl x3), some (.inl x4), some (.inl x5), u6] [] μ res) ∧ (¬ (¬ x3 = (-4)) → ((24 ≤ ((x4 + x1) - x5) → EvE C 65 85 [some (.inr (r0, 0, o0)), some (.inl x1), some (.inl x2), some (.inl x3), some (.inl x4), some (.inl x5), u6] [] μ res) ∧ (¬ (24 ≤ ((x4 + x1) - x5)) → EvE C 65 86 [some (.inr (r0, 0, o0)), some (.inl x1), some (.inl x2), some (.inl x3), some (.inl x4), some (.inl x5), u6] [.inl 1] μ res)))) := by
  refine (ev_iload_n dX7_firstOfRest_63 rfl).trans ?_
  refine (ev_bipush dX7_firstOfRest_64 (w := (-4)) (by decide)).trans ?_
  refine (ev_icmp dX7_firstOfRest_66 (t := 85) (by decide)).trans (and_congr (imp_congr Iff.rfl ?_) (imp_congr Iff.rfl ?_))
  · exact Iff.rfl
  · refine (ev_iload dX7_firstOfRest_69 rfl).trans ?_
    refine (ev_iload_n dX7_firstOfRest_71 rfl).trans ?_
    refine (ev_iadd dX7_firstOfRest_72).trans ?_
    refine (ev_iload dX7_firstOfRest_73 rfl).trans ?_
    refine (ev_isub dX7_firstOfRest_75).trans ?_
    refine (ev_bipush dX7_firstOfRest_76 (w := 24) (by decide)).trans ?_
    refine (ev_icmp dX7_firstOfRest_78 (t := 85) (by decide)).trans (and_congr (imp_congr Iff.rfl ?_) (imp_congr Iff.rfl ?_))
    · exact Iff.rfl
    · refine (ev_iconst dX7_firstOfRest_81 (w := 1) (by decide)).trans ?_
      refine (ev_goto dX7_firstOfRest_82 (t := 86) (by decide)).trans ?_
      exact Iff.rfl
theorem B65_85 {C : Nat → List AV → Mem → Res → Prop} {μ : Mem} {res : Res} {x1 x2 x3 x4 x5 : Int32} {r0 o0 : Nat} {u6 : Option AV} : EvE C 65 85 [some (.inr (r0, 0, o0)), some (.inl x1), some (.inl x2), some (.inl x3), some (.inl x4), some (.inl x5), u6] [] μ res ↔ EvE C 65 86 [some (.inr (r0, 0, o0)), some (.inl x1), some (.inl x2), some (.inl x3), some (.inl x4), some (.inl x5), u6] [.inl 0] μ res := by
  refine (ev_iconst dX7_firstOfRest_85 (w := 0) (by decide)).trans ?_
  exact Iff.rfl
theorem B65_86 {C : Nat → List AV → Mem → Res → Prop} {μ : Mem} {res : Res} {x1 x2 x3 x4 x5 w0 : Int32} {r0 o0 : Nat} {u6 : Option AV} : EvE C 65 86 [some (.inr (r0, 0, o0)), some (.inl x1), some (.inl x2), some (.inl x3), some (.inl x4), some (.inl x5), u6] [.inl w0] μ res ↔ ((¬ w0 = 0 → EvE C 65 103 [some (.inr (r0, 0, o0)), some (.inl x1), some (.inl x2), some (.inl x3), some (.inl x4), some (.inl x5), some (.inl w0)] [] μ res) ∧ (¬ (¬ w0 = 0) → ((x3 = (-4) → EvE C 65 105 [some (.inr (r0, 0, o0)), some (.inl x1), some (.inl x2), some (.inl x3), some (.inl x4), some (.inl x5), some (.inl w0)] [] μ res) ∧ (¬ (x3 = (-4)) → ((¬ x2 = 0 → EvE C 65 105 [some (.inr (r0, 0, o0)), some (.inl x1), some (.inl x2), some (.inl x3), some (.inl x4), some (.inl x5), some (.inl w0)] [] μ res) ∧ (¬ (¬ x2 = 0) → EvE C 65 103 [some (.inr (r0, 0, o0)), some (.inl x1), some (.inl x2), some (.inl x3), some (.inl x4), some (.inl x5), some (.inl w0)] [] μ res)))))) := by
  refine (ev_istore dX7_firstOfRest_86 (Nat.le_of_ble_eq_true rfl) rfl).trans ?_
  refine (ev_iload dX7_firstOfRest_88 rfl).trans ?_
  refine (ev_ifc dX7_firstOfRest_90 (t := 103) (by decide)).trans (and_congr (imp_congr Iff.rfl ?_) (imp_congr Iff.rfl ?_))
  · exact Iff.rfl
  · refine (ev_iload_n dX7_firstOfRest_93 rfl).trans ?_
    refine (ev_bipush dX7_firstOfRest_94 (w := (-4)) (by decide)).trans ?_
    refine (ev_icmp dX7_firstOfRest_96 (t := 105) (by decide)).trans (and_congr (imp_congr Iff.rfl ?_) (imp_congr Iff.rfl ?_))
    · exact Iff.rfl
    · refine (ev_iload_n dX7_firstOfRest_99 rfl).trans ?_
      refine (ev_ifc dX7_firstOfRest_100 (t := 105) (by decide)).trans (and_congr (imp_congr Iff.rfl ?_) (imp_congr Iff.rfl ?_))
      · exact Iff.rfl
      · exact Iff.rfl
theorem B65_103 {C : Nat → List AV → Mem → Res → Prop} {μ : Mem} {res : Res} {x1 x2 x3 x4 x5 x6 : Int32} {r0 o0 : Nat} : EvE C 65 103 [some (.inr (r0, 0, o0)), some (.inl x1), some (.inl x2), some (.inl x3), some (.inl x4), some (.inl x5), some (.inl x6)] [] μ res ↔ res = (some x3, μ) := by
  refine (ev_iload_n dX7_firstOfRest_103 rfl).trans ?_
  exact ev_ireturn dX7_firstOfRest_104 rfl
theorem B65_105 {C : Nat → List AV → Mem → Res → Prop} {μ : Mem} {res : Res} {x1 x2 x3 x4 x5 x6 : Int32} {r0 o0 : Nat} : EvE C 65 105 [some (.inr (r0, 0, o0)), some (.inl x1), some (.inl x2), some (.inl x3), some (.inl x4), some (.inl x5), some (.inl x6)] [] μ res ↔ EvE C 65 9 [some (.inr (r0, 0, o0)), some (.inl x1), some (.inl x2), some (.inl x3), some (.inl x4), some (.inl (x5 + 1)), some (.inl x6)] [] μ res := by
  refine (ev_iinc dX7_firstOfRest_105 rfl (w := 1) (by decide) rfl).trans ?_
  refine (ev_goto dX7_firstOfRest_108 (t := 9) (by decide)).trans ?_
  exact Iff.rfl
/-! X7_trialPrice -/
theorem B66_0 {C : Nat → List AV → Mem → Res → Prop} {μ : Mem} {res : Res} {r0 o0 : Nat} : EvE C 66 0 [some (.inr (r0, 0, o0))] [] μ res ↔ res = (some ((((μ (r0 + 2) 20 o0 9) - (μ (r0 + 1) 20 o0 9)) + (μ (r0 + 2) 1 o0 4)) - (μ (r0 + 1) 1 o0 4)), μ) := by
  refine (ev_aload_n dX7_trialPrice_0 rfl).trans ?_
  refine (ev_getR dX7_trialPrice_1 f_7_16 rfl).trans ((and_iff_right (by decide)).trans ?_)
  refine (ev_getR dX7_trialPrice_4 f_7_55 rfl).trans ((and_iff_right (by decide)).trans ?_)
  refine (ev_getI2 dX7_trialPrice_7 f_7_187 rfl (v := (μ (r0 + 2) 20 o0 9)) (rfl)).trans ((and_iff_right (by decide)).trans ?_)
  refine (ev_aload_n dX7_trialPrice_10 rfl).trans ?_
  refine (ev_getR dX7_trialPrice_11 f_7_10 rfl).trans ((and_iff_right (by decide)).trans ?_)
  refine (ev_getR dX7_trialPrice_14 f_7_55 rfl).trans ((and_iff_right (by decide)).trans ?_)
  refine (ev_getI2 dX7_trialPrice_17 f_7_187 rfl (v := (μ (r0 + 1) 20 o0 9)) (rfl)).trans ((and_iff_right (by decide)).trans ?_)
  refine (ev_isub dX7_trialPrice_20).trans ?_
  refine (ev_aload_n dX7_trialPrice_21 rfl).trans ?_
  refine (ev_getR dX7_trialPrice_22 f_7_16 rfl).trans ((and_iff_right (by decide)).trans ?_)
  refine (ev_getI2 dX7_trialPrice_25 f_7_193 rfl (v := (μ (r0 + 2) 1 o0 4)) (rfl)).trans ((and_iff_right (by decide)).trans ?_)
  refine (ev_iadd dX7_trialPrice_28).trans ?_
  refine (ev_aload_n dX7_trialPrice_29 rfl).trans ?_
  refine (ev_getR dX7_trialPrice_30 f_7_10 rfl).trans ((and_iff_right (by decide)).trans ?_)
  refine (ev_getI2 dX7_trialPrice_33 f_7_193 rfl (v := (μ (r0 + 1) 1 o0 4)) (rfl)).trans ((and_iff_right (by decide)).trans ?_)
  refine (ev_isub dX7_trialPrice_36).trans ?_
  exact ev_ireturn dX7_trialPrice_37 rfl
/-! X7_callerOf -/
theorem B67_0 {C : Nat → List AV → Mem → Res → Prop} {μ : Mem} {res : Res} {x1 : Int32} {r0 o0 : Nat} : EvE C 67 0 [some (.inr (r0, 0, o0)), some (.inl x1), none] [] μ res ↔ vp_in x1 120 ∧ ((¬ (μ (r0 + 1) 16 o0 x1.toNatClampNeg) = (-1) → (((μ (r0 + 1) 16 o0 x1.toNatClampNeg) < 1000 → vp_in (μ (r0 + 1) 16 o0 x1.toNatClampNeg) 120 ∧ EvE C 67 45 [some (.inr (r0, 0, o0)), some (.inl x1), some (.inl (μ (r0 + 1) 16 o0 x1.toNatClampNeg))] [.inl (μ (r0 + 1) 12 o0 (μ (r0 + 1) 16 o0 x1.toNatClampNeg).toNatClampNeg)] μ res) ∧ (¬ ((μ (r0 + 1) 16 o0 x1.toNatClampNeg) < 1000) → EvE C 67 45 [some (.inr (r0, 0, o0)), some (.inl x1), some (.inl (μ (r0 + 1) 16 o0 x1.toNatClampNeg))] [.inl (-4)] μ res))) ∧ (¬ (¬ (μ (r0 + 1) 16 o0 x1.toNatClampNeg) = (-1)) → res = (some (-3), μ))) := by
  refine (ev_aload_n dX7_callerOf_0 rfl).trans ?_
  refine (ev_getR dX7_callerOf_1 f_7_10 rfl).trans ((and_iff_right (by decide)).trans ?_)
  refine (ev_getR dX7_callerOf_4 f_7_118 rfl).trans ((and_iff_right (by decide)).trans ?_)
  refine (ev_getR dX7_callerOf_7 f_7_220 rfl).trans ((and_iff_right (by decide)).trans ?_)
  refine (ev_iload_n dX7_callerOf_10 rfl).trans ?_
  refine (ev_iald2 dX7_callerOf_11 (by decide) (v := (μ (r0 + 1) 16 o0 x1.toNatClampNeg)) (rfl)).trans (and_congr_right fun _ => ?_)
  refine (ev_istore_n dX7_callerOf_12 (Nat.le_of_ble_eq_true rfl) rfl).trans ?_
  refine (ev_iload_n dX7_callerOf_13 rfl).trans ?_
  refine (ev_iconst dX7_callerOf_14 (w := (-1)) (by decide)).trans ?_
  refine (ev_icmp dX7_callerOf_15 (t := 21) (by decide)).trans (and_congr (imp_congr Iff.rfl ?_) (imp_congr Iff.rfl ?_))
  · refine (ev_iload_n dX7_callerOf_21 rfl).trans ?_
    refine (ev_sipush dX7_callerOf_22 (w := 1000) (by decide)).trans ?_
    refine (ev_icmp dX7_callerOf_25 (t := 33) (by decide)).trans (and_congr (imp_congr Iff.rfl ?_) (imp_congr Iff.rfl ?_))
    · refine (ev_aload_n dX7_callerOf_33 rfl).trans ?_
      refine (ev_getR dX7_callerOf_34 f_7_10 rfl).trans ((and_iff_right (by decide)).trans ?_)
      refine (ev_getR dX7_callerOf_37 f_7_118 rfl).trans ((and_iff_right (by decide)).trans ?_)
      refine (ev_getR dX7_callerOf_40 f_7_144 rfl).trans ((and_iff_right (by decide)).trans ?_)
      refine (ev_iload_n dX7_callerOf_43 rfl).trans ?_
      refine (ev_iald2 dX7_callerOf_44 (by decide) (v := (μ (r0 + 1) 12 o0 (μ (r0 + 1) 16 o0 x1.toNatClampNeg).toNatClampNeg)) (rfl)).trans (and_congr_right fun _ => ?_)
      exact Iff.rfl
    · refine (ev_bipush dX7_callerOf_28 (w := (-4)) (by decide)).trans ?_
      refine (ev_goto dX7_callerOf_30 (t := 45) (by decide)).trans ?_
      exact Iff.rfl
  · refine (ev_bipush dX7_callerOf_18 (w := (-3)) (by decide)).trans ?_
    exact ev_ireturn dX7_callerOf_20 rfl
theorem B67_45 {C : Nat → List AV → Mem → Res → Prop} {μ : Mem} {res : Res} {x1 x2 w0 : Int32} {r0 o0 : Nat} : EvE C 67 45 [some (.inr (r0, 0, o0)), some (.inl x1), some (.inl x2)] [.inl w0] μ res ↔ res = (some w0, μ) := by
  exact ev_ireturn dX7_callerOf_45 rfl
/-! X7_isService -/
theorem B68_0 {C : Nat → List AV → Mem → Res → Prop} {μ : Mem} {res : Res} {x1 : Int32} {r0 o0 : Nat} : EvE C 68 0 [some (.inr (r0, 0, o0)), some (.inl x1)] [] μ res ↔ ∃ v1 μ1, C 72 [.inl x1, .inl 0, .inl ((μ (r0 + 1) 1 o0 1) - 1)] μ (some v1, μ1) ∧ (v1 = 0 ∨ v1 = 1) ∧ res = (some v1, μ1) := by
  refine (ev_iload_n dX7_isService_0 rfl).trans ?_
  refine (ev_iconst dX7_isService_1 (w := 0) (by decide)).trans ?_
  refine (ev_aload_n dX7_isService_2 rfl).trans ?_
  refine (ev_getR dX7_isService_3 f_7_10 rfl).trans ((and_iff_right (by decide)).trans ?_)
  refine (ev_getI2 dX7_isService_6 f_7_27 rfl (v := (μ (r0 + 1) 1 o0 1)) (rfl)).trans ((and_iff_right (by decide)).trans ?_)
  refine (ev_iconst dX7_isService_9 (w := 1) (by decide)).trans ?_
  refine (ev_isub dX7_isService_10).trans ?_
  refine (ev_staI dX7_isService_11 c_7_41 (by decide) (As := [.inl x1, .inl 0, .inl ((μ (r0 + 1) 1 o0 1) - 1)]) rfl rfl (by decide) rfl (Nat.le_of_ble_eq_true rfl)).trans (exists_congr fun v1 => exists_congr fun μ1 => and_congr_right fun _ => ?_)
  exact ev_zreturn dX7_isService_14 rfl
/-! X7_isKey -/
theorem B69_0 {C : Nat → List AV → Mem → Res → Prop} {μ : Mem} {res : Res} {x0 : Int32} : EvE C 69 0 [some (.inl x0)] [] μ res ↔ ∃ v1 μ1, C 72 [.inl x0, .inl 0, .inl 7] μ (some v1, μ1) ∧ (v1 = 0 ∨ v1 = 1) ∧ res = (some v1, μ1) := by
  refine (ev_iload_n dX7_isKey_0 rfl).trans ?_
  refine (ev_iconst dX7_isKey_1 (w := 0) (by decide)).trans ?_
  refine (ev_bipush dX7_isKey_2 (w := 7) (by decide)).trans ?_
  refine (ev_staI dX7_isKey_4 c_7_41 (by decide) (As := [.inl x0, .inl 0, .inl 7]) rfl rfl (by decide) rfl (Nat.le_of_ble_eq_true rfl)).trans (exists_congr fun v1 => exists_congr fun μ1 => and_congr_right fun _ => ?_)
  exact ev_zreturn dX7_isKey_7 rfl
/-! X7_isTriable -/
theorem B70_0 {C : Nat → List AV → Mem → Res → Prop} {μ : Mem} {res : Res} {x0 : Int32} : EvE C 70 0 [some (.inl x0)] [] μ res ↔ ∃ v1 μ1, C 72 [.inl x0, .inl 24, .inl 400] μ (some v1, μ1) ∧ (v1 = 0 ∨ v1 = 1) ∧ res = (some v1, μ1) := by
  refine (ev_iload_n dX7_isTriable_0 rfl).trans ?_
  refine (ev_bipush dX7_isTriable_1 (w := 24) (by decide)).trans ?_
  refine (ev_sipush dX7_isTriable_3 (w := 400) (by decide)).trans ?_
  refine (ev_staI dX7_isTriable_6 c_7_41 (by decide) (As := [.inl x0, .inl 24, .inl 400]) rfl rfl (by decide) rfl (Nat.le_of_ble_eq_true rfl)).trans (exists_congr fun v1 => exists_congr fun μ1 => and_congr_right fun _ => ?_)
  exact ev_zreturn dX7_isTriable_9 rfl
/-! X7_isRule -/
theorem B71_0 {C : Nat → List AV → Mem → Res → Prop} {μ : Mem} {res : Res} {x0 x1 : Int32} : EvE C 71 0 [some (.inl x0), some (.inl x1)] [] μ res ↔ ∃ v1 μ1, C 72 [.inl x0, .inl 0, .inl 9] μ (some v1, μ1) ∧ ((v1 = 0 → EvE C 71 31 [some (.inl x0), some (.inl x1)] [] μ1 res) ∧ (¬ (v1 = 0) → vp_in x0 10 ∧ vp_in x0 10 ∧ ∃ v2 μ2, C 72 [.inl x1, .inl (imC 90 x0.toNatClampNeg), .inl (imC 91 x0.toNatClampNeg)] μ1 (some v2, μ2) ∧ ((v2 = 0 → EvE C 71 31 [some (.inl x0), some (.inl x1)] [] μ2 res) ∧ (¬ (v2 = 0) → EvE C 71 32 [some (.inl x0), some (.inl x1)] [.inl 1] μ2 res)))) := by
  refine (ev_iload_n dX7_isRule_0 rfl).trans ?_
  refine (ev_iconst dX7_isRule_1 (w := 0) (by decide)).trans ?_
  refine (ev_bipush dX7_isRule_2 (w := 9) (by decide)).trans ?_
  refine (ev_staI dX7_isRule_4 c_7_41 (by decide) (As := [.inl x0, .inl 0, .inl 9]) rfl rfl (by decide) rfl (Nat.le_of_ble_eq_true rfl)).trans (exists_congr fun v1 => exists_congr fun μ1 => and_congr_right fun _ => ?_)
  refine (ev_ifc dX7_isRule_7 (t := 31) (by decide)).trans (and_congr (imp_congr Iff.rfl ?_) (imp_congr Iff.rfl ?_))
  · exact Iff.rfl
  · refine (ev_iload_n dX7_isRule_10 rfl).trans ?_
    refine (ev_gets dX7_isRule_11 (a := 90) (by decide)).trans ?_
    refine (ev_iload_n dX7_isRule_14 rfl).trans ?_
    refine (ev_imld dX7_isRule_15 (by decide)).trans (and_congr_right fun _ => ?_)
    refine (ev_gets dX7_isRule_16 (a := 91) (by decide)).trans ?_
    refine (ev_iload_n dX7_isRule_19 rfl).trans ?_
    refine (ev_imld dX7_isRule_20 (by decide)).trans (and_congr_right fun _ => ?_)
    refine (ev_staI dX7_isRule_21 c_7_41 (by decide) (As := [.inl x1, .inl (imC 90 x0.toNatClampNeg), .inl (imC 91 x0.toNatClampNeg)]) rfl rfl (by decide) rfl (Nat.le_of_ble_eq_true rfl)).trans (exists_congr fun v2 => exists_congr fun μ2 => and_congr_right fun _ => ?_)
    refine (ev_ifc dX7_isRule_24 (t := 31) (by decide)).trans (and_congr (imp_congr Iff.rfl ?_) (imp_congr Iff.rfl ?_))
    · exact Iff.rfl
    · refine (ev_iconst dX7_isRule_27 (w := 1) (by decide)).trans ?_
      refine (ev_goto dX7_isRule_28 (t := 32) (by decide)).trans ?_
      exact Iff.rfl
theorem B71_31 {C : Nat → List AV → Mem → Res → Prop} {μ : Mem} {res : Res} {x0 x1 : Int32} : EvE C 71 31 [some (.inl x0), some (.inl x1)] [] μ res ↔ EvE C 71 32 [some (.inl x0), some (.inl x1)] [.inl 0] μ res := by
  refine (ev_iconst dX7_isRule_31 (w := 0) (by decide)).trans ?_
  exact Iff.rfl
theorem B71_32 {C : Nat → List AV → Mem → Res → Prop} {μ : Mem} {res : Res} {x0 x1 w0 : Int32} : EvE C 71 32 [some (.inl x0), some (.inl x1)] [.inl w0] μ res ↔ (w0 = 0 ∨ w0 = 1) ∧ res = (some w0, μ) := by
  exact ev_zreturn dX7_isRule_32 rfl
/-! X7_within -/
theorem B72_0 {C : Nat → List AV → Mem → Res → Prop} {μ : Mem} {res : Res} {x0 x1 x2 : Int32} : EvE C 72 0 [some (.inl x0), some (.inl x1), some (.inl x2)] [] μ res ↔ ((x0 < x1 → EvE C 72 14 [some (.inl x0), some (.inl x1), some (.inl x2)] [] μ res) ∧ (¬ (x0 < x1) → ((x2 < x0 → EvE C 72 14 [some (.inl x0), some (.inl x1), some (.inl x2)] [] μ res) ∧ (¬ (x2 < x0) → EvE C 72 15 [some (.inl x0), some (.inl x1), some (.inl x2)] [.inl 1] μ res)))) := by
  refine (ev_iload_n dX7_within_0 rfl).trans ?_
  refine (ev_iload_n dX7_within_1 rfl).trans ?_
  refine (ev_icmp dX7_within_2 (t := 14) (by decide)).trans (and_congr (imp_congr Iff.rfl ?_) (imp_congr Iff.rfl ?_))
  · exact Iff.rfl
  · refine (ev_iload_n dX7_within_5 rfl).trans ?_
    refine (ev_iload_n dX7_within_6 rfl).trans ?_
    refine (ev_icmp dX7_within_7 (t := 14) (by decide)).trans (and_congr (imp_congr Iff.rfl ?_) (imp_congr Iff.rfl ?_))
    · exact Iff.rfl
    · refine (ev_iconst dX7_within_10 (w := 1) (by decide)).trans ?_
      refine (ev_goto dX7_within_11 (t := 15) (by decide)).trans ?_
      exact Iff.rfl
theorem B72_14 {C : Nat → List AV → Mem → Res → Prop} {μ : Mem} {res : Res} {x0 x1 x2 : Int32} : EvE C 72 14 [some (.inl x0), some (.inl x1), some (.inl x2)] [] μ res ↔ EvE C 72 15 [some (.inl x0), some (.inl x1), some (.inl x2)] [.inl 0] μ res := by
  refine (ev_iconst dX7_within_14 (w := 0) (by decide)).trans ?_
  exact Iff.rfl
theorem B72_15 {C : Nat → List AV → Mem → Res → Prop} {μ : Mem} {res : Res} {x0 x1 x2 w0 : Int32} : EvE C 72 15 [some (.inl x0), some (.inl x1), some (.inl x2)] [.inl w0] μ res ↔ (w0 = 0 ∨ w0 = 1) ∧ res = (some w0, μ) := by
  exact ev_zreturn dX7_within_15 rfl
/-! J9_floorMod_7cf53 -/
theorem B127_0 {C : Nat → List AV → Mem → Res → Prop} {μ : Mem} {res : Res} {x0 x1 : Int32} : EvE C 127 0 [some (.inl x0), some (.inl x1), none] [] μ res ↔ ¬ x1 = 0 ∧ ((0 ≤ (x0 ^^^ x1) → EvE C 127 18 [some (.inl x0), some (.inl x1), some (.inl (x0 - x0 / x1 * x1))] [] μ res) ∧ (¬ (0 ≤ (x0 ^^^ x1)) → (((x0 - x0 / x1 * x1) = 0 → EvE C 127 18 [some (.inl x0), some (.inl x1), some (.inl (x0 - x0 / x1 * x1))] [] μ res) ∧ (¬ ((x0 - x0 / x1 * x1) = 0) → res = (some ((x0 - x0 / x1 * x1) + x1), μ))))) := by
  refine (ev_iload_n dJ9_floorMod_7cf53_0 rfl).trans ?_
  refine (ev_iload_n dJ9_floorMod_7cf53_1 rfl).trans ?_
  refine (ev_irem dJ9_floorMod_7cf53_2).trans (and_congr_right fun _ => ?_)
  refine (ev_istore_n dJ9_floorMod_7cf53_3 (Nat.le_of_ble_eq_true rfl) rfl).trans ?_
  refine (ev_iload_n dJ9_floorMod_7cf53_4 rfl).trans ?_
  refine (ev_iload_n dJ9_floorMod_7cf53_5 rfl).trans ?_
  refine (ev_ixor dJ9_floorMod_7cf53_6).trans ?_
  refine (ev_ifc dJ9_floorMod_7cf53_7 (t := 18) (by decide)).trans (and_congr (imp_congr Iff.rfl ?_) (imp_congr Iff.rfl ?_))
  · exact Iff.rfl
  · refine (ev_iload_n dJ9_floorMod_7cf53_10 rfl).trans ?_
    refine (ev_ifc dJ9_floorMod_7cf53_11 (t := 18) (by decide)).trans (and_congr (imp_congr Iff.rfl ?_) (imp_congr Iff.rfl ?_))
    · exact Iff.rfl
    · refine (ev_iload_n dJ9_floorMod_7cf53_14 rfl).trans ?_
      refine (ev_iload_n dJ9_floorMod_7cf53_15 rfl).trans ?_
      refine (ev_iadd dJ9_floorMod_7cf53_16).trans ?_
      exact ev_ireturn dJ9_floorMod_7cf53_17 rfl
theorem B127_18 {C : Nat → List AV → Mem → Res → Prop} {μ : Mem} {res : Res} {x0 x1 x2 : Int32} : EvE C 127 18 [some (.inl x0), some (.inl x1), some (.inl x2)] [] μ res ↔ res = (some x2, μ) := by
  refine (ev_iload_n dJ9_floorMod_7cf53_18 rfl).trans ?_
  exact ev_ireturn dJ9_floorMod_7cf53_19 rfl
/-! J9_min_7cf53 -/
theorem B129_0 {C : Nat → List AV → Mem → Res → Prop} {μ : Mem} {res : Res} {x0 x1 : Int32} : EvE C 129 0 [some (.inl x0), some (.inl x1)] [] μ res ↔ ((x1 < x0 → EvE C 129 10 [some (.inl x0), some (.inl x1)] [.inl x1] μ res) ∧ (¬ (x1 < x0) → EvE C 129 10 [some (.inl x0), some (.inl x1)] [.inl x0] μ res)) := by
  refine (ev_iload_n dJ9_min_7cf53_0 rfl).trans ?_
  refine (ev_iload_n dJ9_min_7cf53_1 rfl).trans ?_
  refine (ev_icmp dJ9_min_7cf53_2 (t := 9) (by decide)).trans (and_congr (imp_congr Iff.rfl ?_) (imp_congr Iff.rfl ?_))
  · refine (ev_iload_n dJ9_min_7cf53_9 rfl).trans ?_
    exact Iff.rfl
  · refine (ev_iload_n dJ9_min_7cf53_5 rfl).trans ?_
    refine (ev_goto dJ9_min_7cf53_6 (t := 10) (by decide)).trans ?_
    exact Iff.rfl
theorem B129_10 {C : Nat → List AV → Mem → Res → Prop} {μ : Mem} {res : Res} {x0 x1 w0 : Int32} : EvE C 129 10 [some (.inl x0), some (.inl x1)] [.inl w0] μ res ↔ res = (some w0, μ) := by
  exact ev_ireturn dJ9_min_7cf53_10 rfl
/-! J7_fill_53178 -/
theorem B130v33_0 {C : Nat → List AV → Mem → Res → Prop} {μ : Mem} {res : Res} {x1 : Int32} {r0 o0 : Nat} : EvE C 130 0 [some (.inr (r0, 33, o0)), some (.inl x1), none, none] [] μ res ↔ EvE C 130 5 [some (.inr (r0, 33, o0)), some (.inl x1), some (.inl 0), some (.inl (nI 12))] [] μ res := by
  refine (ev_iconst dJ7_fill_53178_0 (w := 0) (by decide)).trans ?_
  refine (ev_istore_n dJ7_fill_53178_1 (Nat.le_of_ble_eq_true rfl) rfl).trans ?_
  refine (ev_aload_n dJ7_fill_53178_2 rfl).trans ?_
  refine (ev_alen dJ7_fill_53178_3 (by decide)).trans ?_
  refine (ev_istore_n dJ7_fill_53178_4 (Nat.le_of_ble_eq_true rfl) rfl).trans ?_
  exact Iff.rfl
theorem B130v33_5 {C : Nat → List AV → Mem → Res → Prop} {μ : Mem} {res : Res} {x1 x2 x3 : Int32} {r0 o0 : Nat} : EvE C 130 5 [some (.inr (r0, 33, o0)), some (.inl x1), some (.inl x2), some (.inl x3)] [] μ res ↔ ((x3 ≤ x2 → res = (none, μ)) ∧ (¬ (x3 ≤ x2) → vp_in x2 12 ∧ EvE C 130 5 [some (.inr (r0, 33, o0)), some (.inl x1), some (.inl (x2 + 1)), some (.inl x3)] [] (mset μ r0 33 o0 x2.toNatClampNeg x1) res)) := by
  refine (ev_iload_n dJ7_fill_53178_5 rfl).trans ?_
  refine (ev_iload_n dJ7_fill_53178_6 rfl).trans ?_
  refine (ev_icmp dJ7_fill_53178_7 (t := 20) (by decide)).trans (and_congr (imp_congr Iff.rfl ?_) (imp_congr Iff.rfl ?_))
  · exact ev_return dJ7_fill_53178_20 rfl
  · refine (ev_aload_n dJ7_fill_53178_10 rfl).trans ?_
    refine (ev_iload_n dJ7_fill_53178_11 rfl).trans ?_
    refine (ev_iload_n dJ7_fill_53178_12 rfl).trans ?_
    refine (ev_iast dJ7_fill_53178_13 (by decide)).trans (and_congr_right fun _ => ?_)
    refine (ev_iinc dJ7_fill_53178_14 rfl (w := 1) (by decide) rfl).trans ?_
    refine (ev_goto dJ7_fill_53178_17 (t := 5) (by decide)).trans ?_
    exact Iff.rfl
theorem B130v34_0 {C : Nat → List AV → Mem → Res → Prop} {μ : Mem} {res : Res} {x1 : Int32} {r0 o0 : Nat} : EvE C 130 0 [some (.inr (r0, 34, o0)), some (.inl x1), none, none] [] μ res ↔ EvE C 130 5 [some (.inr (r0, 34, o0)), some (.inl x1), some (.inl 0), some (.inl (nI 12))] [] μ res := by
  refine (ev_iconst dJ7_fill_53178_0 (w := 0) (by decide)).trans ?_
  refine (ev_istore_n dJ7_fill_53178_1 (Nat.le_of_ble_eq_true rfl) rfl).trans ?_
  refine (ev_aload_n dJ7_fill_53178_2 rfl).trans ?_
  refine (ev_alen dJ7_fill_53178_3 (by decide)).trans ?_
  refine (ev_istore_n dJ7_fill_53178_4 (Nat.le_of_ble_eq_true rfl) rfl).trans ?_
  exact Iff.rfl
theorem B130v34_5 {C : Nat → List AV → Mem → Res → Prop} {μ : Mem} {res : Res} {x1 x2 x3 : Int32} {r0 o0 : Nat} : EvE C 130 5 [some (.inr (r0, 34, o0)), some (.inl x1), some (.inl x2), some (.inl x3)] [] μ res ↔ ((x3 ≤ x2 → res = (none, μ)) ∧ (¬ (x3 ≤ x2) → vp_in x2 12 ∧ EvE C 130 5 [some (.inr (r0, 34, o0)), some (.inl x1), some (.inl (x2 + 1)), some (.inl x3)] [] (mset μ r0 34 o0 x2.toNatClampNeg x1) res)) := by
  refine (ev_iload_n dJ7_fill_53178_5 rfl).trans ?_
  refine (ev_iload_n dJ7_fill_53178_6 rfl).trans ?_
  refine (ev_icmp dJ7_fill_53178_7 (t := 20) (by decide)).trans (and_congr (imp_congr Iff.rfl ?_) (imp_congr Iff.rfl ?_))
  · exact ev_return dJ7_fill_53178_20 rfl
  · refine (ev_aload_n dJ7_fill_53178_10 rfl).trans ?_
    refine (ev_iload_n dJ7_fill_53178_11 rfl).trans ?_
    refine (ev_iload_n dJ7_fill_53178_12 rfl).trans ?_
    refine (ev_iast dJ7_fill_53178_13 (by decide)).trans (and_congr_right fun _ => ?_)
    refine (ev_iinc dJ7_fill_53178_14 rfl (w := 1) (by decide) rfl).trans ?_
    refine (ev_goto dJ7_fill_53178_17 (t := 5) (by decide)).trans ?_
    exact Iff.rfl
